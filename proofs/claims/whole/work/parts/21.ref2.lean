/-! the reference: what a car wants, bills, payments -/
def wantB (M : Mo) (i : Nat) : Int := if 8 * M.2 14 i ≤ 10 * M.2 15 i then M.2 16 i / 2 else M.2 16 i
def wantD (M : Mo) (i : Nat) : Int := if M.1 5 < 0 then wantB M i * (100 + M.1 5) / 100 else wantB M i
def wantM (M : Mo) (i : Nat) : Int := if wantD M i < M.2 14 i - M.2 15 i then wantD M i else M.2 14 i - M.2 15 i
theorem wantB_in {M : Mo} {i : Nat} (h : okCa M i) : 0 ≤ wantB M i ∧ wantB M i ≤ 50000 := by
  unfold okCa at h
  unfold wantB
  split <;> omega
theorem mul_in {a c A B : Int} (h1 : 0 ≤ a) (h2 : a ≤ A) (h3 : 0 ≤ c) (h4 : c ≤ B) : 0 ≤ a * c ∧ a * c ≤ A * B := ⟨Int.mul_nonneg h1 h3, Int.mul_le_mul h2 h4 h3 (by omega)⟩
theorem wantD_in {M : Mo} {i : Nat} (h0 : okSc M) (h : okCa M i) : 0 ≤ wantD M i ∧ wantD M i ≤ 50000 := by
  have h1 := wantB_in h
  unfold okSc at h0
  unfold wantD
  split
  · have h2 := mul_in (a := wantB M i) (c := 100 + M.1 5) (A := 50000) (B := 100) h1.1 h1.2 (by omega) (by omega)
    omega
  · exact h1
theorem wantM_in {M : Mo} {i : Nat} (h0 : okSc M) (h : okCa M i) : 0 ≤ wantM M i ∧ wantM M i ≤ 50000 ∧ wantM M i ≤ M.2 14 i - M.2 15 i := by
  have h1 := wantD_in h0 h
  unfold okCa at h
  unfold wantM
  split <;> omega
/-- a session's bill by energies and idle minutes -/
def billM (M : Mo) (k : Nat) (d n i : Int) : Int := M.2 24 (4 * k) + d * M.2 24 (4 * k + 1) / 60000 + n * M.2 24 (4 * k + 2) / 60000 + (if 10 < i then i - 10 else 0) * M.2 24 (4 * k + 3)
def oweM (M : Mo) (k : Nat) (c : Int) : Mo := setA M 25 (3 * (M.2 18 (M.2 33 k).toNat).toNat + (M.2 7 (M.2 31 k).toNat).toNat) (M.2 25 (3 * (M.2 18 (M.2 33 k).toNat).toNat + (M.2 7 (M.2 31 k).toNat).toNat) + if M.2 18 (M.2 33 k).toNat = M.2 7 (M.2 31 k).toNat then 0 else c)
def payM (M : Mo) (k : Nat) : Mo := oweM (setA (setA (setA M 34 k 3) 46 k (billM M k (M.2 39 k) (M.2 40 k) (M.2 41 k))) 22 (M.2 33 k).toNat (M.2 22 (M.2 33 k).toNat + billM M k (M.2 39 k) (M.2 40 k) (M.2 41 k))) k (95 * billM M k (M.2 39 k) (M.2 40 k) (M.2 41 k) / 100)
def heardM (M : Mo) (k : Nat) : Mo := setA (setA (setA (setA M 38 k (M.2 37 k)) 42 k (M.2 39 k)) 43 k (M.2 40 k)) 44 k (M.2 41 k)
def hearM (M : Mo) (k : Nat) : Mo := if M.2 34 k = 2 then payM (heardM M k) k else heardM M k
/-- what a bill's parts must be -/
def okT (M : Mo) (k : Nat) : Prop := (0 ≤ M.2 24 (4 * k) ∧ M.2 24 (4 * k) ≤ 1000) ∧ (0 ≤ M.2 24 (4 * k + 1) ∧ M.2 24 (4 * k + 1) ≤ 1000) ∧ (0 ≤ M.2 24 (4 * k + 2) ∧ M.2 24 (4 * k + 2) ≤ 1000) ∧ 0 ≤ M.2 24 (4 * k + 3) ∧ M.2 24 (4 * k + 3) ≤ 1000
def okW (M : Mo) (k : Nat) : Prop := (0 ≤ M.2 33 k ∧ M.2 33 k < 12) ∧ (0 ≤ M.2 18 (M.2 33 k).toNat ∧ M.2 18 (M.2 33 k).toNat < 3) ∧ (0 ≤ M.2 31 k ∧ M.2 31 k < 8) ∧ 0 ≤ M.2 7 (M.2 31 k).toNat ∧ M.2 7 (M.2 31 k).toNat < 3
theorem OkM.T {M : Mo} (h : OkM M) {k : Nat} (hk : k < 40) : okT M k := ⟨h.2.2.2.2.2.2 _ (by omega), h.2.2.2.2.2.2 _ (by omega), h.2.2.2.2.2.2 _ (by omega), h.2.2.2.2.2.2 _ (by omega)⟩
theorem OkM.W {M : Mo} (h : OkM M) {k : Nat} (hk : (k : Int) < M.1 30) : okW M k := by
  have h0 := h.1
  have h1 := (h.2.2.2.2.1 k hk).1
  unfold okSc at h0
  unfold okSe at h1
  have h2 := h.2.2.2.1 (M.2 33 k).toNat (by omega)
  have h3 := h.2.1 (M.2 31 k).toNat (by omega)
  unfold okCd at h2
  unfold okSo at h3
  unfold okW
  omega
theorem bill_in {M : Mo} {k : Nat} {d n i : Int} (h : okT M k) (hd : 0 ≤ d ∧ d ≤ 6000000) (hn : 0 ≤ n ∧ n ≤ 6000000) (hi : 0 ≤ i ∧ i ≤ 20000) : 0 ≤ billM M k d n i ∧ billM M k d n i ≤ 20300000 := by
  obtain ⟨t0, t1, t2, t3⟩ := h
  have e1 := mul_in hd.1 hd.2 t1.1 t1.2
  have e2 := mul_in hn.1 hn.2 t2.1 t2.2
  have e3 := mul_in (a := if 10 < i then i - 10 else 0) (A := 20000) (by split <;> omega) (by split <;> omega) t3.1 t3.2
  unfold billM
  omega
section REF2
variable {l : Launch} {D : va_G} {kA : Nat → ClassId} {b t0 mo : Nat} {ad : Nat → Nat} {M : Mo}

set_option maxRecDepth 20000 in
theorem c_X10_wants (hl : l.stackTraces = false) {i : Nat} {z : Int} (hO : OkM M) (hi : (i : Int) < M.1 13) (hz : z = (i : Int)) : Cr l D kA b t0 mo ad yX10_wants cX10_wants 4 (some FieldType.int) 0 0 [rv (some mo), iv z] M (fun v M2 => M2 = M ∧ v = some (iv (wantM M i))) := by
  refine Cr_mk hl (by decide) (Nat.le_of_ble_eq_true rfl) rfl ?_
  intro X0 p e s m args below meth c C hr
  subst hz
  have h0 := hO.1
  have h1 := hO.2.2.1 i hi
  unfold okSc at h0
  unfold okCa at h1
  refine R_join C (pcm := 43) (P := fun z => z = wantB M i) (fun hj => ?_) (fun z1 hz1 => ?_)
  · refine R_ldc2 C dX10_wants_0 qX10_217 ?_
    refine R_aload_n C dX10_wants_3 rfl ?_
    refine R_getA C cl11 fX10_39 (by decide) dX10_wants_4 ?_
    refine R_iload_n C dX10_wants_7 rfl ?_
    refine R_iald C (j := i) (kf := 15) rfl (show i < 12 by omega) rfl (x := M.2 15 i) rfl dX10_wants_8 ?_
    refine R_i2l C dX10_wants_9 (by omega) ?_
    refine R_lmul C dX10_wants_10 ?_
    refine R_ldc2 C dX10_wants_11 qX10_219 ?_
    refine R_aload_n C dX10_wants_14 rfl ?_
    refine R_getA C cl11 fX10_36 (by decide) dX10_wants_15 ?_
    refine R_iload_n C dX10_wants_18 rfl ?_
    refine R_iald C (j := i) (kf := 14) rfl (show i < 12 by omega) rfl (x := M.2 14 i) rfl dX10_wants_19 ?_
    refine R_i2l C dX10_wants_20 (by omega) ?_
    refine R_lmul C dX10_wants_21 ?_
    refine R_lcmp C dX10_wants_22 (by omega) (by omega) ?_
    refine R_if_lt C dX10_wants_23 (by split <;> (try split) <;> decide) (fun h23 => ?_) (fun h23 => ?_)
    · refine R_aload_n C dX10_wants_37 rfl ?_
      refine R_getA C cl11 fX10_42 (by decide) dX10_wants_38 ?_
      refine R_iload_n C dX10_wants_41 rfl ?_
      refine R_iald C (j := i) (kf := 16) rfl (show i < 12 by omega) rfl (x := M.2 16 i) rfl dX10_wants_42 ?_
      exact hj _ (by unfold wantB; split at h23 <;> (try split at h23) <;> (split <;> omega))
    · refine R_aload_n C dX10_wants_26 rfl ?_
      refine R_getA C cl11 fX10_42 (by decide) dX10_wants_27 ?_
      refine R_iload_n C dX10_wants_30 rfl ?_
      refine R_iald C (j := i) (kf := 16) rfl (show i < 12 by omega) rfl (x := M.2 16 i) rfl dX10_wants_31 ?_
      refine R_iconst C dX10_wants_32 ?_
      refine R_idivN C dX10_wants_33 (by omega) (by decide) (by omega) (by first | decide | omega) ?_
      refine R_goto C dX10_wants_34 ?_
      exact hj _ (by unfold wantB; split at h23 <;> (try split at h23) <;> (split <;> omega))
  have hb1 := wantB_in (hO.2.2.1 i hi)
  refine R_istore_n C dX10_wants_43 (by decide) rfl ?_
  refine R_join C (pcm := 67) (P := fun z => z = wantD M i) (fun hj => ?_) (fun z2 hz2 => ?_)
  · refine R_aload_n C dX10_wants_44 rfl ?_
    refine R_getS C cl11 fX10_13 (x := M.1 5) rfl (by decide) dX10_wants_45 ?_
    refine R_if_ge C dX10_wants_48 (by omega) (fun h48 => ?_) (fun h48 => ?_)
    · refine R_iload_n C dX10_wants_66 rfl ?_
      exact hj _ (by unfold wantD; rw [hz1]; first | rw [if_neg (by omega)] | rw [if_pos (by omega)])
    · refine R_iload_n C dX10_wants_51 rfl ?_
      refine R_bipush C dX10_wants_52 (by decide) ?_
      refine R_aload_n C dX10_wants_54 rfl ?_
      refine R_getS C cl11 fX10_13 (x := M.1 5) rfl (by decide) dX10_wants_55 ?_
      refine R_iadd C dX10_wants_58 ?_
      refine R_imul C dX10_wants_59 ?_
      refine R_bipush C dX10_wants_60 (by decide) ?_
      have hm := mul_in (a := z1) (c := 100 + M.1 5) (A := 50000) (B := 100) (by omega) (by omega) (by omega) (by omega)
      refine R_idivN C dX10_wants_62 (by omega) (by decide) (by omega) (by first | decide | omega) ?_
      refine R_goto C dX10_wants_63 ?_
      exact hj _ (by unfold wantD; rw [hz1]; first | rw [if_neg (by omega)] | rw [if_pos (by omega)])
  have hb2 := wantD_in hO.1 (hO.2.2.1 i hi)
  refine R_istore_n C dX10_wants_67 (by decide) rfl ?_
  refine R_aload_n C dX10_wants_68 rfl ?_
  refine R_getA C cl11 fX10_36 (by decide) dX10_wants_69 ?_
  refine R_iload_n C dX10_wants_72 rfl ?_
  refine R_iald C (j := i) (kf := 14) rfl (show i < 12 by omega) rfl (x := M.2 14 i) rfl dX10_wants_73 ?_
  refine R_aload_n C dX10_wants_74 rfl ?_
  refine R_getA C cl11 fX10_39 (by decide) dX10_wants_75 ?_
  refine R_iload_n C dX10_wants_78 rfl ?_
  refine R_iald C (j := i) (kf := 15) rfl (show i < 12 by omega) rfl (x := M.2 15 i) rfl dX10_wants_79 ?_
  refine R_isub C dX10_wants_80 ?_
  refine R_istore_n C dX10_wants_81 (by decide) rfl ?_
  refine R_iload_n C dX10_wants_82 rfl ?_
  refine R_iload_n C dX10_wants_83 rfl ?_
  refine R_icmp_ge C dX10_wants_84 (by omega) (by omega) (fun h84 => ?_) (fun h84 => ?_)
  · refine R_iload_n C dX10_wants_91 rfl ?_
    exact R_iret C ⟨rfl, ivc (by unfold wantM; split <;> omega)⟩ hr dX10_wants_92
  · refine R_iload_n C dX10_wants_87 rfl ?_
    refine R_goto C dX10_wants_88 ?_
    exact R_iret C ⟨rfl, ivc (by unfold wantM; split <;> omega)⟩ hr dX10_wants_92
set_option maxRecDepth 20000 in
theorem c_X10_billBy (hl : l.stackTraces = false) {k : Nat} {x n i : Int} (ht : okT M k) (hk : k < 40) (hd : 0 ≤ x ∧ x ≤ 6000000) (hn : 0 ≤ n ∧ n ≤ 6000000) (hi : 0 ≤ i ∧ i ≤ 20000) {z : Int} (hz : z = (k : Int)) : Cr l D kA b t0 mo ad yX10_billBy cX10_billBy 9 (some FieldType.int) 0 0 [rv (some mo), iv z, iv x, iv n, iv i] M (fun v M2 => M2 = M ∧ v = some (iv (billM M k x n i))) := by
  refine Cr_mk hl (by decide) (Nat.le_of_ble_eq_true rfl) rfl ?_
  intro X0 p e s m args below meth c C hr
  subst hz
  have ht' := ht
  unfold okT at ht'
  have e1 := mul_in hd.1 hd.2 ht'.2.1.1 ht'.2.1.2
  have e2 := mul_in hn.1 hn.2 ht'.2.2.1.1 ht'.2.2.1.2
  refine R_iconst C dX10_billBy_0 ?_
  refine R_iload_n C dX10_billBy_1 rfl ?_
  refine R_imul C dX10_billBy_2 ?_
  refine R_istore C dX10_billBy_3 (by decide) rfl ?_
  refine R_join C (pcm := 21) (P := fun z => z = (if 10 < i then i - 10 else 0)) (fun hj => ?_) (fun z1 hz1 => ?_)
  · refine R_iload C dX10_billBy_5 rfl ?_
    refine R_bipush C dX10_billBy_7 (by decide) ?_
    refine R_icmp_le C dX10_billBy_9 (by omega) (by decide) (fun h9 => ?_) (fun h9 => ?_)
    · refine R_iconst C dX10_billBy_20 ?_
      exact hj _ (by split <;> omega)
    · refine R_iload C dX10_billBy_12 rfl ?_
      refine R_bipush C dX10_billBy_14 (by decide) ?_
      refine R_isub C dX10_billBy_16 ?_
      refine R_goto C dX10_billBy_17 ?_
      exact hj _ (by split <;> omega)
  refine R_istore C dX10_billBy_21 (by decide) rfl ?_
  refine R_iload_n C dX10_billBy_23 rfl ?_
  refine R_i2l C dX10_billBy_24 (by omega) ?_
  refine R_aload_n C dX10_billBy_25 rfl ?_
  refine R_getA C cl11 fX10_63 (by decide) dX10_billBy_26 ?_
  refine R_iload C dX10_billBy_29 rfl ?_
  refine R_iconst C dX10_billBy_31 ?_
  refine R_iadd C dX10_billBy_32 ?_
  refine R_iald C (j := ((4 * k) + 1)) (kf := 24) rfl (show ((4 * k) + 1) < 160 by omega) (by omega) (x := M.2 24 (((4 * k) + 1))) rfl dX10_billBy_33 ?_
  refine R_i2l C dX10_billBy_34 (by omega) ?_
  refine R_lmul C dX10_billBy_35 ?_
  refine R_ldc2 C dX10_billBy_36 qX10_201 ?_
  refine R_ldivN C dX10_billBy_39 (by omega) (by decide) (by omega) (by decide) ?_
  refine R_l2i C dX10_billBy_40 ?_
  refine R_istore C dX10_billBy_41 (by decide) rfl ?_
  refine R_iload_n C dX10_billBy_43 rfl ?_
  refine R_i2l C dX10_billBy_44 (by omega) ?_
  refine R_aload_n C dX10_billBy_45 rfl ?_
  refine R_getA C cl11 fX10_63 (by decide) dX10_billBy_46 ?_
  refine R_iload C dX10_billBy_49 rfl ?_
  refine R_iconst C dX10_billBy_51 ?_
  refine R_iadd C dX10_billBy_52 ?_
  refine R_iald C (j := ((4 * k) + 2)) (kf := 24) rfl (show ((4 * k) + 2) < 160 by omega) (by omega) (x := M.2 24 (((4 * k) + 2))) rfl dX10_billBy_53 ?_
  refine R_i2l C dX10_billBy_54 (by omega) ?_
  refine R_lmul C dX10_billBy_55 ?_
  refine R_ldc2 C dX10_billBy_56 qX10_201 ?_
  refine R_ldivN C dX10_billBy_59 (by omega) (by decide) (by omega) (by decide) ?_
  refine R_l2i C dX10_billBy_60 ?_
  refine R_istore C dX10_billBy_61 (by decide) rfl ?_
  refine R_aload_n C dX10_billBy_63 rfl ?_
  refine R_getA C cl11 fX10_63 (by decide) dX10_billBy_64 ?_
  refine R_iload C dX10_billBy_67 rfl ?_
  refine R_iald C (j := (4 * k)) (kf := 24) rfl (show (4 * k) < 160 by omega) (by omega) (x := M.2 24 (4 * k)) rfl dX10_billBy_69 ?_
  refine R_iload C dX10_billBy_70 rfl ?_
  refine R_iadd C dX10_billBy_72 ?_
  refine R_iload C dX10_billBy_73 rfl ?_
  refine R_iadd C dX10_billBy_75 ?_
  refine R_iload C dX10_billBy_76 rfl ?_
  refine R_aload_n C dX10_billBy_78 rfl ?_
  refine R_getA C cl11 fX10_63 (by decide) dX10_billBy_79 ?_
  refine R_iload C dX10_billBy_82 rfl ?_
  refine R_iconst C dX10_billBy_84 ?_
  refine R_iadd C dX10_billBy_85 ?_
  refine R_iald C (j := ((4 * k) + 3)) (kf := 24) rfl (show ((4 * k) + 3) < 160 by omega) (by omega) (x := M.2 24 (((4 * k) + 3))) rfl dX10_billBy_86 ?_
  refine R_imul C dX10_billBy_87 ?_
  refine R_iadd C dX10_billBy_88 ?_
  exact R_iret C ⟨rfl, ivc (by rw [hz1]; rfl)⟩ hr dX10_billBy_89
set_option maxRecDepth 20000 in
theorem c_X10_owe (hl : l.stackTraces = false) {k : Nat} {x : Int} (ht : okW M k) (hk : k < 40) {z : Int} (hz : z = (k : Int)) : Cr l D kA b t0 mo ad yX10_owe cX10_owe 5 none 0 0 [rv (some mo), iv z, iv x] M (fun v M2 => M2 = oweM M k x ∧ v = none) := by
  refine Cr_mk hl (by decide) (Nat.le_of_ble_eq_true rfl) rfl ?_
  intro X0 p e s m args below meth c C hr
  subst hz
  have ht9 := ht
  unfold okW at ht9
  refine R_aload_n C dX10_owe_0 rfl ?_
  refine R_getA C cl11 fX10_45 (by decide) dX10_owe_1 ?_
  refine R_aload_n C dX10_owe_4 rfl ?_
  refine R_getA C cl11 fX10_87 (by decide) dX10_owe_5 ?_
  refine R_iload_n C dX10_owe_8 rfl ?_
  refine R_iald C (j := k) (kf := 33) rfl (show k < 40 by omega) rfl (x := M.2 33 k) rfl dX10_owe_9 ?_
  refine R_iald C (j := (M.2 33 k).toNat) (kf := 18) rfl (show (M.2 33 k).toNat < 12 by omega) (by omega) (x := M.2 18 (M.2 33 k).toNat) rfl dX10_owe_10 ?_
  refine R_istore_n C dX10_owe_11 (by decide) rfl ?_
  refine R_aload_n C dX10_owe_12 rfl ?_
  refine R_getA C cl11 fX10_16 (by decide) dX10_owe_13 ?_
  refine R_aload_n C dX10_owe_16 rfl ?_
  refine R_getA C cl11 fX10_81 (by decide) dX10_owe_17 ?_
  refine R_iload_n C dX10_owe_20 rfl ?_
  refine R_iald C (j := k) (kf := 31) rfl (show k < 40 by omega) rfl (x := M.2 31 k) rfl dX10_owe_21 ?_
  refine R_iald C (j := (M.2 31 k).toNat) (kf := 7) rfl (show (M.2 31 k).toNat < 8 by omega) (by omega) (x := M.2 7 (M.2 31 k).toNat) rfl dX10_owe_22 ?_
  refine R_istore C dX10_owe_23 (by decide) rfl ?_
  refine R_aload_n C dX10_owe_25 rfl ?_
  refine R_getA C cl11 fX10_66 (by decide) dX10_owe_26 ?_
  refine R_iconst C dX10_owe_29 ?_
  refine R_iload_n C dX10_owe_30 rfl ?_
  refine R_imul C dX10_owe_31 ?_
  refine R_iload C dX10_owe_32 rfl ?_
  refine R_iadd C dX10_owe_34 ?_
  refine R_dup2 C dX10_owe_35 rfl rfl ?_
  refine R_iald C (j := ((3 * (M.2 18 (M.2 33 k).toNat).toNat) + (M.2 7 (M.2 31 k).toNat).toNat)) (kf := 25) rfl (show ((3 * (M.2 18 (M.2 33 k).toNat).toNat) + (M.2 7 (M.2 31 k).toNat).toNat) < 9 by omega) (by omega) (x := M.2 25 (((3 * (M.2 18 (M.2 33 k).toNat).toNat) + (M.2 7 (M.2 31 k).toNat).toNat))) rfl dX10_owe_36 ?_
  refine R_join C (pcm := 48) (P := fun z => z = (if M.2 18 (M.2 33 k).toNat = M.2 7 (M.2 31 k).toNat then 0 else x)) (fun hj => ?_) (fun z1 hz1 => ?_)
  · refine R_iload_n C dX10_owe_37 rfl ?_
    refine R_iload C dX10_owe_38 rfl ?_
    refine R_icmp_ne C dX10_owe_40 (by omega) (by omega) (fun h40 => ?_) (fun h40 => ?_)
    · refine R_iload_n C dX10_owe_47 rfl ?_
      exact hj _ (by split <;> omega)
    · refine R_iconst C dX10_owe_43 ?_
      refine R_goto C dX10_owe_44 ?_
      exact hj _ (by split <;> omega)
  subst hz1
  refine R_iadd C dX10_owe_48 ?_
  refine R_iast C (j := ((3 * (M.2 18 (M.2 33 k).toNat).toNat) + (M.2 7 (M.2 31 k).toNat).toNat)) (kf := 25) rfl (show ((3 * (M.2 18 (M.2 33 k).toNat).toNat) + (M.2 7 (M.2 31 k).toNat).toNat) < 9 by omega) (by omega) dX10_owe_49 ?_
  exact R_vret C ⟨rfl, rfl⟩ hr dX10_owe_50
set_option maxRecDepth 20000 in
theorem c_X10_payFor (hl : l.stackTraces = false) {k : Nat} (hT : okT M k) (hw : okW M k) (hk : k < 40) (hd : 0 ≤ M.2 39 k ∧ M.2 39 k ≤ 6000000) (hn : 0 ≤ M.2 40 k ∧ M.2 40 k ≤ 6000000) (hi : 0 ≤ M.2 41 k ∧ M.2 41 k ≤ 20000) {z : Int} (hz : z = (k : Int)) : Cr l D kA b t0 mo ad yX10_payFor cX10_payFor 3 none 1 28 [rv (some mo), iv z] M (fun v M2 => M2 = payM M k ∧ v = none) := by
  refine Cr_mk hl (by decide) (Nat.le_of_ble_eq_true rfl) rfl ?_
  intro X0 p e s m args below meth c C hr
  subst hz
  have hB := bill_in hT hd hn hi
  have hw9 := hw
  unfold okW at hw9
  refine R_aload_n C dX10_payFor_0 rfl ?_
  refine R_getA C cl11 fX10_90 (by decide) dX10_payFor_1 ?_
  refine R_iload_n C dX10_payFor_4 rfl ?_
  refine R_iconst C dX10_payFor_5 ?_
  refine R_iast C (j := k) (kf := 34) rfl (show k < 40 by omega) rfl dX10_payFor_6 ?_
  refine R_aload_n C dX10_payFor_7 rfl ?_
  refine R_getA C cl11 fX10_87 (by decide) dX10_payFor_8 ?_
  refine R_iload_n C dX10_payFor_11 rfl ?_
  refine R_iald C (j := k) (kf := 33) rfl (show k < 40 by omega) rfl (x := M.2 33 k) rfl dX10_payFor_12 ?_
  refine R_istore_n C dX10_payFor_13 (by decide) rfl ?_
  refine R_aload_n C dX10_payFor_14 rfl ?_
  refine R_getA C cl11 fX10_126 (by decide) dX10_payFor_15 ?_
  refine R_iload_n C dX10_payFor_18 rfl ?_
  refine R_aload_n C dX10_payFor_19 rfl ?_
  refine R_iload_n C dX10_payFor_20 rfl ?_
  refine R_aload_n C dX10_payFor_21 rfl ?_
  refine R_getA C cl11 fX10_105 (by decide) dX10_payFor_22 ?_
  refine R_iload_n C dX10_payFor_25 rfl ?_
  refine R_iald C (j := k) (kf := 39) rfl (show k < 40 by omega) rfl (x := M.2 39 k) rfl dX10_payFor_26 ?_
  refine R_aload_n C dX10_payFor_27 rfl ?_
  refine R_getA C cl11 fX10_108 (by decide) dX10_payFor_28 ?_
  refine R_iload_n C dX10_payFor_31 rfl ?_
  refine R_iald C (j := k) (kf := 40) rfl (show k < 40 by omega) rfl (x := M.2 40 k) rfl dX10_payFor_32 ?_
  refine R_aload_n C dX10_payFor_33 rfl ?_
  refine R_getA C cl11 fX10_111 (by decide) dX10_payFor_34 ?_
  refine R_iload_n C dX10_payFor_37 rfl ?_
  refine R_iald C (j := k) (kf := 41) rfl (show k < 40 by omega) rfl (x := M.2 41 k) rfl dX10_payFor_38 ?_
  refine R_callVi C (As := [_, _, _, _]) (c_X10_billBy hl (M := setA M 34 k 3) (k := k) (x := M.2 39 k) (n := M.2 40 k) (i := M.2 41 k) hT hk hd hn hi rfl) kX10_203 rfl rfl (Nat.le_of_ble_eq_true rfl) ⟨by decide, by decide⟩ ⟨Nat.le_refl _, Nat.le_refl _⟩ dX10_payFor_39 ?_
  refine R_iast C (j := k) (kf := 46) rfl (show k < 40 by omega) rfl dX10_payFor_42 ?_
  refine R_aload_n C dX10_payFor_43 rfl ?_
  refine R_getA C cl11 fX10_57 (by decide) dX10_payFor_44 ?_
  refine R_iload_n C dX10_payFor_47 rfl ?_
  refine R_dup2 C dX10_payFor_48 rfl rfl ?_
  refine R_iald C (j := (M.2 33 k).toNat) (kf := 22) rfl (show (M.2 33 k).toNat < 12 by omega) (by omega) (x := M.2 22 (M.2 33 k).toNat) rfl dX10_payFor_49 ?_
  refine R_aload_n C dX10_payFor_50 rfl ?_
  refine R_getA C cl11 fX10_126 (by decide) dX10_payFor_51 ?_
  refine R_iload_n C dX10_payFor_54 rfl ?_
  refine R_iald C (j := k) (kf := 46) rfl (show k < 40 by omega) rfl (x := billM M k (M.2 39 k) (M.2 40 k) (M.2 41 k)) (by simp [setA]; rfl) dX10_payFor_55 ?_
  refine R_iadd C dX10_payFor_56 ?_
  refine R_iast C (j := (M.2 33 k).toNat) (kf := 22) rfl (show (M.2 33 k).toNat < 12 by omega) (by omega) dX10_payFor_57 ?_
  refine R_aload_n C dX10_payFor_58 rfl ?_
  refine R_iload_n C dX10_payFor_59 rfl ?_
  refine R_ldc2 C dX10_payFor_60 qX10_207 ?_
  refine R_aload_n C dX10_payFor_63 rfl ?_
  refine R_getA C cl11 fX10_126 (by decide) dX10_payFor_64 ?_
  refine R_iload_n C dX10_payFor_67 rfl ?_
  refine R_iald C (j := k) (kf := 46) rfl (show k < 40 by omega) rfl (x := billM M k (M.2 39 k) (M.2 40 k) (M.2 41 k)) (by simp [setA]; rfl) dX10_payFor_68 ?_
  refine R_i2l C dX10_payFor_69 (by omega) ?_
  refine R_lmul C dX10_payFor_70 ?_
  refine R_ldc2 C dX10_payFor_71 qX10_209 ?_
  refine R_ldivN C dX10_payFor_74 (by omega) (by decide) (by omega) (by decide) ?_
  refine R_l2i C dX10_payFor_75 ?_
  refine R_callVv C (As := [_, _]) (c_X10_owe hl (M := setA (setA (setA M 34 k 3) 46 k (billM M k (M.2 39 k) (M.2 40 k) (M.2 41 k))) 22 (M.2 33 k).toNat (M.2 22 (M.2 33 k).toNat + billM M k (M.2 39 k) (M.2 40 k) (M.2 41 k))) (k := k) hw hk rfl) kX10_211 rfl rfl (Nat.le_of_ble_eq_true rfl) ⟨by decide, by decide⟩ ⟨Nat.le_refl _, Nat.le_refl _⟩ dX10_payFor_76 ?_
  exact R_vret C ⟨rfl, rfl⟩ hr dX10_payFor_79
set_option maxRecDepth 20000 in
theorem c_X10_hear (hl : l.stackTraces = false) {k : Nat} (hT : okT M k) (hw : okW M k) (hk : k < 40) (hd : 0 ≤ M.2 39 k ∧ M.2 39 k ≤ 6000000) (hn : 0 ≤ M.2 40 k ∧ M.2 40 k ≤ 6000000) (hi : 0 ≤ M.2 41 k ∧ M.2 41 k ≤ 20000) (hh : rng (M.2 34 k)) : Cr l D kA b t0 mo ad yX10_hear cX10_hear 3 (some FieldType.int) 2 50 [rv (some mo), iv (k : Int)] M (fun v M2 => M2 = hearM M k ∧ v = some (iv (M.2 37 k - M.2 38 k))) := by
  refine Cr_mk hl (by decide) (Nat.le_of_ble_eq_true rfl) rfl ?_
  intro X0 p e s m args below meth c C hr
  refine R_aload_n C dX10_hear_0 rfl ?_
  refine R_getA C cl11 fX10_99 (by decide) dX10_hear_1 ?_
  refine R_iload_n C dX10_hear_4 rfl ?_
  refine R_iald C (j := k) (kf := 37) rfl (show k < 40 by omega) rfl (x := M.2 37 k) rfl dX10_hear_5 ?_
  refine R_aload_n C dX10_hear_6 rfl ?_
  refine R_getA C cl11 fX10_102 (by decide) dX10_hear_7 ?_
  refine R_iload_n C dX10_hear_10 rfl ?_
  refine R_iald C (j := k) (kf := 38) rfl (show k < 40 by omega) rfl (x := M.2 38 k) rfl dX10_hear_11 ?_
  refine R_isub C dX10_hear_12 ?_
  refine R_istore_n C dX10_hear_13 (by decide) rfl ?_
  refine R_aload_n C dX10_hear_14 rfl ?_
  refine R_getA C cl11 fX10_102 (by decide) dX10_hear_15 ?_
  refine R_iload_n C dX10_hear_18 rfl ?_
  refine R_aload_n C dX10_hear_19 rfl ?_
  refine R_getA C cl11 fX10_99 (by decide) dX10_hear_20 ?_
  refine R_iload_n C dX10_hear_23 rfl ?_
  refine R_iald C (j := k) (kf := 37) rfl (show k < 40 by omega) rfl (x := M.2 37 k) rfl dX10_hear_24 ?_
  refine R_iast C (j := k) (kf := 38) rfl (show k < 40 by omega) rfl dX10_hear_25 ?_
  refine R_aload_n C dX10_hear_26 rfl ?_
  refine R_getA C cl11 fX10_114 (by decide) dX10_hear_27 ?_
  refine R_iload_n C dX10_hear_30 rfl ?_
  refine R_aload_n C dX10_hear_31 rfl ?_
  refine R_getA C cl11 fX10_105 (by decide) dX10_hear_32 ?_
  refine R_iload_n C dX10_hear_35 rfl ?_
  refine R_iald C (j := k) (kf := 39) rfl (show k < 40 by omega) rfl (x := M.2 39 k) rfl dX10_hear_36 ?_
  refine R_iast C (j := k) (kf := 42) rfl (show k < 40 by omega) rfl dX10_hear_37 ?_
  refine R_aload_n C dX10_hear_38 rfl ?_
  refine R_getA C cl11 fX10_117 (by decide) dX10_hear_39 ?_
  refine R_iload_n C dX10_hear_42 rfl ?_
  refine R_aload_n C dX10_hear_43 rfl ?_
  refine R_getA C cl11 fX10_108 (by decide) dX10_hear_44 ?_
  refine R_iload_n C dX10_hear_47 rfl ?_
  refine R_iald C (j := k) (kf := 40) rfl (show k < 40 by omega) rfl (x := M.2 40 k) rfl dX10_hear_48 ?_
  refine R_iast C (j := k) (kf := 43) rfl (show k < 40 by omega) rfl dX10_hear_49 ?_
  refine R_aload_n C dX10_hear_50 rfl ?_
  refine R_getA C cl11 fX10_120 (by decide) dX10_hear_51 ?_
  refine R_iload_n C dX10_hear_54 rfl ?_
  refine R_aload_n C dX10_hear_55 rfl ?_
  refine R_getA C cl11 fX10_111 (by decide) dX10_hear_56 ?_
  refine R_iload_n C dX10_hear_59 rfl ?_
  refine R_iald C (j := k) (kf := 41) rfl (show k < 40 by omega) rfl (x := M.2 41 k) rfl dX10_hear_60 ?_
  refine R_iast C (j := k) (kf := 44) rfl (show k < 40 by omega) rfl dX10_hear_61 ?_
  refine R_aload_n C dX10_hear_62 rfl ?_
  refine R_getA C cl11 fX10_90 (by decide) dX10_hear_63 ?_
  refine R_iload_n C dX10_hear_66 rfl ?_
  refine R_iald C (j := k) (kf := 34) rfl (show k < 40 by omega) rfl (x := M.2 34 k) rfl dX10_hear_67 ?_
  refine R_iconst C dX10_hear_68 ?_
  refine R_icmp_ne C dX10_hear_69 hh (by decide) (fun h69 => ?_) (fun h69 => ?_)
  · refine R_iload_n C dX10_hear_77 rfl ?_
    exact R_iret C ⟨by unfold hearM; first | (rw [if_pos (by assumption)]; done) | (rw [if_neg (by assumption)]; done) | (rw [if_pos (by assumption)]; rfl) | (rw [if_neg (by assumption)]; rfl), rfl⟩ hr dX10_hear_78
  · refine R_aload_n C dX10_hear_72 rfl ?_
    refine R_iload_n C dX10_hear_73 rfl ?_
    refine R_callVv C (As := [_]) (c_X10_payFor hl (M := heardM M k) (k := k) hT hw hk hd hn hi rfl) kX10_181 rfl rfl (Nat.le_of_ble_eq_true rfl) ⟨by decide, by decide⟩ ⟨Nat.le_refl _, Nat.le_refl _⟩ dX10_hear_74 ?_
    refine R_iload_n C dX10_hear_77 rfl ?_
    exact R_iret C ⟨by unfold hearM; first | (rw [if_pos (by assumption)]; done) | (rw [if_neg (by assumption)]; done) | (rw [if_pos (by assumption)]; rfl) | (rw [if_neg (by assumption)]; rfl), rfl⟩ hr dX10_hear_78
end REF2
