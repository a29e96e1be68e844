/-! the reference: a minute -/
def oneM (M0 : Mo) (P : Nat → Int) (day : Int) (M : Mo) (k : Nat) : Mo :=
  if M0.2 34 k = 1 then
    (if M0.2 10 (M0.2 31 k).toNat = 0 then heardM (setA (setA (setA (setA (setA (setA (setA M 41 k (M.2 41 k + if P k = 0 ∧ M.2 15 (M0.2 32 k).toNat = M0.2 14 (M0.2 32 k).toNat then 1 else 0)) 15 (M0.2 32 k).toNat (M.2 15 (M0.2 32 k).toNat + P k)) 35 k (M.2 35 k + P k)) 36 k (P k)) 39 k (M.2 39 k + if day = 1 then P k else 0)) 40 k (M.2 40 k + if day = 1 then 0 else P k)) 37 k (M.2 37 k + 1)) k
     else setA (setA (setA (setA (setA (setA (setA M 41 k (M.2 41 k + if P k = 0 ∧ M.2 15 (M0.2 32 k).toNat = M0.2 14 (M0.2 32 k).toNat then 1 else 0)) 15 (M0.2 32 k).toNat (M.2 15 (M0.2 32 k).toNat + P k)) 35 k (M.2 35 k + P k)) 36 k (P k)) 39 k (M.2 39 k + if day = 1 then P k else 0)) 40 k (M.2 40 k + if day = 1 then 0 else P k)) 37 k (M.2 37 k + 1))
  else M
def ptM (M0 : Mo) (P : Nat → Int) (day : Int) : Nat → Mo → Mo
  | 0, M => M
  | k + 1, M => oneM M0 P day (ptM M0 P day k M) k
def dayM (M : Mo) : Int := if 360 ≤ M.1 1 % 1440 ∧ M.1 1 % 1440 ≤ 1319 then 1 else 0
/-- the rows that a minute's walk leaves -/
def stR (j : Nat) : Bool := !(j == 41 || j == 15 || j == 35 || j == 36 || j == 39 || j == 40 || j == 37 || j == 38 || j == 42 || j == 43 || j == 44)
theorem oneM_st (M0 : Mo) (P : Nat → Int) (day : Int) (M : Mo) (k : Nat) : (oneM M0 P day M k).1 = M.1 ∧ ∀ j, stR j = true → (oneM M0 P day M k).2 j = M.2 j := by
  unfold oneM heardM
  constructor
  · split
    · split <;> rfl
    · rfl
  · intro j hj
    have h : ∀ i, stR i = false → j ≠ i := fun i hi e => by rw [e, hi] at hj; cases hj
    have h1 := h 41 rfl
    have h2 := h 15 rfl
    have h3 := h 35 rfl
    have h4 := h 36 rfl
    have h5 := h 39 rfl
    have h6 := h 40 rfl
    have h7 := h 37 rfl
    have h8 := h 38 rfl
    have h9 := h 42 rfl
    have h10 := h 43 rfl
    have h11 := h 44 rfl
    funext x
    split
    · split <;> simp [setA, h1, h2, h3, h4, h5, h6, h7, h8, h9, h10, h11]
    · rfl
theorem ptM_st (M0 : Mo) (P : Nat → Int) (day : Int) (M : Mo) (k : Nat) : (ptM M0 P day k M).1 = M.1 ∧ ∀ j, stR j = true → (ptM M0 P day k M).2 j = M.2 j := by
  induction k with
  | zero => exact ⟨rfl, fun _ _ => rfl⟩
  | succ k ih =>
    have h := oneM_st M0 P day (ptM M0 P day k M) k
    exact ⟨h.1.trans ih.1, fun j hj => (h.2 j hj).trans (ih.2 j hj)⟩
/-- charges while a minute's walk goes on -/
theorem ptM_ch (M0 : Mo) (P : Nat → Int) (day : Int) (M : Mo) (n : Nat) (hP : ∀ k, k < n → 0 ≤ P k ∧ P k ≤ 50000) (i : Nat) : ∀ k, k ≤ n → M.2 15 i ≤ (ptM M0 P day k M).2 15 i ∧ (ptM M0 P day k M).2 15 i ≤ M.2 15 i + 50000 * k := by
  intro k
  induction k with
  | zero => exact fun _ => ⟨Int.le_refl _, by show M.2 15 i ≤ M.2 15 i + 50000 * ((0 : Nat) : Int); omega⟩
  | succ k ih =>
    intro hk
    have h1 := ih (by omega)
    have h2 := hP k (by omega)
    have h3 : (ptM M0 P day (k + 1) M).2 15 i = (ptM M0 P day k M).2 15 i ∨ (ptM M0 P day (k + 1) M).2 15 i = (ptM M0 P day k M).2 15 i + P k := by
      show (oneM M0 P day (ptM M0 P day k M) k).2 15 i = _ ∨ (oneM M0 P day (ptM M0 P day k M) k).2 15 i = _
      unfold oneM heardM
      by_cases e : i = (M0.2 32 k).toNat
      · split
        · right
          split <;> simp [setA, e]
        · left
          rfl
      · left
        split
        · split <;> simp [setA, e]
        · rfl
    omega
theorem setA_setR (M : Mo) (j k : Nat) (f : Nat → Int) (v : Int) : setA (setR M j f) j k v = setR M j (fun i => if i = k then v else f i) := by
  unfold setA setR
  refine Prod.ext rfl ?_
  funext i x
  by_cases h : i = j
  · subst h; simp
  · simp [h]
def lisM (M : Mo) : Mo := if M.1 1 % 1440 = 0 then setR M 21 (pre (M.2 20) (M.2 21) (M.1 17).toNat) else M
/-- behind a minute's walk -/
def m1M (M : Mo) (n : Nat) : Mo := setS (bp M (BM M n) (powM M n)) 2 (M.1 2 + if M.1 3 + M.1 4 < sumF (powM M n) n then 1 else 0)
def pass1 (M : Mo) (n : Nat) (M2 : Mo) : Prop := ∃ c a f t, lateI (M.1 1 + 1) (M.2 26) (M.2 27) (M.2 28) (M.2 29) c a f t (M.1 6).toNat ∧ M2 = lisM (bkM (setS (ptM M (powM M n) (dayM M) n (m1M M n)) 1 (M.1 1 + 1)) c a f t)
def okBk (M : Mo) : Prop := (∀ u, u < 8 → 0 ≤ M.2 26 u ∧ M.2 26 u ≤ 512) ∧ ∀ u : Nat, (u : Int) < M.1 6 → ∀ q ∈ bkL M u, 0 ≤ q.2.1 ∧ q.2.1 ≤ 20000
section REF8
variable {l : Launch} {D : va_G} {kA : Nat → ClassId} {b t0 mo : Nat} {ad : Nat → Nat} {M : Mo}

set_option maxRecDepth 20000 in
theorem c_X10_hear1 (hl : l.stackTraces = false) {k : Nat} {z : Int} (hz : z = (k : Int)) (hk : k < 40) (h1 : M.2 34 k = 1) : Cr l D kA b t0 mo ad yX10_hear cX10_hear 3 (some FieldType.int) 2 50 [rv (some mo), iv z] M (fun v M2 => M2 = heardM M k ∧ v = some (iv (M.2 37 k - M.2 38 k))) := by
  refine Cr_mk hl (by decide) (Nat.le_of_ble_eq_true rfl) rfl ?_
  intro X0 p e s m args below meth c C hr
  subst hz
  refine R_aload_n C dX10_hear_0 rfl ?_
  refine R_getA C cl11 fX10_99 (by decide) dX10_hear_1 ?_
  refine R_iload_n C dX10_hear_4 rfl ?_
  refine R_iald C (j := k) (kf := 37) rfl (show k < 40 by omega) rfl (x := M.2 37 k) rfl dX10_hear_5 ?_
  refine R_aload_n C dX10_hear_6 rfl ?_
  refine R_getA C cl11 fX10_102 (by decide) dX10_hear_7 ?_
  refine R_iload_n C dX10_hear_10 rfl ?_
  refine R_iald C (j := k) (kf := 38) rfl (show k < 40 by omega) rfl (x := M.2 38 k) rfl dX10_hear_11 ?_
  refine R_isub C dX10_hear_12 ?_
  refine R_istore_n C dX10_hear_13 (by decide) rfl ?_
  refine R_aload_n C dX10_hear_14 rfl ?_
  refine R_getA C cl11 fX10_102 (by decide) dX10_hear_15 ?_
  refine R_iload_n C dX10_hear_18 rfl ?_
  refine R_aload_n C dX10_hear_19 rfl ?_
  refine R_getA C cl11 fX10_99 (by decide) dX10_hear_20 ?_
  refine R_iload_n C dX10_hear_23 rfl ?_
  refine R_iald C (j := k) (kf := 37) rfl (show k < 40 by omega) rfl (x := M.2 37 k) rfl dX10_hear_24 ?_
  refine R_iast C (j := k) (kf := 38) rfl (show k < 40 by omega) rfl dX10_hear_25 ?_
  refine R_aload_n C dX10_hear_26 rfl ?_
  refine R_getA C cl11 fX10_114 (by decide) dX10_hear_27 ?_
  refine R_iload_n C dX10_hear_30 rfl ?_
  refine R_aload_n C dX10_hear_31 rfl ?_
  refine R_getA C cl11 fX10_105 (by decide) dX10_hear_32 ?_
  refine R_iload_n C dX10_hear_35 rfl ?_
  refine R_iald C (j := k) (kf := 39) rfl (show k < 40 by omega) rfl (x := M.2 39 k) rfl dX10_hear_36 ?_
  refine R_iast C (j := k) (kf := 42) rfl (show k < 40 by omega) rfl dX10_hear_37 ?_
  refine R_aload_n C dX10_hear_38 rfl ?_
  refine R_getA C cl11 fX10_117 (by decide) dX10_hear_39 ?_
  refine R_iload_n C dX10_hear_42 rfl ?_
  refine R_aload_n C dX10_hear_43 rfl ?_
  refine R_getA C cl11 fX10_108 (by decide) dX10_hear_44 ?_
  refine R_iload_n C dX10_hear_47 rfl ?_
  refine R_iald C (j := k) (kf := 40) rfl (show k < 40 by omega) rfl (x := M.2 40 k) rfl dX10_hear_48 ?_
  refine R_iast C (j := k) (kf := 43) rfl (show k < 40 by omega) rfl dX10_hear_49 ?_
  refine R_aload_n C dX10_hear_50 rfl ?_
  refine R_getA C cl11 fX10_120 (by decide) dX10_hear_51 ?_
  refine R_iload_n C dX10_hear_54 rfl ?_
  refine R_aload_n C dX10_hear_55 rfl ?_
  refine R_getA C cl11 fX10_111 (by decide) dX10_hear_56 ?_
  refine R_iload_n C dX10_hear_59 rfl ?_
  refine R_iald C (j := k) (kf := 41) rfl (show k < 40 by omega) rfl (x := M.2 41 k) rfl dX10_hear_60 ?_
  refine R_iast C (j := k) (kf := 44) rfl (show k < 40 by omega) rfl dX10_hear_61 ?_
  refine R_aload_n C dX10_hear_62 rfl ?_
  refine R_getA C cl11 fX10_90 (by decide) dX10_hear_63 ?_
  refine R_iload_n C dX10_hear_66 rfl ?_
  refine R_iald C (j := k) (kf := 34) rfl (show k < 40 by omega) rfl (x := M.2 34 k) rfl dX10_hear_67 ?_
  refine R_iconst C dX10_hear_68 ?_
  refine R_icmp_ne C dX10_hear_69 (show rng (M.2 34 k) by omega) (by decide) (fun h69 => ?_) (fun h69 => ?_)
  · refine R_iload_n C dX10_hear_77 rfl ?_
    exact R_iret C ⟨rfl, rfl⟩ hr dX10_hear_78
  · refine R_aload_n C dX10_hear_72 rfl ?_
    refine R_iload_n C dX10_hear_73 rfl ?_
    omega
set_option maxRecDepth 20000 in
theorem c_X10_passOne (hl : l.stackTraces = false) {n : Nat} (hO : OkM M) (hn : (n : Int) = M.1 30) (hBk : okBk M) (hnow : M.1 1 < 20000) : Cr l D kA b t0 mo ad yX10_passOne cX10_passOne 4 none 4 97 [rv (some mo)] M (fun v M2 => v = none ∧ pass1 M n M2) := by
  refine Cr_mk hl (by decide) (Nat.le_of_ble_eq_true rfl) rfl ?_
  intro X0 p e s m args below meth c C hr
  have h0 := hO.1
  unfold okSc at h0
  have hPin : ∀ k, k < n → 0 ≤ powM M n k ∧ powM M n k ≤ 50000 := fun k hk => by
    have z1 := powM_in hO hn hk
    have z2 := bndM_in hO (by omega : (k : Int) < M.1 30)
    omega
  have hsm := sumF_in hPin
  refine R_aload_n C dX10_passOne_0 rfl ?_
  refine R_dup C dX10_passOne_1 rfl ?_
  refine R_getS C cl11 fX10_248 (x := M.1 2) rfl (by decide) dX10_passOne_2 ?_
  refine R_aload_n C dX10_passOne_5 rfl ?_
  refine R_callVi C (As := []) (c_X10_find hl hO hn) kX10_251 rfl rfl (Nat.le_of_ble_eq_true rfl) ⟨by decide, by decide⟩ ⟨Nat.le_refl _, Nat.le_refl _⟩ dX10_passOne_6 ?_
  refine R_joinP C (pcm := 26) (P := fun z => z = (if M.1 3 + M.1 4 < sumF (powM M n) n then 1 else 0)) (fun hj => ?_) (fun z0 hz0 => ?_)
  · refine R_aload_n C dX10_passOne_9 rfl ?_
    refine R_getS C cl11 fX10_7 (x := M.1 3) rfl (by decide) dX10_passOne_10 ?_
    refine R_aload_n C dX10_passOne_13 rfl ?_
    refine R_getS C cl11 fX10_175 (x := M.1 4) rfl (by decide) dX10_passOne_14 ?_
    refine R_iadd C dX10_passOne_17 ?_
    refine R_icmp_le C dX10_passOne_18 (by omega) (by omega) (fun h18 => ?_) (fun h18 => ?_)
    · refine R_iconst C dX10_passOne_25 ?_
      exact hj _ (by split <;> omega)
    · refine R_iconst C dX10_passOne_21 ?_
      refine R_goto C dX10_passOne_22 ?_
      exact hj _ (by split <;> omega)
  subst hz0
  refine R_iadd C dX10_passOne_26 ?_
  refine R_putS C cl11 fX10_248 rfl (by decide) rfl dX10_passOne_27 ?_
  refine R_aload_n C dX10_passOne_30 rfl ?_
  refine R_getS C cl11 fX10_188 (x := M.1 1) rfl (by decide) dX10_passOne_31 ?_
  refine R_sipush C dX10_passOne_34 (by decide) ?_
  refine R_iremN C dX10_passOne_37 (by omega) (by decide) (by omega) (by first | decide | omega) ?_
  refine R_sipush C dX10_passOne_38 (by decide) ?_
  refine R_sipush C dX10_passOne_41 (by decide) ?_
  refine R_callSz C (As := [_, _, _]) (c_X10_in hl (a := 360) (c := 1319) (by omega) (by decide) (by decide)) kX10_141 rfl rfl (Nat.le_of_ble_eq_true rfl) ⟨by decide, by decide⟩ ⟨Nat.le_refl _, Nat.le_refl _⟩ dX10_passOne_44 (fun z44 hz44 => ?_)
  refine R_istore_n C dX10_passOne_47 (by decide) rfl ?_
  refine R_iconst C dX10_passOne_48 ?_
  refine R_istore_n C dX10_passOne_49 (by decide) rfl ?_
  have e44 : z44 = dayM M := by unfold dayM; split <;> omega
  rw [e44]
  have hdm : dayM M = 0 ∨ dayM M = 1 := by omega
  refine R_while C (St := Nat × Mo × Option Value) (f := fun x => x.2.1) (g := fun x => [some (rv (some mo)), some (iv (dayM M)), some (iv (x.1 : Int)), x.2.2]) (μ := fun x => 41 - x.1) (I := fun x => x.1 ≤ n ∧ x.2.1 = ptM M (powM M n) (dayM M) x.1 (m1M M n)) (x0 := (0, m1M M n, none)) rfl rfl ⟨Nat.zero_le _, rfl⟩ ?_
  rintro ⟨k, M9, u3⟩ ⟨hkn, hM9⟩ ih
  dsimp only at hkn hM9 ih ⊢
  have hst := ptM_st M (powM M n) (dayM M) (m1M M n) k
  rw [← hM9] at hst
  have hs1 := hst.1
  have hag := hst.2
  have hch := fun i => ptM_ch M (powM M n) (dayM M) (m1M M n) n hPin i k hkn
  rw [← hM9] at hch
  refine R_iload_n C dX10_passOne_50 rfl ?_
  refine R_aload_n C dX10_passOne_51 rfl ?_
  refine R_getS C cl11 fX10_151 (x := M.1 30) (congrFun hs1 30) (by decide) dX10_passOne_52 ?_
  refine R_icmp_ge C dX10_passOne_55 (by omega) (by omega) (fun h55 => ?_) (fun h55 => ?_)
  · have ekn : n = k := by omega
    subst ekn
    refine R_aload_n C dX10_passOne_237 rfl ?_
    refine R_dup C dX10_passOne_238 rfl ?_
    refine R_getS C cl11 fX10_188 (x := M.1 1) (congrFun hs1 1) (by decide) dX10_passOne_239 ?_
    refine R_iconst C dX10_passOne_242 ?_
    refine R_iadd C dX10_passOne_243 ?_
    refine R_putS C cl11 fX10_188 rfl (by decide) rfl dX10_passOne_244 ?_
    obtain ⟨M8, hM8⟩ : ∃ M8, M8 = setS M9 1 (M.1 1 + 1) := ⟨_, rfl⟩
    rw [← hM8]
    have h8a : M8.1 = fun j => if j = 1 then M.1 1 + 1 else (m1M M n).1 j := by rw [hM8]; show (fun j => if j = 1 then M.1 1 + 1 else M9.1 j) = _; rw [hs1]
    have h8b : ∀ j, stR j = true → M8.2 j = (m1M M n).2 j := fun j hj => by rw [hM8]; exact hag j hj
    have e8 : M8 = bkM M8 (M.2 26) (M.2 27) (M.2 28) (M.2 29) := by
      have h := bkM_self M8
      rw [h8b 26 rfl, h8b 27 rfl, h8b 28 rfl, h8b 29 rfl] at h
      exact h.symm
    have h86 : M8.1 6 = M.1 6 := by rw [h8a]; rfl
    have h81 : M8.1 1 = M.1 1 + 1 := by rw [h8a]; rfl
    have h817 : M8.1 17 = M.1 17 := by rw [h8a]; rfl
    have h820 : M8.2 20 = M.2 20 := h8b 20 rfl
    have h821 : M8.2 21 = M.2 21 := h8b 21 rfl
    rw [e8]
    refine R_aload_n C dX10_passOne_247 rfl ?_
    refine R_callV C (As := []) (c_X10_lateGo hl (M := M8) (c := M.2 26) (a := M.2 27) (f := M.2 28) (t := M.2 29) (by omega) (by omega) hBk.1 (fun u hu q hq => hBk.2 u (by omega) q hq)) kX10_255 rfl rfl (Nat.le_of_ble_eq_true rfl) ⟨by decide, by decide⟩ ⟨Nat.le_refl _, Nat.le_refl _⟩ dX10_passOne_248 (fun v M2 hp => ?_)
    obtain ⟨c2, a2, f2, t2, rfl, rfl, hla⟩ := hp
    rw [h81, h86] at hla
    refine R_iconst C dX10_passOne_251 ?_
    refine R_istore_n C dX10_passOne_252 (by decide) rfl ?_
    refine R_while C (St := Nat) (f := fun x => if (M.1 1 + 1) % 1440 = 0 then setR (bkM M8 c2 a2 f2 t2) 21 (pre (M.2 20) (M.2 21) x) else bkM M8 c2 a2 f2 t2) (g := fun x => [some (rv (some mo)), some (iv (dayM M)), some (iv (x : Int)), _]) (μ := fun x => 13 - x) (I := fun x => (x : Int) ≤ M.1 17 ∧ ((M.1 1 + 1) % 1440 ≠ 0 → x = 0)) (x0 := 0) ?_ rfl ⟨by omega, fun _ => rfl⟩ ?_
    · show (if (M.1 1 + 1) % 1440 = 0 then setR (bkM M8 c2 a2 f2 t2) 21 (pre (M.2 20) (M.2 21) 0) else bkM M8 c2 a2 f2 t2) = _
      split
      · rw [pre_0, ← h821]
        refine Prod.ext rfl ?_
        funext j
        show (if j = 21 then M8.2 21 else (bkM M8 c2 a2 f2 t2).2 j) = _
        by_cases e : j = 21
        · subst e
          rfl
        · rw [if_neg e]
      · rfl
    rintro k ⟨hk, hk0⟩ ih2
    try dsimp only at ih2 ⊢
    by_cases hd : (M.1 1 + 1) % 1440 = 0
    · rw [if_pos hd]
      simp only [if_pos hd] at ih2
      have h9 := hO.2.2.2.1 k
      unfold okCd at h9
      refine R_iload_n C dX10_passOne_253 rfl ?_
      refine R_aload_n C dX10_passOne_254 rfl ?_
      refine R_getS C cl11 fX10_148 (x := M.1 17) h817 (by decide) dX10_passOne_255 ?_
      refine R_icmp_ge C dX10_passOne_258 (by omega) (by omega) (fun h258 => ?_) (fun h258 => ?_)
      · have ek : (M.1 17).toNat = k := by omega
        exact R_vret C ⟨rfl, c2, a2, f2, t2, hla, by rw [← hM9, ← hM8]; unfold lisM; rw [show (bkM M8 c2 a2 f2 t2).1 1 = M.1 1 + 1 from h81, if_pos hd]; rw [show (bkM M8 c2 a2 f2 t2).1 17 = M.1 17 from h817, show (bkM M8 c2 a2 f2 t2).2 20 = M.2 20 from h820, show (bkM M8 c2 a2 f2 t2).2 21 = M.2 21 from h821, ek]⟩ hr dX10_passOne_290
      · refine R_aload_n C dX10_passOne_261 rfl ?_
        refine R_getS C cl11 fX10_188 (x := M.1 1 + 1) h81 (by decide) dX10_passOne_262 ?_
        refine R_sipush C dX10_passOne_265 (by decide) ?_
        refine R_iremN C dX10_passOne_268 (by omega) (by decide) (by omega) (by first | decide | omega) ?_
        refine R_if_ne C dX10_passOne_269 (by omega) (fun h269 => ?_) (fun h269 => ?_)
        · have ek : (M.1 17).toNat = k := by omega
          exact R_vret C ⟨rfl, c2, a2, f2, t2, hla, by rw [← hM9, ← hM8]; unfold lisM; rw [show (bkM M8 c2 a2 f2 t2).1 1 = M.1 1 + 1 from h81, if_pos hd]; rw [show (bkM M8 c2 a2 f2 t2).1 17 = M.1 17 from h817, show (bkM M8 c2 a2 f2 t2).2 20 = M.2 20 from h820, show (bkM M8 c2 a2 f2 t2).2 21 = M.2 21 from h821, ek]⟩ hr dX10_passOne_290
        · refine R_aload_n C dX10_passOne_272 rfl ?_
          refine R_getA C cl11 fX10_54 (by decide) dX10_passOne_273 ?_
          refine R_iload_n C dX10_passOne_276 rfl ?_
          refine R_aload_n C dX10_passOne_277 rfl ?_
          refine R_getA C cl11 fX10_51 (by decide) dX10_passOne_278 ?_
          refine R_iload_n C dX10_passOne_281 rfl ?_
          refine R_zald C (j := k) (kf := 20) rfl (show k < 12 by omega) rfl (x := M.2 20 k) (congrFun h820 _) dX10_passOne_282 ?_
          replace h9 := h9 (by omega)
          refine R_zast C (j := k) (kf := 21) rfl (show k < 12 by omega) rfl (by first | omega | (split <;> omega)) dX10_passOne_283 ?_
          refine R_iinc C dX10_passOne_284 (by decide) rfl rfl ?_
          refine R_goto C dX10_passOne_287 ?_
          have h8 := ih2 (k + 1) ⟨by omega, fun z => absurd hd z⟩ (by omega)
          rw [← pre_1] at h8
          rw [setA_setR]
          exact h8
    · rw [if_neg hd]
      obtain rfl := hk0 hd
      refine R_iload_n C dX10_passOne_253 rfl ?_
      refine R_aload_n C dX10_passOne_254 rfl ?_
      refine R_getS C cl11 fX10_148 (x := M.1 17) h817 (by decide) dX10_passOne_255 ?_
      refine R_icmp_ge C dX10_passOne_258 (by omega) (by omega) (fun h258 => ?_) (fun h258 => ?_)
      · exact R_vret C ⟨rfl, c2, a2, f2, t2, hla, by rw [← hM9, ← hM8]; unfold lisM; rw [show (bkM M8 c2 a2 f2 t2).1 1 = M.1 1 + 1 from h81, if_neg hd]⟩ hr dX10_passOne_290
      · refine R_aload_n C dX10_passOne_261 rfl ?_
        refine R_getS C cl11 fX10_188 (x := M.1 1 + 1) h81 (by decide) dX10_passOne_262 ?_
        refine R_sipush C dX10_passOne_265 (by decide) ?_
        refine R_iremN C dX10_passOne_268 (by omega) (by decide) (by omega) (by first | decide | omega) ?_
        refine R_if_ne C dX10_passOne_269 (by omega) (fun h269 => ?_) (fun h269 => ?_)
        · exact R_vret C ⟨rfl, c2, a2, f2, t2, hla, by rw [← hM9, ← hM8]; unfold lisM; rw [show (bkM M8 c2 a2 f2 t2).1 1 = M.1 1 + 1 from h81, if_neg hd]⟩ hr dX10_passOne_290
        · exact absurd h269 hd
  · have hk2 : (k : Int) < M.1 30 := by omega
    have h1 := (hO.2.2.2.2.1 k hk2).1
    unfold okSe at h1
    have h2 := hO.2.1 (M.2 31 k).toNat (by omega)
    unfold okSo at h2
    have h3 := hO.2.2.1 (M.2 32 k).toNat (by omega)
    unfold okCa at h3
    have h4 := hPin k (by omega)
    have h5 : M.2 15 (M.2 32 k).toNat ≤ M9.2 15 (M.2 32 k).toNat ∧ M9.2 15 (M.2 32 k).toNat ≤ M.2 15 (M.2 32 k).toNat + 50000 * k := hch _
    refine R_aload_n C dX10_passOne_58 rfl ?_
    refine R_getA C cl11 fX10_90 (by decide) dX10_passOne_59 ?_
    refine R_iload_n C dX10_passOne_62 rfl ?_
    refine R_iald C (j := k) (kf := 34) rfl (show k < 40 by omega) rfl (x := M.2 34 k) (congrFun (hag 34 rfl) _) dX10_passOne_63 ?_
    refine R_iconst C dX10_passOne_64 ?_
    refine R_icmp_ne C dX10_passOne_65 (by omega) (by decide) (fun h65 => ?_) (fun h65 => ?_)
    · refine R_iinc C dX10_passOne_231 (by decide) rfl rfl ?_
      refine R_goto C dX10_passOne_234 ?_
      refine ih (k + 1, _, _) ⟨by show k + 1 ≤ n; omega, ?_⟩ (by show 41 - (k + 1) < 41 - k; omega)
      show _ = oneM M (powM M n) (dayM M) (ptM M (powM M n) (dayM M) k (m1M M n)) k
      rw [← hM9]
      unfold oneM
      first | (rw [if_pos (show M.2 34 k = 1 by omega), if_pos (show M.2 10 (M.2 31 k).toNat = 0 by omega)]; done) | (rw [if_pos (show M.2 34 k = 1 by omega), if_pos (show M.2 10 (M.2 31 k).toNat = 0 by omega)]; rfl) | (rw [if_pos (show M.2 34 k = 1 by omega), if_neg (show ¬ M.2 10 (M.2 31 k).toNat = 0 by omega)]; done) | (rw [if_pos (show M.2 34 k = 1 by omega), if_neg (show ¬ M.2 10 (M.2 31 k).toNat = 0 by omega)]; rfl) | (rw [if_neg (show ¬ M.2 34 k = 1 by omega)]; done) | (rw [if_neg (show ¬ M.2 34 k = 1 by omega)]; rfl)
    · refine R_aload_n C dX10_passOne_68 rfl ?_
      refine R_getA C cl11 fX10_84 (by decide) dX10_passOne_69 ?_
      refine R_iload_n C dX10_passOne_72 rfl ?_
      refine R_iald C (j := k) (kf := 32) rfl (show k < 40 by omega) rfl (x := M.2 32 k) (congrFun (hag 32 rfl) _) dX10_passOne_73 ?_
      refine R_istore_n C dX10_passOne_74 (by decide) rfl ?_
      refine R_aload_n C dX10_passOne_75 rfl ?_
      refine R_getA C cl11 fX10_111 (by decide) dX10_passOne_76 ?_
      refine R_iload_n C dX10_passOne_79 rfl ?_
      refine R_dup2 C dX10_passOne_80 rfl rfl ?_
      refine R_iald C (j := k) (kf := 41) rfl (show k < 40 by omega) rfl (x := M9.2 41 k) rfl dX10_passOne_81 ?_
      refine R_join C (pcm := 111) (P := fun z => z = (if powM M n k = 0 ∧ M9.2 15 (M.2 32 k).toNat = M.2 14 (M.2 32 k).toNat then 1 else 0)) (fun hj => ?_) (fun z1 hz1 => ?_)
      · refine R_aload_n C dX10_passOne_82 rfl ?_
        refine R_getA C cl11 fX10_135 (by decide) dX10_passOne_83 ?_
        refine R_iload_n C dX10_passOne_86 rfl ?_
        refine R_iald C (j := k) (kf := 49) rfl (show k < 40 by omega) rfl (x := powM M n k) (congrFun (hag 49 rfl) _) dX10_passOne_87 ?_
        refine R_if_ne C dX10_passOne_88 (by omega) (fun h88 => ?_) (fun h88 => ?_)
        · refine R_iconst C dX10_passOne_110 ?_
          exact hj _ (by split <;> omega)
        · refine R_aload_n C dX10_passOne_91 rfl ?_
          refine R_getA C cl11 fX10_39 (by decide) dX10_passOne_92 ?_
          refine R_iload_n C dX10_passOne_95 rfl ?_
          refine R_iald C (j := (M.2 32 k).toNat) (kf := 15) rfl (show (M.2 32 k).toNat < 12 by omega) (by omega) (x := M9.2 15 (M.2 32 k).toNat) rfl dX10_passOne_96 ?_
          refine R_aload_n C dX10_passOne_97 rfl ?_
          refine R_getA C cl11 fX10_36 (by decide) dX10_passOne_98 ?_
          refine R_iload_n C dX10_passOne_101 rfl ?_
          refine R_iald C (j := (M.2 32 k).toNat) (kf := 14) rfl (show (M.2 32 k).toNat < 12 by omega) (by omega) (x := M.2 14 (M.2 32 k).toNat) (congrFun (hag 14 rfl) _) dX10_passOne_102 ?_
          refine R_icmp_ne C dX10_passOne_103 (by omega) (by omega) (fun h103 => ?_) (fun h103 => ?_)
          · refine R_iconst C dX10_passOne_110 ?_
            exact hj _ (by split <;> omega)
          · refine R_iconst C dX10_passOne_106 ?_
            refine R_goto C dX10_passOne_107 ?_
            exact hj _ (by split <;> omega)
      subst hz1
      refine R_iadd C dX10_passOne_111 ?_
      refine R_iast C (j := k) (kf := 41) rfl (show k < 40 by omega) rfl dX10_passOne_112 ?_
      refine R_aload_n C dX10_passOne_113 rfl ?_
      refine R_getA C cl11 fX10_39 (by decide) dX10_passOne_114 ?_
      refine R_iload_n C dX10_passOne_117 rfl ?_
      refine R_dup2 C dX10_passOne_118 rfl rfl ?_
      refine R_iald C (j := (M.2 32 k).toNat) (kf := 15) rfl (show (M.2 32 k).toNat < 12 by omega) (by omega) (x := M9.2 15 (M.2 32 k).toNat) rfl dX10_passOne_119 ?_
      refine R_aload_n C dX10_passOne_120 rfl ?_
      refine R_getA C cl11 fX10_135 (by decide) dX10_passOne_121 ?_
      refine R_iload_n C dX10_passOne_124 rfl ?_
      refine R_iald C (j := k) (kf := 49) rfl (show k < 40 by omega) rfl (x := powM M n k) (congrFun (hag 49 rfl) _) dX10_passOne_125 ?_
      refine R_iadd C dX10_passOne_126 ?_
      refine R_iast C (j := (M.2 32 k).toNat) (kf := 15) rfl (show (M.2 32 k).toNat < 12 by omega) (by omega) dX10_passOne_127 ?_
      refine R_aload_n C dX10_passOne_128 rfl ?_
      refine R_getA C cl11 fX10_93 (by decide) dX10_passOne_129 ?_
      refine R_iload_n C dX10_passOne_132 rfl ?_
      refine R_dup2 C dX10_passOne_133 rfl rfl ?_
      refine R_iald C (j := k) (kf := 35) rfl (show k < 40 by omega) rfl (x := M9.2 35 k) rfl dX10_passOne_134 ?_
      refine R_aload_n C dX10_passOne_135 rfl ?_
      refine R_getA C cl11 fX10_135 (by decide) dX10_passOne_136 ?_
      refine R_iload_n C dX10_passOne_139 rfl ?_
      refine R_iald C (j := k) (kf := 49) rfl (show k < 40 by omega) rfl (x := powM M n k) (congrFun (hag 49 rfl) _) dX10_passOne_140 ?_
      refine R_iadd C dX10_passOne_141 ?_
      refine R_iast C (j := k) (kf := 35) rfl (show k < 40 by omega) rfl dX10_passOne_142 ?_
      refine R_aload_n C dX10_passOne_143 rfl ?_
      refine R_getA C cl11 fX10_96 (by decide) dX10_passOne_144 ?_
      refine R_iload_n C dX10_passOne_147 rfl ?_
      refine R_aload_n C dX10_passOne_148 rfl ?_
      refine R_getA C cl11 fX10_135 (by decide) dX10_passOne_149 ?_
      refine R_iload_n C dX10_passOne_152 rfl ?_
      refine R_iald C (j := k) (kf := 49) rfl (show k < 40 by omega) rfl (x := powM M n k) (congrFun (hag 49 rfl) _) dX10_passOne_153 ?_
      refine R_iast C (j := k) (kf := 36) rfl (show k < 40 by omega) rfl dX10_passOne_154 ?_
      refine R_aload_n C dX10_passOne_155 rfl ?_
      refine R_getA C cl11 fX10_105 (by decide) dX10_passOne_156 ?_
      refine R_iload_n C dX10_passOne_159 rfl ?_
      refine R_dup2 C dX10_passOne_160 rfl rfl ?_
      refine R_iald C (j := k) (kf := 39) rfl (show k < 40 by omega) rfl (x := M9.2 39 k) rfl dX10_passOne_161 ?_
      refine R_join C (pcm := 176) (P := fun z => z = (if dayM M = 1 then powM M n k else 0)) (fun hj => ?_) (fun z2 hz2 => ?_)
      · refine R_iload_n C dX10_passOne_162 rfl ?_
        refine R_if_eq C dX10_passOne_163 (by omega) (fun h163 => ?_) (fun h163 => ?_)
        · refine R_iconst C dX10_passOne_175 ?_
          exact hj _ (by split <;> omega)
        · refine R_aload_n C dX10_passOne_166 rfl ?_
          refine R_getA C cl11 fX10_135 (by decide) dX10_passOne_167 ?_
          refine R_iload_n C dX10_passOne_170 rfl ?_
          refine R_iald C (j := k) (kf := 49) rfl (show k < 40 by omega) rfl (x := powM M n k) (congrFun (hag 49 rfl) _) dX10_passOne_171 ?_
          refine R_goto C dX10_passOne_172 ?_
          exact hj _ (by split <;> omega)
      subst hz2
      refine R_iadd C dX10_passOne_176 ?_
      refine R_iast C (j := k) (kf := 39) rfl (show k < 40 by omega) rfl dX10_passOne_177 ?_
      refine R_aload_n C dX10_passOne_178 rfl ?_
      refine R_getA C cl11 fX10_108 (by decide) dX10_passOne_179 ?_
      refine R_iload_n C dX10_passOne_182 rfl ?_
      refine R_dup2 C dX10_passOne_183 rfl rfl ?_
      refine R_iald C (j := k) (kf := 40) rfl (show k < 40 by omega) rfl (x := M9.2 40 k) rfl dX10_passOne_184 ?_
      refine R_join C (pcm := 199) (P := fun z => z = (if dayM M = 1 then 0 else powM M n k)) (fun hj => ?_) (fun z3 hz3 => ?_)
      · refine R_iload_n C dX10_passOne_185 rfl ?_
        refine R_if_eq C dX10_passOne_186 (by omega) (fun h186 => ?_) (fun h186 => ?_)
        · refine R_aload_n C dX10_passOne_193 rfl ?_
          refine R_getA C cl11 fX10_135 (by decide) dX10_passOne_194 ?_
          refine R_iload_n C dX10_passOne_197 rfl ?_
          refine R_iald C (j := k) (kf := 49) rfl (show k < 40 by omega) rfl (x := powM M n k) (congrFun (hag 49 rfl) _) dX10_passOne_198 ?_
          exact hj _ (by split <;> omega)
        · refine R_iconst C dX10_passOne_189 ?_
          refine R_goto C dX10_passOne_190 ?_
          exact hj _ (by split <;> omega)
      subst hz3
      refine R_iadd C dX10_passOne_199 ?_
      refine R_iast C (j := k) (kf := 40) rfl (show k < 40 by omega) rfl dX10_passOne_200 ?_
      refine R_aload_n C dX10_passOne_201 rfl ?_
      refine R_getA C cl11 fX10_99 (by decide) dX10_passOne_202 ?_
      refine R_iload_n C dX10_passOne_205 rfl ?_
      refine R_dup2 C dX10_passOne_206 rfl rfl ?_
      refine R_iald C (j := k) (kf := 37) rfl (show k < 40 by omega) rfl (x := M9.2 37 k) rfl dX10_passOne_207 ?_
      refine R_iconst C dX10_passOne_208 ?_
      refine R_iadd C dX10_passOne_209 ?_
      refine R_iast C (j := k) (kf := 37) rfl (show k < 40 by omega) rfl dX10_passOne_210 ?_
      refine R_aload_n C dX10_passOne_211 rfl ?_
      refine R_getA C cl11 fX10_27 (by decide) dX10_passOne_212 ?_
      refine R_aload_n C dX10_passOne_215 rfl ?_
      refine R_getA C cl11 fX10_81 (by decide) dX10_passOne_216 ?_
      refine R_iload_n C dX10_passOne_219 rfl ?_
      refine R_iald C (j := k) (kf := 31) rfl (show k < 40 by omega) rfl (x := M.2 31 k) (congrFun (hag 31 rfl) _) dX10_passOne_220 ?_
      refine R_zald C (j := (M.2 31 k).toNat) (kf := 10) rfl (show (M.2 31 k).toNat < 8 by omega) (by omega) (x := M.2 10 (M.2 31 k).toNat) (congrFun (hag 10 rfl) _) dX10_passOne_221 ?_
      refine R_if_ne C dX10_passOne_222 (by omega) (fun h222 => ?_) (fun h222 => ?_)
      · refine R_iinc C dX10_passOne_231 (by decide) rfl rfl ?_
        refine R_goto C dX10_passOne_234 ?_
        refine ih (k + 1, _, _) ⟨by show k + 1 ≤ n; omega, ?_⟩ (by show 41 - (k + 1) < 41 - k; omega)
        show _ = oneM M (powM M n) (dayM M) (ptM M (powM M n) (dayM M) k (m1M M n)) k
        rw [← hM9]
        unfold oneM
        first | (rw [if_pos (show M.2 34 k = 1 by omega), if_pos (show M.2 10 (M.2 31 k).toNat = 0 by omega)]; done) | (rw [if_pos (show M.2 34 k = 1 by omega), if_pos (show M.2 10 (M.2 31 k).toNat = 0 by omega)]; rfl) | (rw [if_pos (show M.2 34 k = 1 by omega), if_neg (show ¬ M.2 10 (M.2 31 k).toNat = 0 by omega)]; done) | (rw [if_pos (show M.2 34 k = 1 by omega), if_neg (show ¬ M.2 10 (M.2 31 k).toNat = 0 by omega)]; rfl) | (rw [if_neg (show ¬ M.2 34 k = 1 by omega)]; done) | (rw [if_neg (show ¬ M.2 34 k = 1 by omega)]; rfl)
      · refine R_aload_n C dX10_passOne_225 rfl ?_
        refine R_iload_n C dX10_passOne_226 rfl ?_
        refine R_callVi C (As := [_]) (c_X10_hear1 hl (k := k) rfl (by omega) ((congrFun (hag 34 rfl) _).trans h65)) kX10_185 rfl rfl (Nat.le_of_ble_eq_true rfl) ⟨by decide, by decide⟩ ⟨Nat.le_refl _, Nat.le_refl _⟩ dX10_passOne_227 ?_
        refine R_pop C dX10_passOne_230 rfl ?_
        refine R_iinc C dX10_passOne_231 (by decide) rfl rfl ?_
        refine R_goto C dX10_passOne_234 ?_
        refine ih (k + 1, _, _) ⟨by show k + 1 ≤ n; omega, ?_⟩ (by show 41 - (k + 1) < 41 - k; omega)
        show _ = oneM M (powM M n) (dayM M) (ptM M (powM M n) (dayM M) k (m1M M n)) k
        rw [← hM9]
        unfold oneM
        first | (rw [if_pos (show M.2 34 k = 1 by omega), if_pos (show M.2 10 (M.2 31 k).toNat = 0 by omega)]; done) | (rw [if_pos (show M.2 34 k = 1 by omega), if_pos (show M.2 10 (M.2 31 k).toNat = 0 by omega)]; rfl) | (rw [if_pos (show M.2 34 k = 1 by omega), if_neg (show ¬ M.2 10 (M.2 31 k).toNat = 0 by omega)]; done) | (rw [if_pos (show M.2 34 k = 1 by omega), if_neg (show ¬ M.2 10 (M.2 31 k).toNat = 0 by omega)]; rfl) | (rw [if_neg (show ¬ M.2 34 k = 1 by omega)]; done) | (rw [if_neg (show ¬ M.2 34 k = 1 by omega)]; rfl)
end REF8
