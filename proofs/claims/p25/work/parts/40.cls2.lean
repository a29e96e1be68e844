/-! the class: values, sessions; what small methods answer -/
theorem alA_0 {X : Mm} {q r t n : Nat} (ht : t ≠ 0) (h : gK (alA X q t n) r = 0) : r ≠ q ∧ gK X r = 0 := by
  by_cases e : r = q
  · exact absurd ((if_pos e).symm.trans h) ht
  · exact ⟨e, (if_neg e).symm.trans h⟩
theorem alO_0 {X : Mm} {q r t : Nat} (ht : t ≠ 0) (h : gK (alO X q t) r = 0) : r ≠ q ∧ gK X r = 0 := by
  by_cases e : r = q
  · exact absurd ((if_pos e).symm.trans h) ht
  · exact ⟨e, (if_neg e).symm.trans h⟩
/-- a new Values at a, its row at q, its tally at r -/
def valN (X : Mm) (a q r : Nat) (m : Int) : Mm := sI (sP (sI (sI (sI (sI (alO (sI (sI (sP (alA X q 20 128) 577 a (some q)) 578 a 0) 579 a 0) r 8) 448 r 0) 449 r 0) 450 r 0) 451 r 0) 580 a (some r)) 576 a m
def sesI (X : Mm) (a : Nat) : Mm := sI (sI (sI (sI (sI (sI (sI (sI X 325 a 0) 326 a 0) 327 a 0) 329 a 0) 330 a 0) 331 a 0) 332 a 0) 333 a 0
def sesN (X : Mm) (a s c k t v q r : Nat) (m u : Int) : Mm := sI (sP (valN (alO (sP (sP (sP (sP (sesI X a) 320 a (some s)) 321 a (some c)) 322 a (some k)) 323 a (some t)) v 10) v q r m) 324 a (some v)) 328 a u
section CLS2
variable {l : Launch} {D : va_G} {kA : Nat → ClassId} {b t0 : Nat} {X : Mm}
set_option maxHeartbeats 2000000 in
set_option maxRecDepth 20000 in
theorem c_X8_init (hl : l.stackTraces = false) {a : Nat} {m : Int} (hKa : gK X a = 10) : Ct l D kA b t0 yX8_init cX8_init 2 none 2 40 [rv (some a), iv m] X 2 132 (fun v Y => v = none ∧ ∃ q r, gK X q = 0 ∧ b ≤ q ∧ r ≠ q ∧ gK X r = 0 ∧ b ≤ r ∧ Y = valN X a q r m) (pF) := by
  refine Ct_mk hl (by decide) (Nat.le_of_ble_eq_true rfl) rfl ?_
  intro p9 e9 s9 m9 args9 below9 meth9 c9 C hr hx0
  refine V_aload_n C dX8_init_0 rfl ?_
  refine V_objInit C oi_RX8_3 oi2 oi3 (Nat.le_of_ble_eq_true rfl) (Nat.le_of_ble_eq_true rfl) dX8_init_1 ?_
  refine V_aload_n C dX8_init_4 rfl ?_
  refine V_sipush C dX8_init_5 (by decide) ?_
  refine V_newI C (n := 128) rfl (by omega) a_int (by first | exact Nat.le_of_ble_eq_true rfl | (dsimp only; omega)) (by first | exact Nat.le_of_ble_eq_true rfl | (dsimp only; omega)) dX8_init_8 (fun q hq hbq => ?_)
  have hqa : a ≠ q := ne_of_0 hq (by omega)
  refine V_putP C cl9 fX8_9 (Or.inl rfl) (Or.inr ⟨_, rfl⟩) ((if_neg hqa).trans hKa) dX8_init_10 ?_
  refine V_aload_n C dX8_init_13 rfl ?_
  refine V_iconst C dX8_init_14 ?_
  refine V_putI C cl9 fX8_15 (Or.inl rfl) rfl ((if_neg hqa).trans hKa) dX8_init_15 ?_
  refine V_aload_n C dX8_init_18 rfl ?_
  refine V_iconst C dX8_init_19 ?_
  refine V_putI C cl9 fX8_19 (Or.inl rfl) rfl ((if_neg hqa).trans hKa) dX8_init_20 ?_
  refine V_aload_n C dX8_init_23 rfl ?_
  refine V_new C cl7 nX8_22 rfl (by first | exact Nat.le_of_ble_eq_true rfl | (dsimp only; omega)) (by first | exact Nat.le_of_ble_eq_true rfl | (dsimp only; omega)) dX8_init_24 (fun r hr9 hbr => ?_)
  obtain ⟨hrq, hr0⟩ := alA_0 (n := 128) (by decide) hr9
  have hra : a ≠ r := ne_of_0 hr0 (by omega)
  refine V_dup C dX8_init_27 rfl ?_
  refine V_callM0 C (As := []) (c_X6_init hl (if_pos rfl)) kX8_24 rfl rfl (Nat.le_of_ble_eq_true rfl) ⟨Nat.le_of_ble_eq_true rfl, Nat.le_of_ble_eq_true rfl⟩ ⟨(by first | exact Nat.le_of_ble_eq_true rfl | (dsimp only; omega)), (by first | exact Nat.le_of_ble_eq_true rfl | (dsimp only; omega))⟩ dX8_init_28 ?_
  refine V_putP C cl9 fX8_25 (Or.inr ⟨rfl, rfl, rfl⟩) (Or.inl ⟨_, rfl⟩) ((if_neg hra).trans ((if_neg hqa).trans hKa)) dX8_init_31 ?_
  refine V_aload_n C dX8_init_34 rfl ?_
  refine V_iload_n C dX8_init_35 rfl ?_
  refine V_putI C cl9 fX8_29 (Or.inr ⟨rfl, rfl, rfl⟩) rfl ((if_neg hra).trans ((if_neg hqa).trans hKa)) dX8_init_36 ?_
  exact V_vret C (by omega) (by omega) ⟨rfl, q, r, hq, hbq, hrq, hr0, hbr, rfl⟩ hr dX8_init_39
set_option maxHeartbeats 2000000 in
set_option maxRecDepth 20000 in
theorem c_X4_init (hl : l.stackTraces = false) {a s c k f t : Nat} {m u : Int} (hKa : gK X a = 6) (hKs : gK X s = 7) (hsf : gP X 385 s = some f) (hKf : gK X f = 5) (hft : gP X 256 f = some t) (hu : gI X 388 s = u) (hu1 : u = 0 ∨ u = 1) : Ct l D kA b t0 yX4_init cX4_init 5 none 3 61 [rv (some a), rv (some s), rv (some c), rv (some k), iv m] X 3 137 (fun w Y => w = none ∧ ∃ v q r, gK X v = 0 ∧ b ≤ v ∧ q ≠ v ∧ gK X q = 0 ∧ b ≤ q ∧ r ≠ v ∧ r ≠ q ∧ gK X r = 0 ∧ b ≤ r ∧ Y = sesN X a s c k t v q r m (if u = 0 then 1 else 0)) (pF) := by
  refine Ct_mk hl (by decide) (Nat.le_of_ble_eq_true rfl) rfl ?_
  intro p9 e9 s9 m9 args9 below9 meth9 c9 C hr hx0
  refine V_aload_n C dX4_init_0 rfl ?_
  refine V_objInit C oi_RX4_3 oi2 oi3 (Nat.le_of_ble_eq_true rfl) (Nat.le_of_ble_eq_true rfl) dX4_init_1 ?_
  refine V_aload_n C dX4_init_4 rfl ?_
  refine V_iconst C dX4_init_5 ?_
  refine V_putI C cl5 fX4_9 (Or.inl rfl) rfl hKa dX4_init_6 ?_
  refine V_aload_n C dX4_init_9 rfl ?_
  refine V_iconst C dX4_init_10 ?_
  refine V_putI C cl5 fX4_15 (Or.inl rfl) rfl hKa dX4_init_11 ?_
  refine V_aload_n C dX4_init_14 rfl ?_
  refine V_iconst C dX4_init_15 ?_
  refine V_putI C cl5 fX4_18 (Or.inl rfl) rfl hKa dX4_init_16 ?_
  refine V_aload_n C dX4_init_19 rfl ?_
  refine V_iconst C dX4_init_20 ?_
  refine V_putZ C cl5 fX4_21 (Or.inl rfl) rfl (by first | decide | omega | (split <;> omega)) hKa dX4_init_21 ?_
  refine V_aload_n C dX4_init_24 rfl ?_
  refine V_iconst C dX4_init_25 ?_
  refine V_putZ C cl5 fX4_25 (Or.inl rfl) rfl (by first | decide | omega | (split <;> omega)) hKa dX4_init_26 ?_
  refine V_aload_n C dX4_init_29 rfl ?_
  refine V_iconst C dX4_init_30 ?_
  refine V_putZ C cl5 fX4_28 (Or.inl rfl) rfl (by first | decide | omega | (split <;> omega)) hKa dX4_init_31 ?_
  refine V_aload_n C dX4_init_34 rfl ?_
  refine V_iconst C dX4_init_35 ?_
  refine V_putI C cl5 fX4_31 (Or.inl rfl) rfl hKa dX4_init_36 ?_
  refine V_aload_n C dX4_init_39 rfl ?_
  refine V_iconst C dX4_init_40 ?_
  refine V_putI C cl5 fX4_34 (Or.inl rfl) rfl hKa dX4_init_41 ?_
  refine V_aload_n C dX4_init_44 rfl ?_
  refine V_aload_n C dX4_init_45 rfl ?_
  refine V_putP C cl5 fX4_37 (Or.inr ⟨rfl, rfl, rfl⟩) (Or.inl ⟨_, rfl⟩) hKa dX4_init_46 ?_
  refine V_aload_n C dX4_init_49 rfl ?_
  refine V_aload_n C dX4_init_50 rfl ?_
  refine V_putP C cl5 fX4_41 (Or.inr ⟨rfl, rfl, rfl⟩) (Or.inl ⟨_, rfl⟩) hKa dX4_init_51 ?_
  refine V_aload_n C dX4_init_54 rfl ?_
  refine V_aload_n C dX4_init_55 rfl ?_
  refine V_putP C cl5 fX4_45 (Or.inr ⟨rfl, rfl, rfl⟩) (Or.inl ⟨_, rfl⟩) hKa dX4_init_56 ?_
  refine V_aload_n C dX4_init_59 rfl ?_
  refine V_aload_n C dX4_init_60 rfl ?_
  refine V_getP C cl6 fX4_49 (r := some f) hKs hsf dX4_init_61 ?_
  refine V_getP C cl4 fX4_55 (r := some t) hKf hft dX4_init_64 ?_
  refine V_putP C cl5 fX4_61 (Or.inr ⟨rfl, rfl, rfl⟩) (Or.inl ⟨_, rfl⟩) hKa dX4_init_67 ?_
  refine V_aload_n C dX4_init_70 rfl ?_
  refine V_new C cl9 nX4_62 rfl (by first | exact Nat.le_of_ble_eq_true rfl | (dsimp only; omega)) (by first | exact Nat.le_of_ble_eq_true rfl | (dsimp only; omega)) dX4_init_71 (fun v hv hbv => ?_)
  have hva : a ≠ v := ne_of_0 hv (by show gK X a ≠ 0; omega)
  have hvs : s ≠ v := ne_of_0 hv (by show gK X s ≠ 0; omega)
  refine V_dup C dX4_init_74 rfl ?_
  refine V_iload C dX4_init_75 rfl ?_
  refine V_callI C (As := [_]) (c_X8_init hl (if_pos rfl)) kX4_64 rfl rfl (Nat.le_of_ble_eq_true rfl) ⟨Nat.le_of_ble_eq_true rfl, Nat.le_of_ble_eq_true rfl⟩ ⟨(by first | exact Nat.le_of_ble_eq_true rfl | (dsimp only; omega)), (by first | exact Nat.le_of_ble_eq_true rfl | (dsimp only; omega))⟩ dX4_init_77 (fun _ _ h => h.elim) (fun v9 Y hp => ?_)
  obtain ⟨rfl, q, r, hq, hbq, hrq, hr0, hbr, rfl⟩ := hp
  obtain ⟨hqv, hq0⟩ := alO_0 (by decide) hq
  obtain ⟨hrv, hr1⟩ := alO_0 (by decide) hr0
  have hqa : a ≠ q := ne_of_0 (X := X) hq0 (by omega)
  have hra : a ≠ r := ne_of_0 (X := X) hr1 (by omega)
  have hrs : s ≠ r := ne_of_0 (X := X) hr1 (by omega)
  have hqs : s ≠ q := ne_of_0 (X := X) hq0 (by omega)
  refine V_putP C cl5 fX4_67 (Or.inr ⟨rfl, rfl, rfl⟩) (Or.inl ⟨_, rfl⟩) ((if_neg hra).trans ((if_neg hqa).trans ((if_neg hva).trans hKa))) dX4_init_80 ?_
  refine V_aload_n C dX4_init_83 rfl ?_
  refine V_join C (pcm := 96) (P := fun z => z = (if u = 0 then 1 else 0)) (fun hj => ?_) (fun z1 hz1 => ?_)
  · refine V_aload_n C dX4_init_84 rfl ?_
    refine V_getIx C cl6 fX4_71 (x := u) ((if_neg hrs).trans ((if_neg hqs).trans ((if_neg hvs).trans hKs))) ((if_neg hrs).trans ((if_neg hvs).trans hu)) dX4_init_85 ?_
    refine V_if_ne C dX4_init_88 (by omega) (fun h88 => ?_) (fun h88 => ?_)
    · refine V_iconst C dX4_init_95 ?_
      exact hj _ (by split <;> omega)
    · refine V_iconst C dX4_init_91 ?_
      refine V_goto C dX4_init_92 ?_
      exact hj _ (by split <;> omega)
  subst hz1
  refine V_putZ C cl5 fX4_74 (Or.inl rfl) rfl (by first | decide | omega | (split <;> omega)) ((if_neg hra).trans ((if_neg hqa).trans ((if_neg hva).trans hKa))) dX4_init_96 ?_
  exact V_vret C (by omega) (by omega) ⟨rfl, v, q, r, hv, hbv, hqv, hq0, hbq, hrv, hrq, hr1, hbr, rfl⟩ hr dX4_init_99
set_option maxHeartbeats 2000000 in
set_option maxRecDepth 20000 in
theorem c_X1_isFull (hl : l.stackTraces = false) {a : Nat} {h cp : Int} (hKa : gK X a = 3) (hh : gI X 131 a = h) (hc : gI X 129 a = cp) (hr1 : rng h) (hr2 : rng cp) : Ct l D kA b t0 yX1_isFull cX1_isFull 1 (some FieldType.boolean) 0 0 [rv (some a)] X 0 0 (pD (some (iv (if cp ≤ h then 1 else 0))) X) (pF) := by
  refine Ct_mk hl (by decide) (Nat.le_of_ble_eq_true rfl) rfl ?_
  intro p9 e9 s9 m9 args9 below9 meth9 c9 C hr hx0
  refine V_aload_n C dX1_isFull_0 rfl ?_
  refine V_getIx C cl2 fX1_22 (x := h) hKa hh dX1_isFull_1 ?_
  refine V_aload_n C dX1_isFull_4 rfl ?_
  refine V_getIx C cl2 fX1_19 (x := cp) hKa hc dX1_isFull_5 ?_
  refine V_icmp_lt C dX1_isFull_8 (by omega) (by omega) (fun h8 => ?_) (fun h8 => ?_)
  · refine V_iconst C dX1_isFull_15 ?_
    exact V_zret C (by omega) (by omega) ⟨ivc (by split <;> omega), rfl⟩ hr (by first | omega | decide) dX1_isFull_16
  · refine V_iconst C dX1_isFull_11 ?_
    refine V_goto C dX1_isFull_12 ?_
    exact V_zret C (by omega) (by omega) ⟨ivc (by split <;> omega), rfl⟩ hr (by first | omega | decide) dX1_isFull_16
set_option maxHeartbeats 2000000 in
set_option maxRecDepth 20000 in
theorem c_X4_takesMore (hl : l.stackTraces = false) {a s : Nat} {u fl bd : Int} (hKa : gK X a = 6) (hKs : gK X s = 7) (hs : gP X 320 a = some s) (hu : gI X 388 s = u) (hf : gI X 333 a = fl) (hb : gI X 332 a = bd) (hu1 : u = 0 ∨ u = 1) (hr1 : rng fl) (hr2 : rng bd) : Ct l D kA b t0 yX4_takesMore cX4_takesMore 1 (some FieldType.boolean) 0 0 [rv (some a)] X 0 0 (pD (some (iv (if u = 1 ∧ 1400 ≤ fl ∧ fl < bd then 1 else 0))) X) (pF) := by
  refine Ct_mk hl (by decide) (Nat.le_of_ble_eq_true rfl) rfl ?_
  intro p9 e9 s9 m9 args9 below9 meth9 c9 C hr hx0
  refine V_aload_n C dX4_takesMore_0 rfl ?_
  refine V_getP C cl5 fX4_37 (r := some s) hKa hs dX4_takesMore_1 ?_
  refine V_getIx C cl6 fX4_71 (x := u) hKs hu dX4_takesMore_4 ?_
  refine V_if_eq C dX4_takesMore_7 (by omega) (fun h7 => ?_) (fun h7 => ?_)
  · refine V_iconst C dX4_takesMore_35 ?_
    exact V_zret C (by omega) (by omega) ⟨ivc (by split <;> omega), rfl⟩ hr (by first | omega | decide) dX4_takesMore_36
  · refine V_aload_n C dX4_takesMore_10 rfl ?_
    refine V_getIx C cl5 fX4_34 (x := fl) hKa hf dX4_takesMore_11 ?_
    refine V_sipush C dX4_takesMore_14 (by decide) ?_
    refine V_icmp_lt C dX4_takesMore_17 (by omega) (by decide) (fun h17 => ?_) (fun h17 => ?_)
    · refine V_iconst C dX4_takesMore_35 ?_
      exact V_zret C (by omega) (by omega) ⟨ivc (by split <;> omega), rfl⟩ hr (by first | omega | decide) dX4_takesMore_36
    · refine V_aload_n C dX4_takesMore_20 rfl ?_
      refine V_getIx C cl5 fX4_34 (x := fl) hKa hf dX4_takesMore_21 ?_
      refine V_aload_n C dX4_takesMore_24 rfl ?_
      refine V_getIx C cl5 fX4_31 (x := bd) hKa hb dX4_takesMore_25 ?_
      refine V_icmp_ge C dX4_takesMore_28 (by omega) (by omega) (fun h28 => ?_) (fun h28 => ?_)
      · refine V_iconst C dX4_takesMore_35 ?_
        exact V_zret C (by omega) (by omega) ⟨ivc (by split <;> omega), rfl⟩ hr (by first | omega | decide) dX4_takesMore_36
      · refine V_iconst C dX4_takesMore_31 ?_
        refine V_goto C dX4_takesMore_32 ?_
        exact V_zret C (by omega) (by omega) ⟨ivc (by split <;> omega), rfl⟩ hr (by first | omega | decide) dX4_takesMore_36
set_option maxHeartbeats 2000000 in
set_option maxRecDepth 20000 in
theorem c_X4_isOfTwoFirms (hl : l.stackTraces = false) {a s k f g : Nat} (hKa : gK X a = 6) (hKs : gK X s = 7) (hKk : gK X k = 4) (hs : gP X 320 a = some s) (hk : gP X 322 a = some k) (hf : gP X 385 s = some f) (hg : gP X 192 k = some g) : Ct l D kA b t0 yX4_isOfTwoFirms cX4_isOfTwoFirms 1 (some FieldType.boolean) 0 0 [rv (some a)] X 0 0 (pD (some (iv (if f = g then 0 else 1))) X) (pF) := by
  refine Ct_mk hl (by decide) (Nat.le_of_ble_eq_true rfl) rfl ?_
  intro p9 e9 s9 m9 args9 below9 meth9 c9 C hr hx0
  refine V_aload_n C dX4_isOfTwoFirms_0 rfl ?_
  refine V_getP C cl5 fX4_37 (r := some s) hKa hs dX4_isOfTwoFirms_1 ?_
  refine V_getP C cl6 fX4_49 (r := some f) hKs hf dX4_isOfTwoFirms_4 ?_
  refine V_aload_n C dX4_isOfTwoFirms_7 rfl ?_
  refine V_getP C cl5 fX4_45 (r := some k) hKa hk dX4_isOfTwoFirms_8 ?_
  refine V_getP C cl3 fX4_98 (r := some g) hKk hg dX4_isOfTwoFirms_11 ?_
  refine V_acmp_eq C dX4_isOfTwoFirms_14  (fun h14 => ?_) (fun h14 => ?_)
  · refine V_iconst C dX4_isOfTwoFirms_21 ?_
    exact V_zret C (by omega) (by omega) ⟨ivc (by first | rw [if_pos (Option.some.inj h14)] | rw [if_neg (fun z => h14 (by rw [z]))]), rfl⟩ hr (by first | omega | decide) dX4_isOfTwoFirms_22
  · refine V_iconst C dX4_isOfTwoFirms_17 ?_
    refine V_goto C dX4_isOfTwoFirms_18 ?_
    exact V_zret C (by omega) (by omega) ⟨ivc (by first | rw [if_pos (Option.some.inj h14)] | rw [if_neg (fun z => h14 (by rw [z]))]), rfl⟩ hr (by first | omega | decide) dX4_isOfTwoFirms_22
set_option maxHeartbeats 2000000 in
set_option maxRecDepth 20000 in
theorem c_X4_state (hl : l.stackTraces = false) {a : Nat} {bi un : Int} (hKa : gK X a = 6) (hb : gI X 330 a = bi) (hu : gI X 329 a = un) (hb1 : bi = 0 ∨ bi = 1) (hu1 : un = 0 ∨ un = 1) : Ct l D kA b t0 yX4_state cX4_state 1 (some FieldType.int) 0 0 [rv (some a)] X 0 0 (pD (some (iv (if bi = 1 then 3 else if un = 1 then 2 else 1))) X) (pF) := by
  refine Ct_mk hl (by decide) (Nat.le_of_ble_eq_true rfl) rfl ?_
  intro p9 e9 s9 m9 args9 below9 meth9 c9 C hr hx0
  refine V_aload_n C dX4_state_0 rfl ?_
  refine V_getIx C cl5 fX4_25 (x := bi) hKa hb dX4_state_1 ?_
  refine V_if_eq C dX4_state_4 (by omega) (fun h4 => ?_) (fun h4 => ?_)
  · refine V_aload_n C dX4_state_9 rfl ?_
    refine V_getIx C cl5 fX4_21 (x := un) hKa hu dX4_state_10 ?_
    refine V_if_eq C dX4_state_13 (by omega) (fun h13 => ?_) (fun h13 => ?_)
    · refine V_iconst C dX4_state_20 ?_
      exact V_iret C (by omega) (by omega) ⟨ivc (by (repeat' split) <;> omega), rfl⟩ hr dX4_state_21
    · refine V_iconst C dX4_state_16 ?_
      refine V_goto C dX4_state_17 ?_
      exact V_iret C (by omega) (by omega) ⟨ivc (by (repeat' split) <;> omega), rfl⟩ hr dX4_state_21
  · refine V_iconst C dX4_state_7 ?_
    exact V_iret C (by omega) (by omega) ⟨ivc (by (repeat' split) <;> omega), rfl⟩ hr dX4_state_8
set_option maxHeartbeats 2000000 in
set_option maxRecDepth 20000 in
theorem c_X4_mostWhileDown (hl : l.stackTraces = false) {a s : Nat} {n ds bg lh : Int} (hKa : gK X a = 6) (hKs : gK X s = 7) (hs : gP X 320 a = some s) (hd : gI X 389 s = ds) (hg : gI X 328 a = bg) (hlh : gI X 327 a = lh) (hn : 0 ≤ n ∧ n ≤ 20000) (hd9 : 0 ≤ ds ∧ ds ≤ 20000) (hg1 : bg = 0 ∨ bg = 1) : Ct l D kA b t0 yX4_mostWhileDown cX4_mostWhileDown 3 (some FieldType.int) 0 0 [rv (some a), iv n] X 0 0 (pD (some (iv (if n - ds < 5 ∧ bg = 0 then lh else 1400))) X) (pF) := by
  refine Ct_mk hl (by decide) (Nat.le_of_ble_eq_true rfl) rfl ?_
  intro p9 e9 s9 m9 args9 below9 meth9 c9 C hr hx0
  refine V_join C (pcm := 18) (P := fun z => z = (if n - ds < 5 then 1 else 0)) (fun hj => ?_) (fun z1 hz1 => ?_)
  · refine V_iload_n C dX4_mostWhileDown_0 rfl ?_
    refine V_aload_n C dX4_mostWhileDown_1 rfl ?_
    refine V_getP C cl5 fX4_37 (r := some s) hKa hs dX4_mostWhileDown_2 ?_
    refine V_getIx C cl6 fX4_95 (x := ds) hKs hd dX4_mostWhileDown_5 ?_
    refine V_isub C dX4_mostWhileDown_8 ?_
    refine V_iconst C dX4_mostWhileDown_9 ?_
    refine V_icmp_ge C dX4_mostWhileDown_10 (by omega) (by decide) (fun h10 => ?_) (fun h10 => ?_)
    · refine V_iconst C dX4_mostWhileDown_17 ?_
      exact hj _ (by split <;> omega)
    · refine V_iconst C dX4_mostWhileDown_13 ?_
      refine V_goto C dX4_mostWhileDown_14 ?_
      exact hj _ (by split <;> omega)
  refine V_istore_n C dX4_mostWhileDown_18 (by decide) rfl ?_
  refine V_iload_n C dX4_mostWhileDown_19 rfl ?_
  refine V_if_eq C dX4_mostWhileDown_20 (by omega) (fun h20 => ?_) (fun h20 => ?_)
  · refine V_sipush C dX4_mostWhileDown_37 (by decide) ?_
    exact V_iret C (by omega) (by omega) ⟨ivc (by split <;> omega), rfl⟩ hr dX4_mostWhileDown_40
  · refine V_aload_n C dX4_mostWhileDown_23 rfl ?_
    refine V_getIx C cl5 fX4_74 (x := bg) hKa hg dX4_mostWhileDown_24 ?_
    refine V_if_ne C dX4_mostWhileDown_27 (by omega) (fun h27 => ?_) (fun h27 => ?_)
    · refine V_sipush C dX4_mostWhileDown_37 (by decide) ?_
      exact V_iret C (by omega) (by omega) ⟨ivc (by split <;> omega), rfl⟩ hr dX4_mostWhileDown_40
    · refine V_aload_n C dX4_mostWhileDown_30 rfl ?_
      refine V_getIx C cl5 fX4_18 (x := lh) hKa hlh dX4_mostWhileDown_31 ?_
      refine V_goto C dX4_mostWhileDown_34 ?_
      exact V_iret C (by omega) (by omega) ⟨ivc (by split <;> omega), rfl⟩ hr dX4_mostWhileDown_40
end CLS2
