/-! the class: tallies and values -/
abbrev Ta : Type := Int × Int × Int × Int
/-- a tally's four numbers written -/
def tlM (X : Mm) (r : Nat) (t : Ta) : Mm := sI (sI (sI (sI X 448 r t.1) 449 r t.2.1) 450 r t.2.2.1) 451 r t.2.2.2
def tlI (X : Mm) (r : Nat) (t : Ta) : Prop := gI X 448 r = t.1 ∧ gI X 449 r = t.2.1 ∧ gI X 450 r = t.2.2.1 ∧ gI X 451 r = t.2.2.2
abbrev isDay (m : Int) : Prop := 360 ≤ m % 1440 ∧ m % 1440 < 1320
def tkS (t : Ta) (m e u : Int) : Ta := (e, (if isDay m then t.2.1 + (e - t.1) else t.2.1), (if isDay m then t.2.2.1 else t.2.2.1 + (e - t.1)), if e - t.1 ≤ 0 ∧ u = 1 then t.2.2.2 + 1 else t.2.2.2)
theorem tl_eq {X Y : Mm} {r : Nat} {t : Ta} (h1 : gK Y = gK X) (h2 : gP Y = gP X) (h3 : gN Y = gN X) (h4 : gA Y = gA X) (h5 : gO Y = gO X) (hI : ∀ f x, gI Y f x = gI (tlM X r t) f x) : Y = tlM X r t := by
  have e : gI Y = gI (tlM X r t) := funext fun f => funext fun x => hI f x
  show (gK Y, gI Y, gP Y, gN Y, gA Y, gO Y) = _
  rw [h1, h2, h3, h4, h5, e]
  rfl
theorem tlI_tlM (X : Mm) (r : Nat) (t : Ta) : tlI (tlM X r t) r t := by
  refine ⟨?_, ?_, ?_, ?_⟩ <;> simp [tlM, gI_sI]
theorem tlM_tlM (X : Mm) (r : Nat) (t u : Ta) : tlM (tlM X r t) r u = tlM X r u := by
  refine tl_eq rfl rfl rfl rfl rfl (fun f x => ?_)
  simp only [tlM, gI_sI]
  grind
theorem tlM_self {X : Mm} {r : Nat} {t : Ta} (h : tlI X r t) : tlM X r t = X := by
  refine (tl_eq rfl rfl rfl rfl rfl (fun f x => ?_)).symm
  obtain ⟨h1, h2, h3, h4⟩ := h
  simp only [tlM, gI_sI]
  grind
/-- the values from s on, n of them -/
def tkF (row : Nat → Int) (fm : Int) (s : Nat) : Nat → Ta → Ta
  | 0, t => t
  | n + 1, t => tkS (tkF row fm s n t) (fm + (s + n : Nat)) (row (s + n) / 2) (if row (s + n) % 2 = 1 then 1 else 0)
theorem tkF_1 (row : Nat → Int) (fm : Int) (s n : Nat) (t : Ta) : (tkF row fm s (n + 1) t).1 = row (s + n) / 2 := rfl
def ceS (d n i p1 p2 p3 p0 : Int) : Int := p0 + d * p1 / 60000 + n * p2 / 60000 + (if 10 < i then i - 10 else 0) * p3
def wantV (h cp mo dg : Int) : Int := if (if dg < 0 then (if 8 * cp ≤ 10 * h then mo / 2 else mo) * (100 + dg) / 100 else if 8 * cp ≤ 10 * h then mo / 2 else mo) < cp - h then (if dg < 0 then (if 8 * cp ≤ 10 * h then mo / 2 else mo) * (100 + dg) / 100 else if 8 * cp ≤ 10 * h then mo / 2 else mo) else cp - h
theorem wantV_in {h cp mo dg : Int} (h1 : 0 ≤ h ∧ h ≤ cp) (h2 : 0 ≤ mo ∧ mo ≤ 50000) (h3 : -50 ≤ dg ∧ dg ≤ 50) : 0 ≤ wantV h cp mo dg ∧ wantV h cp mo dg ≤ 50000 := by
  have hb : 0 ≤ (if 8 * cp ≤ 10 * h then mo / 2 else mo) ∧ (if 8 * cp ≤ 10 * h then mo / 2 else mo) ≤ 50000 := by split <;> omega
  unfold wantV
  generalize (if 8 * cp ≤ 10 * h then mo / 2 else mo) = w at hb ⊢
  by_cases hd : dg < 0
  · rw [if_pos hd]
    have := mul_in (a := w) (c := 100 + dg) (A := 50000) (B := 100) (by omega) (by omega) (by omega) (by omega)
    split <;> omega
  · rw [if_neg hd]
    split <;> omega
section CLS3
variable {l : Launch} {D : va_G} {kA : Nat → ClassId} {b t0 : Nat} {X : Mm}
set_option maxHeartbeats 2000000 in
set_option maxRecDepth 20000 in
theorem c_X6_take (hl : l.stackTraces = false) {a : Nat} {t : Ta} {m e u : Int} (hKa : gK X a = 8) (ht : tlI X a t) (hm : 0 ≤ m ∧ m ≤ 20000) (he : 0 ≤ e ∧ e ≤ 6000000) (h1 : 0 ≤ t.1 ∧ t.1 ≤ 6000000) (hu : u = 0 ∨ u = 1) : Ct l D kA b t0 yX6_take cX6_take 6 none 0 0 [rv (some a), iv m, iv e, iv u] X 0 0 (pD none (tlM X a (tkS t m e u))) (pF) := by
  refine Ct_mk hl (by decide) (Nat.le_of_ble_eq_true rfl) rfl ?_
  intro p9 e9 s9 m9 args9 below9 meth9 c9 C hr hx0
  refine V_iload_n C dX6_take_0 rfl ?_
  refine V_aload_n C dX6_take_1 rfl ?_
  refine V_getIx C cl7 fX6_9 (x := t.1) hKa ht.1 dX6_take_2 ?_
  refine V_isub C dX6_take_5 ?_
  refine V_istore C dX6_take_6 (by decide) rfl ?_
  refine V_iload_n C dX6_take_8 rfl ?_
  refine V_sipush C dX6_take_9 (by decide) ?_
  refine V_iremN C dX6_take_12 (by omega) (by decide) (by omega) (by first | decide | omega) ?_
  refine V_istore C dX6_take_13 (by decide) rfl ?_
  refine V_iload C dX6_take_15 rfl ?_
  refine V_sipush C dX6_take_17 (by decide) ?_
  refine V_icmp_lt C dX6_take_20 (by omega) (by decide) (fun h20 => ?_) (fun h20 => ?_)
  · refine V_aload_n C dX6_take_45 rfl ?_
    refine V_dup C dX6_take_46 rfl ?_
    refine V_getIx C cl7 fX6_18 (x := t.2.2.1) hKa ht.2.2.1 dX6_take_47 ?_
    refine V_iload C dX6_take_50 rfl ?_
    refine V_iadd C dX6_take_52 ?_
    refine V_putI C cl7 fX6_18 (Or.inl rfl) rfl hKa dX6_take_53 ?_
    refine V_iload C dX6_take_56 rfl ?_
    refine V_if_gt C dX6_take_58 (by omega) (fun h58 => ?_) (fun h58 => ?_)
    · refine V_aload_n C dX6_take_75 rfl ?_
      refine V_iload_n C dX6_take_76 rfl ?_
      refine V_putI C cl7 fX6_9 (Or.inl rfl) rfl hKa dX6_take_77 ?_
      exact V_vret C (by omega) (by omega) ⟨rfl, tl_eq rfl rfl rfl rfl rfl (fun f x => by obtain ⟨q1, q2, q3, q4⟩ := ht; simp only [tlM, tkS, gI_sI, isDay]; grind)⟩ hr dX6_take_80
    · refine V_iload_n C dX6_take_61 rfl ?_
      refine V_if_eq C dX6_take_62 (by omega) (fun h62 => ?_) (fun h62 => ?_)
      · refine V_aload_n C dX6_take_75 rfl ?_
        refine V_iload_n C dX6_take_76 rfl ?_
        refine V_putI C cl7 fX6_9 (Or.inl rfl) rfl hKa dX6_take_77 ?_
        exact V_vret C (by omega) (by omega) ⟨rfl, tl_eq rfl rfl rfl rfl rfl (fun f x => by obtain ⟨q1, q2, q3, q4⟩ := ht; simp only [tlM, tkS, gI_sI, isDay]; grind)⟩ hr dX6_take_80
      · refine V_aload_n C dX6_take_65 rfl ?_
        refine V_dup C dX6_take_66 rfl ?_
        refine V_getIx C cl7 fX6_21 (x := t.2.2.2) hKa ht.2.2.2 dX6_take_67 ?_
        refine V_iconst C dX6_take_70 ?_
        refine V_iadd C dX6_take_71 ?_
        refine V_putI C cl7 fX6_21 (Or.inl rfl) rfl hKa dX6_take_72 ?_
        refine V_aload_n C dX6_take_75 rfl ?_
        refine V_iload_n C dX6_take_76 rfl ?_
        refine V_putI C cl7 fX6_9 (Or.inl rfl) rfl hKa dX6_take_77 ?_
        exact V_vret C (by omega) (by omega) ⟨rfl, tl_eq rfl rfl rfl rfl rfl (fun f x => by obtain ⟨q1, q2, q3, q4⟩ := ht; simp only [tlM, tkS, gI_sI, isDay]; grind)⟩ hr dX6_take_80
  · refine V_iload C dX6_take_23 rfl ?_
    refine V_sipush C dX6_take_25 (by decide) ?_
    refine V_icmp_ge C dX6_take_28 (by omega) (by decide) (fun h28 => ?_) (fun h28 => ?_)
    · refine V_aload_n C dX6_take_45 rfl ?_
      refine V_dup C dX6_take_46 rfl ?_
      refine V_getIx C cl7 fX6_18 (x := t.2.2.1) hKa ht.2.2.1 dX6_take_47 ?_
      refine V_iload C dX6_take_50 rfl ?_
      refine V_iadd C dX6_take_52 ?_
      refine V_putI C cl7 fX6_18 (Or.inl rfl) rfl hKa dX6_take_53 ?_
      refine V_iload C dX6_take_56 rfl ?_
      refine V_if_gt C dX6_take_58 (by omega) (fun h58 => ?_) (fun h58 => ?_)
      · refine V_aload_n C dX6_take_75 rfl ?_
        refine V_iload_n C dX6_take_76 rfl ?_
        refine V_putI C cl7 fX6_9 (Or.inl rfl) rfl hKa dX6_take_77 ?_
        exact V_vret C (by omega) (by omega) ⟨rfl, tl_eq rfl rfl rfl rfl rfl (fun f x => by obtain ⟨q1, q2, q3, q4⟩ := ht; simp only [tlM, tkS, gI_sI, isDay]; grind)⟩ hr dX6_take_80
      · refine V_iload_n C dX6_take_61 rfl ?_
        refine V_if_eq C dX6_take_62 (by omega) (fun h62 => ?_) (fun h62 => ?_)
        · refine V_aload_n C dX6_take_75 rfl ?_
          refine V_iload_n C dX6_take_76 rfl ?_
          refine V_putI C cl7 fX6_9 (Or.inl rfl) rfl hKa dX6_take_77 ?_
          exact V_vret C (by omega) (by omega) ⟨rfl, tl_eq rfl rfl rfl rfl rfl (fun f x => by obtain ⟨q1, q2, q3, q4⟩ := ht; simp only [tlM, tkS, gI_sI, isDay]; grind)⟩ hr dX6_take_80
        · refine V_aload_n C dX6_take_65 rfl ?_
          refine V_dup C dX6_take_66 rfl ?_
          refine V_getIx C cl7 fX6_21 (x := t.2.2.2) hKa ht.2.2.2 dX6_take_67 ?_
          refine V_iconst C dX6_take_70 ?_
          refine V_iadd C dX6_take_71 ?_
          refine V_putI C cl7 fX6_21 (Or.inl rfl) rfl hKa dX6_take_72 ?_
          refine V_aload_n C dX6_take_75 rfl ?_
          refine V_iload_n C dX6_take_76 rfl ?_
          refine V_putI C cl7 fX6_9 (Or.inl rfl) rfl hKa dX6_take_77 ?_
          exact V_vret C (by omega) (by omega) ⟨rfl, tl_eq rfl rfl rfl rfl rfl (fun f x => by obtain ⟨q1, q2, q3, q4⟩ := ht; simp only [tlM, tkS, gI_sI, isDay]; grind)⟩ hr dX6_take_80
    · refine V_aload_n C dX6_take_31 rfl ?_
      refine V_dup C dX6_take_32 rfl ?_
      refine V_getIx C cl7 fX6_15 (x := t.2.1) hKa ht.2.1 dX6_take_33 ?_
      refine V_iload C dX6_take_36 rfl ?_
      refine V_iadd C dX6_take_38 ?_
      refine V_putI C cl7 fX6_15 (Or.inl rfl) rfl hKa dX6_take_39 ?_
      refine V_goto C dX6_take_42 ?_
      refine V_iload C dX6_take_56 rfl ?_
      refine V_if_gt C dX6_take_58 (by omega) (fun h58 => ?_) (fun h58 => ?_)
      · refine V_aload_n C dX6_take_75 rfl ?_
        refine V_iload_n C dX6_take_76 rfl ?_
        refine V_putI C cl7 fX6_9 (Or.inl rfl) rfl hKa dX6_take_77 ?_
        exact V_vret C (by omega) (by omega) ⟨rfl, tl_eq rfl rfl rfl rfl rfl (fun f x => by obtain ⟨q1, q2, q3, q4⟩ := ht; simp only [tlM, tkS, gI_sI, isDay]; grind)⟩ hr dX6_take_80
      · refine V_iload_n C dX6_take_61 rfl ?_
        refine V_if_eq C dX6_take_62 (by omega) (fun h62 => ?_) (fun h62 => ?_)
        · refine V_aload_n C dX6_take_75 rfl ?_
          refine V_iload_n C dX6_take_76 rfl ?_
          refine V_putI C cl7 fX6_9 (Or.inl rfl) rfl hKa dX6_take_77 ?_
          exact V_vret C (by omega) (by omega) ⟨rfl, tl_eq rfl rfl rfl rfl rfl (fun f x => by obtain ⟨q1, q2, q3, q4⟩ := ht; simp only [tlM, tkS, gI_sI, isDay]; grind)⟩ hr dX6_take_80
        · refine V_aload_n C dX6_take_65 rfl ?_
          refine V_dup C dX6_take_66 rfl ?_
          refine V_getIx C cl7 fX6_21 (x := t.2.2.2) hKa ht.2.2.2 dX6_take_67 ?_
          refine V_iconst C dX6_take_70 ?_
          refine V_iadd C dX6_take_71 ?_
          refine V_putI C cl7 fX6_21 (Or.inl rfl) rfl hKa dX6_take_72 ?_
          refine V_aload_n C dX6_take_75 rfl ?_
          refine V_iload_n C dX6_take_76 rfl ?_
          refine V_putI C cl7 fX6_9 (Or.inl rfl) rfl hKa dX6_take_77 ?_
          exact V_vret C (by omega) (by omega) ⟨rfl, tl_eq rfl rfl rfl rfl rfl (fun f x => by obtain ⟨q1, q2, q3, q4⟩ := ht; simp only [tlM, tkS, gI_sI, isDay]; grind)⟩ hr dX6_take_80
set_option maxHeartbeats 2000000 in
set_option maxRecDepth 20000 in
theorem c_X6_cents (hl : l.stackTraces = false) {a p : Nat} {t : Ta} {p0 p1 p2 p3 : Int} (hKa : gK X a = 8) (hKp : gK X p = 9) (ht : tlI X a t) (hp0 : gI X 512 p = p0) (hp1 : gI X 513 p = p1) (hp2 : gI X 514 p = p2) (hp3 : gI X 515 p = p3) (hd : 0 ≤ t.2.1 ∧ t.2.1 ≤ 6000000) (hn : 0 ≤ t.2.2.1 ∧ t.2.2.1 ≤ 6000000) (hi : 0 ≤ t.2.2.2 ∧ t.2.2.2 ≤ 20000) (g0 : 0 ≤ p0 ∧ p0 ≤ 1000) (g1 : 0 ≤ p1 ∧ p1 ≤ 1000) (g2 : 0 ≤ p2 ∧ p2 ≤ 1000) (g3 : 0 ≤ p3 ∧ p3 ≤ 1000) : Ct l D kA b t0 yX6_cents cX6_cents 8 (some FieldType.int) 1 21 [rv (some a), rv (some p)] X 0 0 (pD (some (iv (ceS t.2.1 t.2.2.1 t.2.2.2 p1 p2 p3 p0))) X) (pF) := by
  refine Ct_mk hl (by decide) (Nat.le_of_ble_eq_true rfl) rfl ?_
  intro p9 e9 s9 m9 args9 below9 meth9 c9 C hr hx0
  have e1 := mul_in hd.1 hd.2 g1.1 g1.2
  have e2 := mul_in hn.1 hn.2 g2.1 g2.2
  refine V_aload_n C dX6_cents_0 rfl ?_
  refine V_getIx C cl7 fX6_15 (x := t.2.1) hKa ht.2.1 dX6_cents_1 ?_
  refine V_i2l C dX6_cents_4 (by omega) ?_
  refine V_aload_n C dX6_cents_5 rfl ?_
  refine V_getIx C cl8 fX6_24 (x := p1) hKp hp1 dX6_cents_6 ?_
  refine V_i2l C dX6_cents_9 (by omega) ?_
  refine V_lmul C dX6_cents_10 ?_
  refine V_ldc2 C dX6_cents_11 qX6_29 ?_
  refine V_ldivN C dX6_cents_14 (by omega) (by decide) (by omega) (by decide) ?_
  refine V_lstore_n C dX6_cents_15 (by decide) rfl ?_
  refine V_aload_n C dX6_cents_16 rfl ?_
  refine V_getIx C cl7 fX6_18 (x := t.2.2.1) hKa ht.2.2.1 dX6_cents_17 ?_
  refine V_i2l C dX6_cents_20 (by omega) ?_
  refine V_aload_n C dX6_cents_21 rfl ?_
  refine V_getIx C cl8 fX6_31 (x := p2) hKp hp2 dX6_cents_22 ?_
  refine V_i2l C dX6_cents_25 (by omega) ?_
  refine V_lmul C dX6_cents_26 ?_
  refine V_ldc2 C dX6_cents_27 qX6_29 ?_
  refine V_ldivN C dX6_cents_30 (by omega) (by decide) (by omega) (by decide) ?_
  refine V_lstore C dX6_cents_31 (by decide) rfl ?_
  refine V_iconst C dX6_cents_33 ?_
  refine V_aload_n C dX6_cents_34 rfl ?_
  refine V_getIx C cl7 fX6_21 (x := t.2.2.2) hKa ht.2.2.2 dX6_cents_35 ?_
  refine V_bipush C dX6_cents_38 (by decide) ?_
  refine V_isub C dX6_cents_40 ?_
  refine V_mmax C (by decide) (by omega) kX6_34 (Nat.le_of_ble_eq_true rfl) (Nat.le_of_ble_eq_true rfl) (by first | (dsimp only; omega) | exact Nat.le_of_ble_eq_true rfl) (by first | (dsimp only; omega) | exact Nat.le_of_ble_eq_true rfl) dX6_cents_41 ?_
  refine V_i2l C dX6_cents_44 (by split <;> omega) ?_
  refine V_aload_n C dX6_cents_45 rfl ?_
  refine V_getIx C cl8 fX6_40 (x := p3) hKp hp3 dX6_cents_46 ?_
  refine V_i2l C dX6_cents_49 (by omega) ?_
  refine V_lmul C dX6_cents_50 ?_
  refine V_lstore C dX6_cents_51 (by decide) rfl ?_
  refine V_aload_n C dX6_cents_53 rfl ?_
  refine V_getIx C cl8 fX6_43 (x := p0) hKp hp0 dX6_cents_54 ?_
  refine V_i2l C dX6_cents_57 (by omega) ?_
  refine V_lload_n C dX6_cents_58 rfl ?_
  refine V_ladd C dX6_cents_59 ?_
  refine V_lload C dX6_cents_60 rfl ?_
  refine V_ladd C dX6_cents_62 ?_
  refine V_lload C dX6_cents_63 rfl ?_
  refine V_ladd C dX6_cents_65 ?_
  refine V_l2i C dX6_cents_66 ?_
  exact V_iret C (by omega) (by omega) ⟨ivc (by unfold ceS; rw [show (if (0 : Int) < t.2.2.2 - 10 then t.2.2.2 - 10 else 0) = (if 10 < t.2.2.2 then t.2.2.2 - 10 else 0) by split <;> split <;> omega]), rfl⟩ hr dX6_cents_67
set_option maxHeartbeats 2000000 in
set_option maxRecDepth 20000 in
theorem c_X1_wants (hl : l.stackTraces = false) {a : Nat} {h cp mo dg : Int} (hKa : gK X a = 3) (hh : gI X 131 a = h) (hc : gI X 129 a = cp) (hm : gI X 130 a = mo) (h1 : 0 ≤ h ∧ h ≤ cp) (h2 : cp ≤ 6000000) (h3 : 0 ≤ mo ∧ mo ≤ 50000) (h4 : -50 ≤ dg ∧ dg ≤ 50) : Ct l D kA b t0 yX1_wants cX1_wants 4 (some FieldType.int) 1 21 [rv (some a), iv dg] X 0 0 (pD (some (iv (wantV h cp mo dg))) X) (pF) := by
  refine Ct_mk hl (by decide) (Nat.le_of_ble_eq_true rfl) rfl ?_
  intro p9 e9 s9 m9 args9 below9 meth9 c9 C hr hx0
  refine V_join C (pcm := 22) (P := fun z => z = (if 8 * cp ≤ 10 * h then 1 else 0)) (fun hj => ?_) (fun z1 hz1 => ?_)
  · refine V_bipush C dX1_wants_0 (by decide) ?_
    refine V_aload_n C dX1_wants_2 rfl ?_
    refine V_getIx C cl2 fX1_22 (x := h) hKa hh dX1_wants_3 ?_
    refine V_imul C dX1_wants_6 ?_
    refine V_bipush C dX1_wants_7 (by decide) ?_
    refine V_aload_n C dX1_wants_9 rfl ?_
    refine V_getIx C cl2 fX1_19 (x := cp) hKa hc dX1_wants_10 ?_
    refine V_imul C dX1_wants_13 ?_
    refine V_icmp_lt C dX1_wants_14 (by omega) (by omega) (fun h14 => ?_) (fun h14 => ?_)
    · refine V_iconst C dX1_wants_21 ?_
      exact hj _ (by split <;> omega)
    · refine V_iconst C dX1_wants_17 ?_
      refine V_goto C dX1_wants_18 ?_
      exact hj _ (by split <;> omega)
  refine V_istore_n C dX1_wants_22 (by decide) rfl ?_
  refine V_join C (pcm := 40) (P := fun z => z = (if 8 * cp ≤ 10 * h then mo / 2 else mo)) (fun hj => ?_) (fun z2 hz2 => ?_)
  · refine V_iload_n C dX1_wants_23 rfl ?_
    refine V_if_eq C dX1_wants_24 (by split at hz1 <;> omega) (fun h24 => ?_) (fun h24 => ?_)
    · refine V_aload_n C dX1_wants_36 rfl ?_
      refine V_getIx C cl2 fX1_25 (x := mo) hKa hm dX1_wants_37 ?_
      exact hj _ (by split at hz1 <;> first | (rw [if_pos (by assumption)]; omega) | (rw [if_neg (by assumption)]; omega) | omega)
    · refine V_aload_n C dX1_wants_27 rfl ?_
      refine V_getIx C cl2 fX1_25 (x := mo) hKa hm dX1_wants_28 ?_
      refine V_iconst C dX1_wants_31 ?_
      refine V_idivN C dX1_wants_32 (by omega) (by decide) (by omega) (by first | decide | omega) ?_
      refine V_goto C dX1_wants_33 ?_
      exact hj _ (by split at hz1 <;> first | (rw [if_pos (by assumption)]; omega) | (rw [if_neg (by assumption)]; omega) | omega)
  refine V_istore_n C dX1_wants_40 (by decide) rfl ?_
  refine V_iload_n C dX1_wants_41 rfl ?_
  refine V_if_ge C dX1_wants_42 (by omega) (fun h42 => ?_) (fun h42 => ?_)
  · refine V_iload_n C dX1_wants_55 rfl ?_
    refine V_aload_n C dX1_wants_56 rfl ?_
    refine V_getIx C cl2 fX1_19 (x := cp) hKa hc dX1_wants_57 ?_
    refine V_aload_n C dX1_wants_60 rfl ?_
    refine V_getIx C cl2 fX1_22 (x := h) hKa hh dX1_wants_61 ?_
    refine V_isub C dX1_wants_64 ?_
    have hw3 : 0 ≤ z2 ∧ z2 ≤ 50000 := by split at hz2 <;> omega
    refine V_mmin C (by omega) (by omega) kX1_28 (Nat.le_of_ble_eq_true rfl) (Nat.le_of_ble_eq_true rfl) (by first | (dsimp only; omega) | exact Nat.le_of_ble_eq_true rfl) (by first | (dsimp only; omega) | exact Nat.le_of_ble_eq_true rfl) dX1_wants_65 ?_
    exact V_iret C (by omega) (by omega) ⟨ivc (by unfold wantV; rw [← hz2]; by_cases hd : dg < 0 <;> simp only [hd, if_true, if_false] <;> (first | omega | (split <;> split <;> omega))), rfl⟩ hr dX1_wants_68
  · have hw2 : 0 ≤ z2 ∧ z2 ≤ 50000 := by split at hz2 <;> omega
    have hm2 := mul_in (a := z2) (c := 100 + dg) (A := 50000) (B := 100) (by omega) (by omega) (by omega) (by omega)
    refine V_iload_n C dX1_wants_45 rfl ?_
    refine V_bipush C dX1_wants_46 (by decide) ?_
    refine V_iload_n C dX1_wants_48 rfl ?_
    refine V_iadd C dX1_wants_49 ?_
    refine V_imul C dX1_wants_50 ?_
    refine V_bipush C dX1_wants_51 (by decide) ?_
    refine V_idivN C dX1_wants_53 (by omega) (by decide) (by omega) (by first | decide | omega) ?_
    refine V_istore_n C dX1_wants_54 (by decide) rfl ?_
    refine V_iload_n C dX1_wants_55 rfl ?_
    refine V_aload_n C dX1_wants_56 rfl ?_
    refine V_getIx C cl2 fX1_19 (x := cp) hKa hc dX1_wants_57 ?_
    refine V_aload_n C dX1_wants_60 rfl ?_
    refine V_getIx C cl2 fX1_22 (x := h) hKa hh dX1_wants_61 ?_
    refine V_isub C dX1_wants_64 ?_
    have hw3 : 0 ≤ z2 ∧ z2 ≤ 50000 := by split at hz2 <;> omega
    refine V_mmin C (by omega) (by omega) kX1_28 (Nat.le_of_ble_eq_true rfl) (Nat.le_of_ble_eq_true rfl) (by first | (dsimp only; omega) | exact Nat.le_of_ble_eq_true rfl) (by first | (dsimp only; omega) | exact Nat.le_of_ble_eq_true rfl) dX1_wants_65 ?_
    exact V_iret C (by omega) (by omega) ⟨ivc (by unfold wantV; rw [← hz2]; by_cases hd : dg < 0 <;> simp only [hd, if_true, if_false] <;> (first | omega | (split <;> split <;> omega))), rfl⟩ hr dX1_wants_68
end CLS3
