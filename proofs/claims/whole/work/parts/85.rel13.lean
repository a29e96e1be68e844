/-! the reference begins -/
def M0 : Mo := (fun k => if k = 3 then 10000 else if k = 5 then 20 else 0, fun k i => if k = 12 ∧ i < 8 then -1 else 0)
/-- the first n fields hold what they begin with -/
def RI (X0 X : Mm) (mo : Nat) (ad : Nat → Nat) (n : Nat) : Prop := gK X mo = 12 ∧ (∀ k, k < n → adK k ≠ 0 → gP X (704 + k) mo = some (ad k) ∧ gK X (ad k) = adK k ∧ gN X (ad k) = adN k ∧ ∀ i, gA X (ad k) i = 0) ∧ (∀ j k, j < n → k < n → adK j ≠ 0 → adK k ≠ 0 → ad j = ad k → j = k) ∧ (∀ k, adK k = 0 → gI X (704 + k) mo = M0.1 k) ∧ ∀ a, gK X0 a ≠ 0 → a ≠ mo → eqc X0 X a ∧ ∀ k, k < n → adK k ≠ 0 → a ≠ ad k
theorem RI.skip {X0 X : Mm} {mo n : Nat} {ad : Nat → Nat} (h : RI X0 X mo ad n) (hk : adK n = 0) : RI X0 X mo ad (n + 1) := by
  obtain ⟨h1, h2, h3, h4, h5⟩ := h
  have hl : ∀ k, k < n + 1 → adK k ≠ 0 → k < n := fun k h9 h8 => by
    by_cases e : k = n
    · subst e
      exact absurd hk h8
    · omega
  exact ⟨h1, fun k h9 h8 => h2 k (hl k h9 h8) h8, fun j k a1 a2 a3 a4 => h3 j k (hl j a1 a3) (hl k a2 a4) a3 a4, h4, fun a g1 g2 => ⟨(h5 a g1 g2).1, fun k a1 a2 => (h5 a g1 g2).2 k (hl k a1 a2) a2⟩⟩
theorem RI.step {X0 X : Mm} {mo n q t : Nat} {m : Nat} {ad : Nat → Nat} (h : RI X0 X mo ad n) (ht : adK n = t) (hm : adN n = m) (ht0 : t ≠ 0) (hq : gK X q = 0) : ∃ Y ad2, Y = sP (alA X q t m) (704 + n) mo (some q) ∧ RI X0 Y mo ad2 (n + 1) := by
  subst ht hm
  obtain ⟨h1, h2, h3, h4, h5⟩ := h
  have qm : mo ≠ q := ne_of_0 hq (by omega)
  have qa : ∀ k, k < n → adK k ≠ 0 → ad k ≠ q := fun k a b => ne_of_0 hq (by rw [(h2 k a b).2.1]; exact b)
  refine ⟨_, u1 ad n q, rfl, (if_neg qm).trans h1, fun k hk hk0 => ?_, fun j k hj hk a3 a4 e => ?_, h4, fun a g1 g2 => ?_⟩
  · by_cases e : k = n
    · subst e
      have e1 : u1 ad k q k = q := if_pos rfl
      rw [e1]
      exact ⟨if_pos ⟨rfl, rfl⟩, if_pos rfl, if_pos rfl, fun i => if_pos rfl⟩
    · have hk2 : k < n := by omega
      have e1 : u1 ad n q k = ad k := if_neg e
      obtain ⟨g1, g2, g3, g4⟩ := h2 k hk2 hk0
      have hn := qa k hk2 hk0
      rw [e1]
      exact ⟨(if_neg (fun y => e (by omega))).trans g1, (if_neg hn).trans g2, (if_neg hn).trans g3, fun i => (if_neg hn).trans (g4 i)⟩
  · by_cases ej : j = n
    · by_cases ek : k = n
      · omega
      · have e2 : u1 ad n q j = q := if_pos ej
        have e3 : u1 ad n q k = ad k := if_neg ek
        rw [e2, e3] at e
        exact absurd e.symm (qa k (by omega) a4)
    · by_cases ek : k = n
      · have e2 : u1 ad n q k = q := if_pos ek
        have e3 : u1 ad n q j = ad j := if_neg ej
        rw [e2, e3] at e
        exact absurd e (qa j (by omega) a3)
      · have e2 : u1 ad n q k = ad k := if_neg ek
        have e3 : u1 ad n q j = ad j := if_neg ej
        rw [e2, e3] at e
        exact h3 j k (by omega) (by omega) a3 a4 e
  · obtain ⟨e1, e2⟩ := h5 a g1 g2
    have g3 : gK X a ≠ 0 := by
      rw [e1.1]
      exact g1
    refine ⟨e1.tr ((eqc_alA (ne_of_0 hq g3)).tr (eqc_sP g2)), fun k hk hk0 => ?_⟩
    by_cases e : k = n
    · have e3 : u1 ad n q k = q := if_pos e
      rw [e3]
      exact ne_of_0 hq g3
    · have e3 : u1 ad n q k = ad k := if_neg e
      rw [e3]
      exact e2 k (by omega) hk0
/-- the sessions' row is filled -/
def RJ (X0 X : Mm) (mo : Nat) (ad : Nat → Nat) (j : Nat) : Prop := RR mo ad X (M0.1, fun k i => if k = 12 ∧ i < j then -1 else 0) ∧ ∀ a, gK X0 a ≠ 0 → a ≠ mo → eqc X0 X a ∧ a ≠ ad 12
theorem RJ.of {X0 X : Mm} {mo : Nat} {ad : Nat → Nat} (h : RI X0 X mo ad 50) (h0 : ∀ k, adK k ≠ 0 → k < 50) : RJ X0 X mo ad 0 := by
  obtain ⟨h1, h2, h3, h4, h5⟩ := h
  refine ⟨⟨h1, fun k hk => ?_, fun j k a b e => h3 j k (h0 j a) (h0 k b) a b e, h4, fun k i hk => ?_⟩, fun a g1 g2 => ⟨(h5 a g1 g2).1, (h5 a g1 g2).2 12 (by decide) (by decide)⟩⟩
  · obtain ⟨g1, g2, g3, -⟩ := h2 k (h0 k hk) hk
    exact ⟨g1, g2, g3⟩
  · rw [(h2 k (h0 k hk) hk).2.2.2 i]
    exact (if_neg (fun y => by omega)).symm
theorem RJ.step {X0 X : Mm} {mo j : Nat} {ad : Nat → Nat} (h : RJ X0 X mo ad j) : RJ X0 (sA X (ad 12) j (-1)) mo ad (j + 1) := by
  obtain ⟨h1, h2⟩ := h
  have h3 := RR_setA h1 (k := 12) (i := j) (v := -1) (by decide)
  have e : setA (M0.1, fun k i => if k = 12 ∧ i < j then -1 else 0) 12 j (-1) = ((M0.1, fun k i => if k = 12 ∧ i < j + 1 then -1 else 0) : Mo) := by
    unfold setA
    refine congrArg (fun y => ((M0.1, y) : Mo)) (funext fun k => funext fun i => ?_)
    show (if k = 12 then (if i = j then (-1 : Int) else if (12 : Nat) = 12 ∧ i < j then -1 else 0) else if k = 12 ∧ i < j then -1 else 0) = if k = 12 ∧ i < j + 1 then -1 else 0
    by_cases e1 : k = 12
    · subst e1
      rw [if_pos rfl]
      by_cases e2 : i = j
      · subst e2
        rw [if_pos rfl, if_pos ⟨rfl, by omega⟩]
      · by_cases e3 : i < j
        · rw [if_neg e2, if_pos ⟨rfl, e3⟩, if_pos ⟨rfl, by omega⟩]
        · rw [if_neg e2, if_neg (fun y => e3 y.2), if_neg (fun y => by have := y.2; omega)]
    · rw [if_neg e1, if_neg (fun y => e1 y.1), if_neg (fun y => e1 y.1)]
  rw [e] at h3
  refine ⟨h3, fun a g1 g2 => ⟨(h2 a g1 g2).1.tr (eqc_sA (h2 a g1 g2).2), (h2 a g1 g2).2⟩⟩
theorem adK_50 : ∀ k, adK k ≠ 0 → k < 50 := fun k hk => Classical.byContradiction fun y => by
  refine hk ?_
  unfold adK
  rw [List.getD_eq_getElem?_getD, List.getElem?_eq_none (by show 50 ≤ k; omega)]
  rfl
section REL13
variable {l : Launch} {D : va_G} {kA : Nat → ClassId} {b t0 mo : Nat} {X : Mm}
set_option maxHeartbeats 2000000 in
set_option maxRecDepth 20000 in
theorem c_X10_init (hl : l.stackTraces = false) (hmo : gK X mo = 12) (h00 : ∀ k, gI X (704 + k) mo = 0) : Ct l D kA b t0 yX10_init cX10_init 2 none 1 20 [rv (some mo)] X 40 37093 (fun v Y => v = none ∧ ∃ ad, RR mo ad Y M0 ∧ ∀ a, gK X a ≠ 0 → a ≠ mo → eqc X Y a) (pF) := by
  refine Ct_mk hl (by decide) (Nat.le_of_ble_eq_true rfl) rfl ?_
  intro p9 e9 s9 m9 args9 below9 meth9 c9 C hr hx0
  refine V_aload_n C dX10_init_0 rfl ?_
  refine V_objInit C oi_RX10_1 oi2 oi3 (Nat.le_of_ble_eq_true rfl) (Nat.le_of_ble_eq_true rfl) dX10_init_1 ?_
  refine V_aload_n C dX10_init_4 rfl ?_
  refine V_sipush C dX10_init_5 (by decide) ?_
  refine V_putI C cl11 fX10_7 (Or.inl rfl) rfl hmo dX10_init_8 ?_
  refine V_aload_n C dX10_init_11 rfl ?_
  refine V_bipush C dX10_init_12 (by decide) ?_
  refine V_putI C cl11 fX10_13 (Or.inl rfl) rfl hmo dX10_init_14 ?_
  have s0 : RI X (sI (sI X 707 mo 10000) 709 mo 20) mo (fun _ => 0) 0 := by
    refine ⟨hmo, fun k h9 => absurd h9 (Nat.not_lt_zero k), fun j k h9 => absurd h9 (Nat.not_lt_zero j), fun k hk => ?_, fun a g1 g2 => ⟨(eqc_sI g2).tr (eqc_sI g2), fun k h9 => absurd h9 (Nat.not_lt_zero k)⟩⟩
    show (if 704 + k = 709 ∧ mo = mo then (20 : Int) else if 704 + k = 707 ∧ mo = mo then 10000 else gI X (704 + k) mo) = if k = 3 then 10000 else if k = 5 then 20 else 0
    by_cases e5 : k = 5
    · subst e5
      rw [if_pos ⟨rfl, rfl⟩]
      rfl
    · by_cases e3 : k = 3
      · subst e3
        rw [if_neg (fun y => by omega), if_pos ⟨rfl, rfl⟩]
        rfl
      · rw [if_neg (fun y => e5 (by omega)), if_neg (fun y => e3 (by omega)), if_neg e3, if_neg e5]
        exact h00 k
  generalize hXz : sI (sI X 707 mo 10000) 709 mo 20 = Xz at s0 ⊢
  have r1 := (((((((s0.skip (by decide)).skip (by decide)).skip (by decide)).skip (by decide)).skip (by decide)).skip (by decide)).skip (by decide))
  have hmo1 := r1.1
  refine V_aload_n C dX10_init_17 rfl ?_
  refine V_bipush C dX10_init_18 (by decide) ?_
  refine V_newI C (n := 8) rfl (by omega) a_int (by first | exact Nat.le_of_ble_eq_true rfl | (dsimp only; omega)) (by first | exact Nat.le_of_ble_eq_true rfl | (dsimp only; omega)) dX10_init_20 (fun q1 hq1 hbq => ?_)
  have ny1 : mo ≠ q1 := ne_of_0 hq1 (by omega)
  have hmx1 : gK (alA _ q1 20 8) mo = 12 := (if_neg ny1).trans hmo1
  refine V_putP C cl11 fX10_16 (Or.inr ⟨rfl, rfl, rfl⟩) (Or.inr ⟨_, rfl⟩) hmx1 dX10_init_22 ?_
  obtain ⟨X1, ad1, hX1, s1⟩ := r1.step (t := 20) (m := 8) (q := q1) (by decide) (by decide) (by decide) hq1
  rw [← hX1]
  have r2 := s1
  have hmo2 := r2.1
  refine V_aload_n C dX10_init_25 rfl ?_
  refine V_bipush C dX10_init_26 (by decide) ?_
  refine V_newI C (n := 8) rfl (by omega) a_int (by first | exact Nat.le_of_ble_eq_true rfl | (dsimp only; omega)) (by first | exact Nat.le_of_ble_eq_true rfl | (dsimp only; omega)) dX10_init_28 (fun q2 hq2 hbq => ?_)
  have ny2 : mo ≠ q2 := ne_of_0 hq2 (by omega)
  have hmx2 : gK (alA _ q2 20 8) mo = 12 := (if_neg ny2).trans hmo2
  refine V_putP C cl11 fX10_20 (Or.inr ⟨rfl, rfl, rfl⟩) (Or.inr ⟨_, rfl⟩) hmx2 dX10_init_30 ?_
  obtain ⟨X2, ad2, hX2, s2⟩ := r2.step (t := 20) (m := 8) (q := q2) (by decide) (by decide) (by decide) hq2
  rw [← hX2]
  have r3 := s2
  have hmo3 := r3.1
  refine V_aload_n C dX10_init_33 rfl ?_
  refine V_bipush C dX10_init_34 (by decide) ?_
  refine V_newZ C (n := 8) rfl (by omega) a_boolean (by first | exact Nat.le_of_ble_eq_true rfl | (dsimp only; omega)) (by first | exact Nat.le_of_ble_eq_true rfl | (dsimp only; omega)) dX10_init_36 (fun q3 hq3 hbq => ?_)
  have ny3 : mo ≠ q3 := ne_of_0 hq3 (by omega)
  have hmx3 : gK (alA _ q3 21 8) mo = 12 := (if_neg ny3).trans hmo3
  refine V_putP C cl11 fX10_23 (Or.inr ⟨rfl, rfl, rfl⟩) (Or.inr ⟨_, rfl⟩) hmx3 dX10_init_38 ?_
  obtain ⟨X3, ad3, hX3, s3⟩ := r3.step (t := 21) (m := 8) (q := q3) (by decide) (by decide) (by decide) hq3
  rw [← hX3]
  have r4 := s3
  have hmo4 := r4.1
  refine V_aload_n C dX10_init_41 rfl ?_
  refine V_bipush C dX10_init_42 (by decide) ?_
  refine V_newZ C (n := 8) rfl (by omega) a_boolean (by first | exact Nat.le_of_ble_eq_true rfl | (dsimp only; omega)) (by first | exact Nat.le_of_ble_eq_true rfl | (dsimp only; omega)) dX10_init_44 (fun q4 hq4 hbq => ?_)
  have ny4 : mo ≠ q4 := ne_of_0 hq4 (by omega)
  have hmx4 : gK (alA _ q4 21 8) mo = 12 := (if_neg ny4).trans hmo4
  refine V_putP C cl11 fX10_27 (Or.inr ⟨rfl, rfl, rfl⟩) (Or.inr ⟨_, rfl⟩) hmx4 dX10_init_46 ?_
  obtain ⟨X4, ad4, hX4, s4⟩ := r4.step (t := 21) (m := 8) (q := q4) (by decide) (by decide) (by decide) hq4
  rw [← hX4]
  have r5 := s4
  have hmo5 := r5.1
  refine V_aload_n C dX10_init_49 rfl ?_
  refine V_bipush C dX10_init_50 (by decide) ?_
  refine V_newI C (n := 8) rfl (by omega) a_int (by first | exact Nat.le_of_ble_eq_true rfl | (dsimp only; omega)) (by first | exact Nat.le_of_ble_eq_true rfl | (dsimp only; omega)) dX10_init_52 (fun q5 hq5 hbq => ?_)
  have ny5 : mo ≠ q5 := ne_of_0 hq5 (by omega)
  have hmx5 : gK (alA _ q5 20 8) mo = 12 := (if_neg ny5).trans hmo5
  refine V_putP C cl11 fX10_30 (Or.inr ⟨rfl, rfl, rfl⟩) (Or.inr ⟨_, rfl⟩) hmx5 dX10_init_54 ?_
  obtain ⟨X5, ad5, hX5, s5⟩ := r5.step (t := 20) (m := 8) (q := q5) (by decide) (by decide) (by decide) hq5
  rw [← hX5]
  have r6 := s5
  have hmo6 := r6.1
  refine V_aload_n C dX10_init_57 rfl ?_
  refine V_bipush C dX10_init_58 (by decide) ?_
  refine V_newI C (n := 8) rfl (by omega) a_int (by first | exact Nat.le_of_ble_eq_true rfl | (dsimp only; omega)) (by first | exact Nat.le_of_ble_eq_true rfl | (dsimp only; omega)) dX10_init_60 (fun q6 hq6 hbq => ?_)
  have ny6 : mo ≠ q6 := ne_of_0 hq6 (by omega)
  have hmx6 : gK (alA _ q6 20 8) mo = 12 := (if_neg ny6).trans hmo6
  refine V_putP C cl11 fX10_33 (Or.inr ⟨rfl, rfl, rfl⟩) (Or.inr ⟨_, rfl⟩) hmx6 dX10_init_62 ?_
  obtain ⟨X6, ad6, hX6, s6⟩ := r6.step (t := 20) (m := 8) (q := q6) (by decide) (by decide) (by decide) hq6
  rw [← hX6]
  have r7 := (s6.skip (by decide))
  have hmo7 := r7.1
  refine V_aload_n C dX10_init_65 rfl ?_
  refine V_bipush C dX10_init_66 (by decide) ?_
  refine V_newI C (n := 12) rfl (by omega) a_int (by first | exact Nat.le_of_ble_eq_true rfl | (dsimp only; omega)) (by first | exact Nat.le_of_ble_eq_true rfl | (dsimp only; omega)) dX10_init_68 (fun q7 hq7 hbq => ?_)
  have ny7 : mo ≠ q7 := ne_of_0 hq7 (by omega)
  have hmx7 : gK (alA _ q7 20 12) mo = 12 := (if_neg ny7).trans hmo7
  refine V_putP C cl11 fX10_36 (Or.inr ⟨rfl, rfl, rfl⟩) (Or.inr ⟨_, rfl⟩) hmx7 dX10_init_70 ?_
  obtain ⟨X7, ad7, hX7, s7⟩ := r7.step (t := 20) (m := 12) (q := q7) (by decide) (by decide) (by decide) hq7
  rw [← hX7]
  have r8 := s7
  have hmo8 := r8.1
  refine V_aload_n C dX10_init_73 rfl ?_
  refine V_bipush C dX10_init_74 (by decide) ?_
  refine V_newI C (n := 12) rfl (by omega) a_int (by first | exact Nat.le_of_ble_eq_true rfl | (dsimp only; omega)) (by first | exact Nat.le_of_ble_eq_true rfl | (dsimp only; omega)) dX10_init_76 (fun q8 hq8 hbq => ?_)
  have ny8 : mo ≠ q8 := ne_of_0 hq8 (by omega)
  have hmx8 : gK (alA _ q8 20 12) mo = 12 := (if_neg ny8).trans hmo8
  refine V_putP C cl11 fX10_39 (Or.inr ⟨rfl, rfl, rfl⟩) (Or.inr ⟨_, rfl⟩) hmx8 dX10_init_78 ?_
  obtain ⟨X8, ad8, hX8, s8⟩ := r8.step (t := 20) (m := 12) (q := q8) (by decide) (by decide) (by decide) hq8
  rw [← hX8]
  have r9 := s8
  have hmo9 := r9.1
  refine V_aload_n C dX10_init_81 rfl ?_
  refine V_bipush C dX10_init_82 (by decide) ?_
  refine V_newI C (n := 12) rfl (by omega) a_int (by first | exact Nat.le_of_ble_eq_true rfl | (dsimp only; omega)) (by first | exact Nat.le_of_ble_eq_true rfl | (dsimp only; omega)) dX10_init_84 (fun q9 hq9 hbq => ?_)
  have ny9 : mo ≠ q9 := ne_of_0 hq9 (by omega)
  have hmx9 : gK (alA _ q9 20 12) mo = 12 := (if_neg ny9).trans hmo9
  refine V_putP C cl11 fX10_42 (Or.inr ⟨rfl, rfl, rfl⟩) (Or.inr ⟨_, rfl⟩) hmx9 dX10_init_86 ?_
  obtain ⟨X9, ad9, hX9, s9⟩ := r9.step (t := 20) (m := 12) (q := q9) (by decide) (by decide) (by decide) hq9
  rw [← hX9]
  have r10 := (s9.skip (by decide))
  have hmo10 := r10.1
  refine V_aload_n C dX10_init_89 rfl ?_
  refine V_bipush C dX10_init_90 (by decide) ?_
  refine V_newI C (n := 12) rfl (by omega) a_int (by first | exact Nat.le_of_ble_eq_true rfl | (dsimp only; omega)) (by first | exact Nat.le_of_ble_eq_true rfl | (dsimp only; omega)) dX10_init_92 (fun q10 hq10 hbq => ?_)
  have ny10 : mo ≠ q10 := ne_of_0 hq10 (by omega)
  have hmx10 : gK (alA _ q10 20 12) mo = 12 := (if_neg ny10).trans hmo10
  refine V_putP C cl11 fX10_45 (Or.inr ⟨rfl, rfl, rfl⟩) (Or.inr ⟨_, rfl⟩) hmx10 dX10_init_94 ?_
  obtain ⟨X10, ad10, hX10, s10⟩ := r10.step (t := 20) (m := 12) (q := q10) (by decide) (by decide) (by decide) hq10
  rw [← hX10]
  have r11 := s10
  have hmo11 := r11.1
  refine V_aload_n C dX10_init_97 rfl ?_
  refine V_bipush C dX10_init_98 (by decide) ?_
  refine V_newI C (n := 12) rfl (by omega) a_int (by first | exact Nat.le_of_ble_eq_true rfl | (dsimp only; omega)) (by first | exact Nat.le_of_ble_eq_true rfl | (dsimp only; omega)) dX10_init_100 (fun q11 hq11 hbq => ?_)
  have ny11 : mo ≠ q11 := ne_of_0 hq11 (by omega)
  have hmx11 : gK (alA _ q11 20 12) mo = 12 := (if_neg ny11).trans hmo11
  refine V_putP C cl11 fX10_48 (Or.inr ⟨rfl, rfl, rfl⟩) (Or.inr ⟨_, rfl⟩) hmx11 dX10_init_102 ?_
  obtain ⟨X11, ad11, hX11, s11⟩ := r11.step (t := 20) (m := 12) (q := q11) (by decide) (by decide) (by decide) hq11
  rw [← hX11]
  have r12 := s11
  have hmo12 := r12.1
  refine V_aload_n C dX10_init_105 rfl ?_
  refine V_bipush C dX10_init_106 (by decide) ?_
  refine V_newZ C (n := 12) rfl (by omega) a_boolean (by first | exact Nat.le_of_ble_eq_true rfl | (dsimp only; omega)) (by first | exact Nat.le_of_ble_eq_true rfl | (dsimp only; omega)) dX10_init_108 (fun q12 hq12 hbq => ?_)
  have ny12 : mo ≠ q12 := ne_of_0 hq12 (by omega)
  have hmx12 : gK (alA _ q12 21 12) mo = 12 := (if_neg ny12).trans hmo12
  refine V_putP C cl11 fX10_51 (Or.inr ⟨rfl, rfl, rfl⟩) (Or.inr ⟨_, rfl⟩) hmx12 dX10_init_110 ?_
  obtain ⟨X12, ad12, hX12, s12⟩ := r12.step (t := 21) (m := 12) (q := q12) (by decide) (by decide) (by decide) hq12
  rw [← hX12]
  have r13 := s12
  have hmo13 := r13.1
  refine V_aload_n C dX10_init_113 rfl ?_
  refine V_bipush C dX10_init_114 (by decide) ?_
  refine V_newZ C (n := 12) rfl (by omega) a_boolean (by first | exact Nat.le_of_ble_eq_true rfl | (dsimp only; omega)) (by first | exact Nat.le_of_ble_eq_true rfl | (dsimp only; omega)) dX10_init_116 (fun q13 hq13 hbq => ?_)
  have ny13 : mo ≠ q13 := ne_of_0 hq13 (by omega)
  have hmx13 : gK (alA _ q13 21 12) mo = 12 := (if_neg ny13).trans hmo13
  refine V_putP C cl11 fX10_54 (Or.inr ⟨rfl, rfl, rfl⟩) (Or.inr ⟨_, rfl⟩) hmx13 dX10_init_118 ?_
  obtain ⟨X13, ad13, hX13, s13⟩ := r13.step (t := 21) (m := 12) (q := q13) (by decide) (by decide) (by decide) hq13
  rw [← hX13]
  have r14 := s13
  have hmo14 := r14.1
  refine V_aload_n C dX10_init_121 rfl ?_
  refine V_bipush C dX10_init_122 (by decide) ?_
  refine V_newI C (n := 12) rfl (by omega) a_int (by first | exact Nat.le_of_ble_eq_true rfl | (dsimp only; omega)) (by first | exact Nat.le_of_ble_eq_true rfl | (dsimp only; omega)) dX10_init_124 (fun q14 hq14 hbq => ?_)
  have ny14 : mo ≠ q14 := ne_of_0 hq14 (by omega)
  have hmx14 : gK (alA _ q14 20 12) mo = 12 := (if_neg ny14).trans hmo14
  refine V_putP C cl11 fX10_57 (Or.inr ⟨rfl, rfl, rfl⟩) (Or.inr ⟨_, rfl⟩) hmx14 dX10_init_126 ?_
  obtain ⟨X14, ad14, hX14, s14⟩ := r14.step (t := 20) (m := 12) (q := q14) (by decide) (by decide) (by decide) hq14
  rw [← hX14]
  have r15 := s14
  have hmo15 := r15.1
  refine V_aload_n C dX10_init_129 rfl ?_
  refine V_bipush C dX10_init_130 (by decide) ?_
  refine V_newI C (n := 12) rfl (by omega) a_int (by first | exact Nat.le_of_ble_eq_true rfl | (dsimp only; omega)) (by first | exact Nat.le_of_ble_eq_true rfl | (dsimp only; omega)) dX10_init_132 (fun q15 hq15 hbq => ?_)
  have ny15 : mo ≠ q15 := ne_of_0 hq15 (by omega)
  have hmx15 : gK (alA _ q15 20 12) mo = 12 := (if_neg ny15).trans hmo15
  refine V_putP C cl11 fX10_60 (Or.inr ⟨rfl, rfl, rfl⟩) (Or.inr ⟨_, rfl⟩) hmx15 dX10_init_134 ?_
  obtain ⟨X15, ad15, hX15, s15⟩ := r15.step (t := 20) (m := 12) (q := q15) (by decide) (by decide) (by decide) hq15
  rw [← hX15]
  have r16 := s15
  have hmo16 := r16.1
  refine V_aload_n C dX10_init_137 rfl ?_
  refine V_sipush C dX10_init_138 (by decide) ?_
  refine V_newI C (n := 160) rfl (by omega) a_int (by first | exact Nat.le_of_ble_eq_true rfl | (dsimp only; omega)) (by first | exact Nat.le_of_ble_eq_true rfl | (dsimp only; omega)) dX10_init_141 (fun q16 hq16 hbq => ?_)
  have ny16 : mo ≠ q16 := ne_of_0 hq16 (by omega)
  have hmx16 : gK (alA _ q16 20 160) mo = 12 := (if_neg ny16).trans hmo16
  refine V_putP C cl11 fX10_63 (Or.inr ⟨rfl, rfl, rfl⟩) (Or.inr ⟨_, rfl⟩) hmx16 dX10_init_143 ?_
  obtain ⟨X16, ad16, hX16, s16⟩ := r16.step (t := 20) (m := 160) (q := q16) (by decide) (by decide) (by decide) hq16
  rw [← hX16]
  have r17 := s16
  have hmo17 := r17.1
  refine V_aload_n C dX10_init_146 rfl ?_
  refine V_bipush C dX10_init_147 (by decide) ?_
  refine V_newI C (n := 9) rfl (by omega) a_int (by first | exact Nat.le_of_ble_eq_true rfl | (dsimp only; omega)) (by first | exact Nat.le_of_ble_eq_true rfl | (dsimp only; omega)) dX10_init_149 (fun q17 hq17 hbq => ?_)
  have ny17 : mo ≠ q17 := ne_of_0 hq17 (by omega)
  have hmx17 : gK (alA _ q17 20 9) mo = 12 := (if_neg ny17).trans hmo17
  refine V_putP C cl11 fX10_66 (Or.inr ⟨rfl, rfl, rfl⟩) (Or.inr ⟨_, rfl⟩) hmx17 dX10_init_151 ?_
  obtain ⟨X17, ad17, hX17, s17⟩ := r17.step (t := 20) (m := 9) (q := q17) (by decide) (by decide) (by decide) hq17
  rw [← hX17]
  have r18 := s17
  have hmo18 := r18.1
  refine V_aload_n C dX10_init_154 rfl ?_
  refine V_bipush C dX10_init_155 (by decide) ?_
  refine V_newI C (n := 8) rfl (by omega) a_int (by first | exact Nat.le_of_ble_eq_true rfl | (dsimp only; omega)) (by first | exact Nat.le_of_ble_eq_true rfl | (dsimp only; omega)) dX10_init_157 (fun q18 hq18 hbq => ?_)
  have ny18 : mo ≠ q18 := ne_of_0 hq18 (by omega)
  have hmx18 : gK (alA _ q18 20 8) mo = 12 := (if_neg ny18).trans hmo18
  refine V_putP C cl11 fX10_69 (Or.inr ⟨rfl, rfl, rfl⟩) (Or.inr ⟨_, rfl⟩) hmx18 dX10_init_159 ?_
  obtain ⟨X18, ad18, hX18, s18⟩ := r18.step (t := 20) (m := 8) (q := q18) (by decide) (by decide) (by decide) hq18
  rw [← hX18]
  have r19 := s18
  have hmo19 := r19.1
  refine V_aload_n C dX10_init_162 rfl ?_
  refine V_sipush C dX10_init_163 (by decide) ?_
  refine V_newI C (n := 12000) rfl (by omega) a_int (by first | exact Nat.le_of_ble_eq_true rfl | (dsimp only; omega)) (by first | exact Nat.le_of_ble_eq_true rfl | (dsimp only; omega)) dX10_init_166 (fun q19 hq19 hbq => ?_)
  have ny19 : mo ≠ q19 := ne_of_0 hq19 (by omega)
  have hmx19 : gK (alA _ q19 20 12000) mo = 12 := (if_neg ny19).trans hmo19
  refine V_putP C cl11 fX10_72 (Or.inr ⟨rfl, rfl, rfl⟩) (Or.inr ⟨_, rfl⟩) hmx19 dX10_init_168 ?_
  obtain ⟨X19, ad19, hX19, s19⟩ := r19.step (t := 20) (m := 12000) (q := q19) (by decide) (by decide) (by decide) hq19
  rw [← hX19]
  have r20 := s19
  have hmo20 := r20.1
  refine V_aload_n C dX10_init_171 rfl ?_
  refine V_sipush C dX10_init_172 (by decide) ?_
  refine V_newI C (n := 12000) rfl (by omega) a_int (by first | exact Nat.le_of_ble_eq_true rfl | (dsimp only; omega)) (by first | exact Nat.le_of_ble_eq_true rfl | (dsimp only; omega)) dX10_init_175 (fun q20 hq20 hbq => ?_)
  have ny20 : mo ≠ q20 := ne_of_0 hq20 (by omega)
  have hmx20 : gK (alA _ q20 20 12000) mo = 12 := (if_neg ny20).trans hmo20
  refine V_putP C cl11 fX10_75 (Or.inr ⟨rfl, rfl, rfl⟩) (Or.inr ⟨_, rfl⟩) hmx20 dX10_init_177 ?_
  obtain ⟨X20, ad20, hX20, s20⟩ := r20.step (t := 20) (m := 12000) (q := q20) (by decide) (by decide) (by decide) hq20
  rw [← hX20]
  have r21 := s20
  have hmo21 := r21.1
  refine V_aload_n C dX10_init_180 rfl ?_
  refine V_sipush C dX10_init_181 (by decide) ?_
  refine V_newI C (n := 12000) rfl (by omega) a_int (by first | exact Nat.le_of_ble_eq_true rfl | (dsimp only; omega)) (by first | exact Nat.le_of_ble_eq_true rfl | (dsimp only; omega)) dX10_init_184 (fun q21 hq21 hbq => ?_)
  have ny21 : mo ≠ q21 := ne_of_0 hq21 (by omega)
  have hmx21 : gK (alA _ q21 20 12000) mo = 12 := (if_neg ny21).trans hmo21
  refine V_putP C cl11 fX10_78 (Or.inr ⟨rfl, rfl, rfl⟩) (Or.inr ⟨_, rfl⟩) hmx21 dX10_init_186 ?_
  obtain ⟨X21, ad21, hX21, s21⟩ := r21.step (t := 20) (m := 12000) (q := q21) (by decide) (by decide) (by decide) hq21
  rw [← hX21]
  have r22 := (s21.skip (by decide))
  have hmo22 := r22.1
  refine V_aload_n C dX10_init_189 rfl ?_
  refine V_bipush C dX10_init_190 (by decide) ?_
  refine V_newI C (n := 40) rfl (by omega) a_int (by first | exact Nat.le_of_ble_eq_true rfl | (dsimp only; omega)) (by first | exact Nat.le_of_ble_eq_true rfl | (dsimp only; omega)) dX10_init_192 (fun q22 hq22 hbq => ?_)
  have ny22 : mo ≠ q22 := ne_of_0 hq22 (by omega)
  have hmx22 : gK (alA _ q22 20 40) mo = 12 := (if_neg ny22).trans hmo22
  refine V_putP C cl11 fX10_81 (Or.inr ⟨rfl, rfl, rfl⟩) (Or.inr ⟨_, rfl⟩) hmx22 dX10_init_194 ?_
  obtain ⟨X22, ad22, hX22, s22⟩ := r22.step (t := 20) (m := 40) (q := q22) (by decide) (by decide) (by decide) hq22
  rw [← hX22]
  have r23 := s22
  have hmo23 := r23.1
  refine V_aload_n C dX10_init_197 rfl ?_
  refine V_bipush C dX10_init_198 (by decide) ?_
  refine V_newI C (n := 40) rfl (by omega) a_int (by first | exact Nat.le_of_ble_eq_true rfl | (dsimp only; omega)) (by first | exact Nat.le_of_ble_eq_true rfl | (dsimp only; omega)) dX10_init_200 (fun q23 hq23 hbq => ?_)
  have ny23 : mo ≠ q23 := ne_of_0 hq23 (by omega)
  have hmx23 : gK (alA _ q23 20 40) mo = 12 := (if_neg ny23).trans hmo23
  refine V_putP C cl11 fX10_84 (Or.inr ⟨rfl, rfl, rfl⟩) (Or.inr ⟨_, rfl⟩) hmx23 dX10_init_202 ?_
  obtain ⟨X23, ad23, hX23, s23⟩ := r23.step (t := 20) (m := 40) (q := q23) (by decide) (by decide) (by decide) hq23
  rw [← hX23]
  have r24 := s23
  have hmo24 := r24.1
  refine V_aload_n C dX10_init_205 rfl ?_
  refine V_bipush C dX10_init_206 (by decide) ?_
  refine V_newI C (n := 40) rfl (by omega) a_int (by first | exact Nat.le_of_ble_eq_true rfl | (dsimp only; omega)) (by first | exact Nat.le_of_ble_eq_true rfl | (dsimp only; omega)) dX10_init_208 (fun q24 hq24 hbq => ?_)
  have ny24 : mo ≠ q24 := ne_of_0 hq24 (by omega)
  have hmx24 : gK (alA _ q24 20 40) mo = 12 := (if_neg ny24).trans hmo24
  refine V_putP C cl11 fX10_87 (Or.inr ⟨rfl, rfl, rfl⟩) (Or.inr ⟨_, rfl⟩) hmx24 dX10_init_210 ?_
  obtain ⟨X24, ad24, hX24, s24⟩ := r24.step (t := 20) (m := 40) (q := q24) (by decide) (by decide) (by decide) hq24
  rw [← hX24]
  have r25 := s24
  have hmo25 := r25.1
  refine V_aload_n C dX10_init_213 rfl ?_
  refine V_bipush C dX10_init_214 (by decide) ?_
  refine V_newI C (n := 40) rfl (by omega) a_int (by first | exact Nat.le_of_ble_eq_true rfl | (dsimp only; omega)) (by first | exact Nat.le_of_ble_eq_true rfl | (dsimp only; omega)) dX10_init_216 (fun q25 hq25 hbq => ?_)
  have ny25 : mo ≠ q25 := ne_of_0 hq25 (by omega)
  have hmx25 : gK (alA _ q25 20 40) mo = 12 := (if_neg ny25).trans hmo25
  refine V_putP C cl11 fX10_90 (Or.inr ⟨rfl, rfl, rfl⟩) (Or.inr ⟨_, rfl⟩) hmx25 dX10_init_218 ?_
  obtain ⟨X25, ad25, hX25, s25⟩ := r25.step (t := 20) (m := 40) (q := q25) (by decide) (by decide) (by decide) hq25
  rw [← hX25]
  have r26 := s25
  have hmo26 := r26.1
  refine V_aload_n C dX10_init_221 rfl ?_
  refine V_bipush C dX10_init_222 (by decide) ?_
  refine V_newI C (n := 40) rfl (by omega) a_int (by first | exact Nat.le_of_ble_eq_true rfl | (dsimp only; omega)) (by first | exact Nat.le_of_ble_eq_true rfl | (dsimp only; omega)) dX10_init_224 (fun q26 hq26 hbq => ?_)
  have ny26 : mo ≠ q26 := ne_of_0 hq26 (by omega)
  have hmx26 : gK (alA _ q26 20 40) mo = 12 := (if_neg ny26).trans hmo26
  refine V_putP C cl11 fX10_93 (Or.inr ⟨rfl, rfl, rfl⟩) (Or.inr ⟨_, rfl⟩) hmx26 dX10_init_226 ?_
  obtain ⟨X26, ad26, hX26, s26⟩ := r26.step (t := 20) (m := 40) (q := q26) (by decide) (by decide) (by decide) hq26
  rw [← hX26]
  have r27 := s26
  have hmo27 := r27.1
  refine V_aload_n C dX10_init_229 rfl ?_
  refine V_bipush C dX10_init_230 (by decide) ?_
  refine V_newI C (n := 40) rfl (by omega) a_int (by first | exact Nat.le_of_ble_eq_true rfl | (dsimp only; omega)) (by first | exact Nat.le_of_ble_eq_true rfl | (dsimp only; omega)) dX10_init_232 (fun q27 hq27 hbq => ?_)
  have ny27 : mo ≠ q27 := ne_of_0 hq27 (by omega)
  have hmx27 : gK (alA _ q27 20 40) mo = 12 := (if_neg ny27).trans hmo27
  refine V_putP C cl11 fX10_96 (Or.inr ⟨rfl, rfl, rfl⟩) (Or.inr ⟨_, rfl⟩) hmx27 dX10_init_234 ?_
  obtain ⟨X27, ad27, hX27, s27⟩ := r27.step (t := 20) (m := 40) (q := q27) (by decide) (by decide) (by decide) hq27
  rw [← hX27]
  have r28 := s27
  have hmo28 := r28.1
  refine V_aload_n C dX10_init_237 rfl ?_
  refine V_bipush C dX10_init_238 (by decide) ?_
  refine V_newI C (n := 40) rfl (by omega) a_int (by first | exact Nat.le_of_ble_eq_true rfl | (dsimp only; omega)) (by first | exact Nat.le_of_ble_eq_true rfl | (dsimp only; omega)) dX10_init_240 (fun q28 hq28 hbq => ?_)
  have ny28 : mo ≠ q28 := ne_of_0 hq28 (by omega)
  have hmx28 : gK (alA _ q28 20 40) mo = 12 := (if_neg ny28).trans hmo28
  refine V_putP C cl11 fX10_99 (Or.inr ⟨rfl, rfl, rfl⟩) (Or.inr ⟨_, rfl⟩) hmx28 dX10_init_242 ?_
  obtain ⟨X28, ad28, hX28, s28⟩ := r28.step (t := 20) (m := 40) (q := q28) (by decide) (by decide) (by decide) hq28
  rw [← hX28]
  have r29 := s28
  have hmo29 := r29.1
  refine V_aload_n C dX10_init_245 rfl ?_
  refine V_bipush C dX10_init_246 (by decide) ?_
  refine V_newI C (n := 40) rfl (by omega) a_int (by first | exact Nat.le_of_ble_eq_true rfl | (dsimp only; omega)) (by first | exact Nat.le_of_ble_eq_true rfl | (dsimp only; omega)) dX10_init_248 (fun q29 hq29 hbq => ?_)
  have ny29 : mo ≠ q29 := ne_of_0 hq29 (by omega)
  have hmx29 : gK (alA _ q29 20 40) mo = 12 := (if_neg ny29).trans hmo29
  refine V_putP C cl11 fX10_102 (Or.inr ⟨rfl, rfl, rfl⟩) (Or.inr ⟨_, rfl⟩) hmx29 dX10_init_250 ?_
  obtain ⟨X29, ad29, hX29, s29⟩ := r29.step (t := 20) (m := 40) (q := q29) (by decide) (by decide) (by decide) hq29
  rw [← hX29]
  have r30 := s29
  have hmo30 := r30.1
  refine V_aload_n C dX10_init_253 rfl ?_
  refine V_bipush C dX10_init_254 (by decide) ?_
  refine V_newI C (n := 40) rfl (by omega) a_int (by first | exact Nat.le_of_ble_eq_true rfl | (dsimp only; omega)) (by first | exact Nat.le_of_ble_eq_true rfl | (dsimp only; omega)) dX10_init_256 (fun q30 hq30 hbq => ?_)
  have ny30 : mo ≠ q30 := ne_of_0 hq30 (by omega)
  have hmx30 : gK (alA _ q30 20 40) mo = 12 := (if_neg ny30).trans hmo30
  refine V_putP C cl11 fX10_105 (Or.inr ⟨rfl, rfl, rfl⟩) (Or.inr ⟨_, rfl⟩) hmx30 dX10_init_258 ?_
  obtain ⟨X30, ad30, hX30, s30⟩ := r30.step (t := 20) (m := 40) (q := q30) (by decide) (by decide) (by decide) hq30
  rw [← hX30]
  have r31 := s30
  have hmo31 := r31.1
  refine V_aload_n C dX10_init_261 rfl ?_
  refine V_bipush C dX10_init_262 (by decide) ?_
  refine V_newI C (n := 40) rfl (by omega) a_int (by first | exact Nat.le_of_ble_eq_true rfl | (dsimp only; omega)) (by first | exact Nat.le_of_ble_eq_true rfl | (dsimp only; omega)) dX10_init_264 (fun q31 hq31 hbq => ?_)
  have ny31 : mo ≠ q31 := ne_of_0 hq31 (by omega)
  have hmx31 : gK (alA _ q31 20 40) mo = 12 := (if_neg ny31).trans hmo31
  refine V_putP C cl11 fX10_108 (Or.inr ⟨rfl, rfl, rfl⟩) (Or.inr ⟨_, rfl⟩) hmx31 dX10_init_266 ?_
  obtain ⟨X31, ad31, hX31, s31⟩ := r31.step (t := 20) (m := 40) (q := q31) (by decide) (by decide) (by decide) hq31
  rw [← hX31]
  have r32 := s31
  have hmo32 := r32.1
  refine V_aload_n C dX10_init_269 rfl ?_
  refine V_bipush C dX10_init_270 (by decide) ?_
  refine V_newI C (n := 40) rfl (by omega) a_int (by first | exact Nat.le_of_ble_eq_true rfl | (dsimp only; omega)) (by first | exact Nat.le_of_ble_eq_true rfl | (dsimp only; omega)) dX10_init_272 (fun q32 hq32 hbq => ?_)
  have ny32 : mo ≠ q32 := ne_of_0 hq32 (by omega)
  have hmx32 : gK (alA _ q32 20 40) mo = 12 := (if_neg ny32).trans hmo32
  refine V_putP C cl11 fX10_111 (Or.inr ⟨rfl, rfl, rfl⟩) (Or.inr ⟨_, rfl⟩) hmx32 dX10_init_274 ?_
  obtain ⟨X32, ad32, hX32, s32⟩ := r32.step (t := 20) (m := 40) (q := q32) (by decide) (by decide) (by decide) hq32
  rw [← hX32]
  have r33 := s32
  have hmo33 := r33.1
  refine V_aload_n C dX10_init_277 rfl ?_
  refine V_bipush C dX10_init_278 (by decide) ?_
  refine V_newI C (n := 40) rfl (by omega) a_int (by first | exact Nat.le_of_ble_eq_true rfl | (dsimp only; omega)) (by first | exact Nat.le_of_ble_eq_true rfl | (dsimp only; omega)) dX10_init_280 (fun q33 hq33 hbq => ?_)
  have ny33 : mo ≠ q33 := ne_of_0 hq33 (by omega)
  have hmx33 : gK (alA _ q33 20 40) mo = 12 := (if_neg ny33).trans hmo33
  refine V_putP C cl11 fX10_114 (Or.inr ⟨rfl, rfl, rfl⟩) (Or.inr ⟨_, rfl⟩) hmx33 dX10_init_282 ?_
  obtain ⟨X33, ad33, hX33, s33⟩ := r33.step (t := 20) (m := 40) (q := q33) (by decide) (by decide) (by decide) hq33
  rw [← hX33]
  have r34 := s33
  have hmo34 := r34.1
  refine V_aload_n C dX10_init_285 rfl ?_
  refine V_bipush C dX10_init_286 (by decide) ?_
  refine V_newI C (n := 40) rfl (by omega) a_int (by first | exact Nat.le_of_ble_eq_true rfl | (dsimp only; omega)) (by first | exact Nat.le_of_ble_eq_true rfl | (dsimp only; omega)) dX10_init_288 (fun q34 hq34 hbq => ?_)
  have ny34 : mo ≠ q34 := ne_of_0 hq34 (by omega)
  have hmx34 : gK (alA _ q34 20 40) mo = 12 := (if_neg ny34).trans hmo34
  refine V_putP C cl11 fX10_117 (Or.inr ⟨rfl, rfl, rfl⟩) (Or.inr ⟨_, rfl⟩) hmx34 dX10_init_290 ?_
  obtain ⟨X34, ad34, hX34, s34⟩ := r34.step (t := 20) (m := 40) (q := q34) (by decide) (by decide) (by decide) hq34
  rw [← hX34]
  have r35 := s34
  have hmo35 := r35.1
  refine V_aload_n C dX10_init_293 rfl ?_
  refine V_bipush C dX10_init_294 (by decide) ?_
  refine V_newI C (n := 40) rfl (by omega) a_int (by first | exact Nat.le_of_ble_eq_true rfl | (dsimp only; omega)) (by first | exact Nat.le_of_ble_eq_true rfl | (dsimp only; omega)) dX10_init_296 (fun q35 hq35 hbq => ?_)
  have ny35 : mo ≠ q35 := ne_of_0 hq35 (by omega)
  have hmx35 : gK (alA _ q35 20 40) mo = 12 := (if_neg ny35).trans hmo35
  refine V_putP C cl11 fX10_120 (Or.inr ⟨rfl, rfl, rfl⟩) (Or.inr ⟨_, rfl⟩) hmx35 dX10_init_298 ?_
  obtain ⟨X35, ad35, hX35, s35⟩ := r35.step (t := 20) (m := 40) (q := q35) (by decide) (by decide) (by decide) hq35
  rw [← hX35]
  have r36 := s35
  have hmo36 := r36.1
  refine V_aload_n C dX10_init_301 rfl ?_
  refine V_bipush C dX10_init_302 (by decide) ?_
  refine V_newI C (n := 40) rfl (by omega) a_int (by first | exact Nat.le_of_ble_eq_true rfl | (dsimp only; omega)) (by first | exact Nat.le_of_ble_eq_true rfl | (dsimp only; omega)) dX10_init_304 (fun q36 hq36 hbq => ?_)
  have ny36 : mo ≠ q36 := ne_of_0 hq36 (by omega)
  have hmx36 : gK (alA _ q36 20 40) mo = 12 := (if_neg ny36).trans hmo36
  refine V_putP C cl11 fX10_123 (Or.inr ⟨rfl, rfl, rfl⟩) (Or.inr ⟨_, rfl⟩) hmx36 dX10_init_306 ?_
  obtain ⟨X36, ad36, hX36, s36⟩ := r36.step (t := 20) (m := 40) (q := q36) (by decide) (by decide) (by decide) hq36
  rw [← hX36]
  have r37 := s36
  have hmo37 := r37.1
  refine V_aload_n C dX10_init_309 rfl ?_
  refine V_bipush C dX10_init_310 (by decide) ?_
  refine V_newI C (n := 40) rfl (by omega) a_int (by first | exact Nat.le_of_ble_eq_true rfl | (dsimp only; omega)) (by first | exact Nat.le_of_ble_eq_true rfl | (dsimp only; omega)) dX10_init_312 (fun q37 hq37 hbq => ?_)
  have ny37 : mo ≠ q37 := ne_of_0 hq37 (by omega)
  have hmx37 : gK (alA _ q37 20 40) mo = 12 := (if_neg ny37).trans hmo37
  refine V_putP C cl11 fX10_126 (Or.inr ⟨rfl, rfl, rfl⟩) (Or.inr ⟨_, rfl⟩) hmx37 dX10_init_314 ?_
  obtain ⟨X37, ad37, hX37, s37⟩ := r37.step (t := 20) (m := 40) (q := q37) (by decide) (by decide) (by decide) hq37
  rw [← hX37]
  have r38 := s37
  have hmo38 := r38.1
  refine V_aload_n C dX10_init_317 rfl ?_
  refine V_bipush C dX10_init_318 (by decide) ?_
  refine V_newZ C (n := 40) rfl (by omega) a_boolean (by first | exact Nat.le_of_ble_eq_true rfl | (dsimp only; omega)) (by first | exact Nat.le_of_ble_eq_true rfl | (dsimp only; omega)) dX10_init_320 (fun q38 hq38 hbq => ?_)
  have ny38 : mo ≠ q38 := ne_of_0 hq38 (by omega)
  have hmx38 : gK (alA _ q38 21 40) mo = 12 := (if_neg ny38).trans hmo38
  refine V_putP C cl11 fX10_129 (Or.inr ⟨rfl, rfl, rfl⟩) (Or.inr ⟨_, rfl⟩) hmx38 dX10_init_322 ?_
  obtain ⟨X38, ad38, hX38, s38⟩ := r38.step (t := 21) (m := 40) (q := q38) (by decide) (by decide) (by decide) hq38
  rw [← hX38]
  have r39 := s38
  have hmo39 := r39.1
  refine V_aload_n C dX10_init_325 rfl ?_
  refine V_bipush C dX10_init_326 (by decide) ?_
  refine V_newI C (n := 40) rfl (by omega) a_int (by first | exact Nat.le_of_ble_eq_true rfl | (dsimp only; omega)) (by first | exact Nat.le_of_ble_eq_true rfl | (dsimp only; omega)) dX10_init_328 (fun q39 hq39 hbq => ?_)
  have ny39 : mo ≠ q39 := ne_of_0 hq39 (by omega)
  have hmx39 : gK (alA _ q39 20 40) mo = 12 := (if_neg ny39).trans hmo39
  refine V_putP C cl11 fX10_132 (Or.inr ⟨rfl, rfl, rfl⟩) (Or.inr ⟨_, rfl⟩) hmx39 dX10_init_330 ?_
  obtain ⟨X39, ad39, hX39, s39⟩ := r39.step (t := 20) (m := 40) (q := q39) (by decide) (by decide) (by decide) hq39
  rw [← hX39]
  have r40 := s39
  have hmo40 := r40.1
  refine V_aload_n C dX10_init_333 rfl ?_
  refine V_bipush C dX10_init_334 (by decide) ?_
  refine V_newI C (n := 40) rfl (by omega) a_int (by first | exact Nat.le_of_ble_eq_true rfl | (dsimp only; omega)) (by first | exact Nat.le_of_ble_eq_true rfl | (dsimp only; omega)) dX10_init_336 (fun q40 hq40 hbq => ?_)
  have ny40 : mo ≠ q40 := ne_of_0 hq40 (by omega)
  have hmx40 : gK (alA _ q40 20 40) mo = 12 := (if_neg ny40).trans hmo40
  refine V_putP C cl11 fX10_135 (Or.inr ⟨rfl, rfl, rfl⟩) (Or.inr ⟨_, rfl⟩) hmx40 dX10_init_338 ?_
  obtain ⟨X40, ad40, hX40, s40⟩ := r40.step (t := 20) (m := 40) (q := q40) (by decide) (by decide) (by decide) hq40
  rw [← hX40]
  have r99 := s40
  refine V_iconst C dX10_init_341 ?_
  refine V_istore_n C dX10_init_342 (by decide) rfl ?_
  have t99 : RJ X X40 mo ad40 0 := RJ.of r99 adK_50
  refine V_while C (St := Nat × Mm) (f := fun z => z.2) (g := fun z => [some (rv (some mo)), some (iv (z.1 : Int))]) (cs := fun _ => 40) (ss := fun _ => 37093) (μ := fun z => 8 - z.1) (I := fun z => z.1 ≤ 8 ∧ RJ X z.2 mo ad40 z.1) (x0 := (0, X40)) rfl rfl rfl rfl ⟨Nat.zero_le _, t99⟩ ?_
  rintro ⟨i, Xi⟩ ⟨hi, hJ⟩ ih
  dsimp only at hi hJ ih ⊢
  refine V_iload_n C dX10_init_343 rfl ?_
  refine V_bipush C dX10_init_344 (by decide) ?_
  refine V_icmp_ge C dX10_init_346 (by omega) (by decide) (fun h346 => ?_) (fun h346 => ?_)
  · exact V_vret C (by first | exact Nat.le_of_ble_eq_true rfl | (dsimp only; omega)) (by first | exact Nat.le_of_ble_eq_true rfl | (dsimp only; omega)) ⟨rfl, ad40, (by obtain rfl : i = 8 := (by omega); exact hJ.1), fun a g1 g2 => (hJ.2 a g1 g2).1⟩ hr dX10_init_362
  · refine V_aload_n C dX10_init_349 rfl ?_
    refine V_getP C cl11 fX10_33 (r := some ((ad40 12))) hJ.1.1 (hJ.1.2.1 12 (by decide)).1 dX10_init_350 ?_
    refine V_iload_n C dX10_init_353 rfl ?_
    refine V_iconst C dX10_init_354 ?_
    refine V_iast C (hJ.1.2.1 12 (by decide)).2.1 (show gN Xi (ad40 12) = 8 from (hJ.1.2.1 12 (by decide)).2.2) (show i < 8 by omega) (by omega) rfl dX10_init_355 ?_
    refine V_iinc C dX10_init_356 (by decide) rfl rfl ?_
    refine V_goto C dX10_init_359 ?_
    exact ih (i + 1, _) ⟨by show i + 1 ≤ 8; omega, hJ.step⟩ (by show 8 - (i + 1) < 8 - i; omega)
end REL13
