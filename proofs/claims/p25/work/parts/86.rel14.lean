/-! the yard begins -/
def YL (t0 : Nat) (X : Mm) (y : Nat) (lf : Nat → Nat) (j : Nat) : Prop := gK X y = 11 ∧ (gK X t0 = 24 ∧ gN X t0 = 0) ∧ (∀ i, i < j → gP X (640 + i) y = some (lf i) ∧ LI t0 X (lf i) [] t0 0) ∧ ∀ i k, i < j → k < j → lf i = lf k → i = k
def nwL (X : Mm) (q t0 : Nat) : Mm := sP (sI (alO X q 1) 0 q 0) 1 q (some t0)
theorem nwL_c {X : Mm} {q t0 x : Nat} (h : x ≠ q) : eqc X (nwL X q t0) x := ((eqc_alO h).tr (eqc_sI h)).tr (eqc_sP h)
theorem YL.step {t0 : Nat} {X : Mm} {y j q : Nat} {lf : Nat → Nat} (h : YL t0 X y lf j) (hq : gK X q = 0) : ∃ Y l2, Y = sP (nwL X q t0) (640 + j) y (some q) ∧ YL t0 Y y l2 (j + 1) := by
  obtain ⟨h1, h2, h3, h4⟩ := h
  have ny : y ≠ q := ne_of_0 hq (by omega)
  have nt : t0 ≠ q := ne_of_0 hq (by omega)
  have nl : ∀ i, i < j → lf i ≠ q := fun i hi => ne_of_0 hq (by rw [(h3 i hi).2.1]; decide)
  have hc : ∀ x, x ≠ q → x ≠ y → eqc X (sP (nwL X q t0) (640 + j) y (some q)) x := fun x a b => (nwL_c a).tr (eqc_sP b)
  have ct := hc t0 nt (fun e => by rw [e] at h2; omega)
  refine ⟨_, u1 lf j q, rfl, (if_neg ny).trans h1, ⟨ct.1.trans h2.1, ct.2.2.2.1.trans h2.2⟩, fun i hi => ?_, fun i k hi hk e => ?_⟩
  · by_cases e : i = j
    · subst e
      have e1 : u1 lf i q i = q := if_pos rfl
      rw [e1]
      refine ⟨if_pos ⟨rfl, rfl⟩, if_pos rfl, if_pos rfl, ?_, ct.2.2.2.1.trans h2.2, Or.inr ⟨rfl, ct.1.trans h2.1, rfl⟩, Nat.le_refl _, Nat.zero_le _, fun i v hv => by cases hv⟩
      exact (if_neg (fun e => by omega)).trans (if_pos ⟨rfl, rfl⟩)
    · have e1 : u1 lf j q i = lf i := if_neg e
      rw [e1]
      obtain ⟨g1, g2⟩ := h3 i (by omega)
      refine ⟨(if_neg (fun z => by omega)).trans ((if_neg (fun z => by omega)).trans ((if_neg ny).trans g1)), g2.kept (hc _ (nl i (by omega)) (fun e => ?_)) ct (fun v hv => by cases hv)⟩
      have := g2.1
      rw [e] at this
      omega
  · by_cases ei : i = j
    · by_cases ek : k = j
      · omega
      · have e2 : u1 lf j q i = q := if_pos ei
        have e3 : u1 lf j q k = lf k := if_neg ek
        rw [e2, e3] at e
        exact absurd e.symm (nl k (by omega))
    · by_cases ek : k = j
      · have e2 : u1 lf j q k = q := if_pos ek
        have e3 : u1 lf j q i = lf i := if_neg ei
        rw [e2, e3] at e
        exact absurd e (nl i (by omega))
      · have e2 : u1 lf j q k = lf k := if_neg ek
        have e3 : u1 lf j q i = lf i := if_neg ei
        rw [e2, e3] at e
        exact h4 i k (by omega) (by omega) e
def YF (X : Mm) (a q : Nat) : Prop := gK X a = 5 ∧ gP X 256 a = some q ∧ gI X 257 a = 0 ∧ gK X q = 9 ∧ gI X 512 q = 0 ∧ gI X 513 q = 0 ∧ gI X 514 q = 0 ∧ gI X 515 q = 0
theorem YF.kept {X Y : Mm} {a q : Nat} (h : YF X a q) (h1 : eqc X Y a) (h2 : eqc X Y q) : YF Y a q := by
  obtain ⟨a1, a2, a3, a4, a5, a6, a7, a8⟩ := h
  exact ⟨h1.1.trans a1, (h1.2.2.1 _).trans a2, (h1.2.1 _).trans a3, h2.1.trans a4, (h2.2.1 _).trans a5, (h2.2.1 _).trans a6, (h2.2.1 _).trans a7, (h2.2.1 _).trans a8⟩
/-- the yard with n firms -/
def YI (t0 : Nat) (X : Mm) (y : Nat) (lf fg gg : Nat → Nat) (n d c : Nat) : Prop := gK X y = 11 ∧ (gK X t0 = 24 ∧ gN X t0 = 0) ∧ (gI X 646 y = 0 ∧ gI X 647 y = 10000 ∧ gI X 648 y = 0 ∧ gI X 649 y = 20 ∧ gI X 650 y = 0) ∧ (∀ i, i < 6 → gP X (640 + i) y = some (lf i)) ∧ (∀ i k, i < 6 → k < 6 → lf i = lf k → i = k) ∧ LI t0 X (lf 0) ((List.range n).map fg) d c ∧ (∀ i, 1 ≤ i → i < 6 → LI t0 X (lf i) [] t0 0) ∧ (∀ i, i < n → YF X (fg i) (gg i)) ∧ ∀ i k, i < n → k < n → (fg i = fg k → i = k) ∧ (gg i = gg k → i = k)
theorem YI.kept {t0 : Nat} {X Y : Mm} {y n d c : Nat} {lf fg gg : Nat → Nat} (h : YI t0 X y lf fg gg n d c) (hc : ∀ x, gK X x ≠ 0 → eqc X Y x) : YI t0 Y y lf fg gg n d c := by
  obtain ⟨h1, h2, h3, h4, h5, h6, h7, h8, h9⟩ := h
  have cy := hc y (by omega)
  have ct := hc t0 (by omega)
  have hd : gK X d ≠ 0 := by rcases h6.2.2.2.2.1 with z | z <;> omega
  have cl : ∀ i, i < 6 → eqc X Y (lf i) := fun i hi => hc _ (by
    by_cases e : i = 0
    · subst e
      rw [h6.1]
      decide
    · rw [(h7 i (by omega) hi).1]
      decide)
  refine ⟨cy.1.trans h1, ⟨ct.1.trans h2.1, ct.2.2.2.1.trans h2.2⟩, ⟨(cy.2.1 _).trans h3.1, (cy.2.1 _).trans h3.2.1, (cy.2.1 _).trans h3.2.2.1, (cy.2.1 _).trans h3.2.2.2.1, (cy.2.1 _).trans h3.2.2.2.2⟩, fun i hi => (cy.2.2.1 _).trans (h4 i hi), h5, h6.kept (cl 0 (by omega)) (hc d hd) (fun v hv => ?_), fun i a b => (h7 i a b).kept (cl i b) ct (fun v hv => by cases hv), fun i hi => (h8 i hi).kept (hc _ (by rw [(h8 i hi).1]; decide)) (hc _ (by rw [(h8 i hi).2.2.2.1]; decide)), h9⟩
  obtain ⟨u, hu, rfl⟩ := List.mem_map.mp hv
  exact hc _ (by rw [(h8 u (List.mem_range.mp hu)).1]; decide)
def nwF (X : Mm) (a q : Nat) : Mm := sI (sP (sI (sI (sI (sI (alO (alO X a 5) q 9) 512 q 0) 513 q 0) 514 q 0) 515 q 0) 256 a (some q)) 257 a 0
theorem YI.firm {t0 : Nat} {X : Mm} {y n d c a q : Nat} {lf fg gg : Nat → Nat} (h : YI t0 X y lf fg gg n d c) (ha : gK X a = 0) (hq : gK (alO X a 5) q = 0) : ∃ Y, Y = nwF X a q ∧ YI t0 Y y lf fg gg n d c ∧ YF Y a q ∧ ∀ i, i < n → fg i ≠ a ∧ gg i ≠ q := by
  have na : a ≠ q := ne_of_0 hq (by
    show (if a = a then 5 else gK X a) ≠ 0
    rw [if_pos rfl]
    decide)
  have hq0 : gK X q = 0 := by
    have e : gK (alO X a 5) q = gK X q := if_neg (fun e => na e.symm)
    rw [← e]
    exact hq
  have hc : ∀ x, gK X x ≠ 0 → eqc X (nwF X a q) x := fun x hx => by
    have e1 : x ≠ a := ne_of_0 ha hx
    have e2 : x ≠ q := ne_of_0 hq0 hx
    exact (((((((eqc_alO e1).tr (eqc_alO e2)).tr (eqc_sI e2)).tr (eqc_sI e2)).tr (eqc_sI e2)).tr (eqc_sI e2)).tr (eqc_sP e1)).tr (eqc_sI e1)
  refine ⟨_, rfl, h.kept hc, ⟨(if_neg na).trans (if_pos rfl), if_pos ⟨rfl, rfl⟩, if_pos ⟨rfl, rfl⟩, if_pos rfl, if_pos ⟨rfl, rfl⟩, if_pos ⟨rfl, rfl⟩, if_pos ⟨rfl, rfl⟩, if_pos ⟨rfl, rfl⟩⟩, fun i hi => ?_⟩
  have h8 := h.2.2.2.2.2.2.2.1 i hi
  exact ⟨ne_of_0 ha (by rw [h8.1]; decide), ne_of_0 hq0 (by rw [h8.2.2.2.1]; decide)⟩
theorem YI.add {t0 : Nat} {X Y : Mm} {y n d c a q d2 c2 : Nat} {lf fg gg : Nat → Nat} (h : YI t0 X y lf fg gg n d c) (hf : YF X a q) (hn : ∀ i, i < n → fg i ≠ a ∧ gg i ≠ q) (hL : LI t0 Y (lf 0) ((List.range n).map fg ++ [a]) d2 c2) (hF : Fr X Y (fun x => x = lf 0 ∨ (x = d ∧ gK X d = 23))) : ∃ f2 g2, YI t0 Y y lf f2 g2 (n + 1) d2 c2 := by
  obtain ⟨h1, h2, h3, h4, h5, h6, h7, h8, h9⟩ := h
  have hc : ∀ x, gK X x ≠ 0 → gK X x ≠ 1 → gK X x ≠ 23 → eqc X Y x := fun x a0 a1 a2 => hF x a0 (fun z => by
    rcases z with z | ⟨z, z2⟩
    · rw [z, h6.1] at a1
      omega
    · rw [z] at a2
      omega)
  have cy := hc y (by omega) (by omega) (by omega)
  have ct := hc t0 (by omega) (by omega) (by omega)
  have cl : ∀ i, 1 ≤ i → i < 6 → eqc X Y (lf i) := fun i a b => hF _ (by rw [(h7 i a b).1]; decide) (fun z => by
    rcases z with z | ⟨z, z2⟩
    · have := h5 i 0 b (by omega) z
      omega
    · have := (h7 i a b).1
      rw [z] at this
      omega)
  have cf : ∀ a q, YF X a q → YF Y a q := fun a q g => g.kept (hc a (by rw [g.1]; decide) (by rw [g.1]; decide) (by rw [g.1]; decide)) (hc q (by rw [g.2.2.2.1]; decide) (by rw [g.2.2.2.1]; decide) (by rw [g.2.2.2.1]; decide))
  refine ⟨u1 fg n a, u1 gg n q, cy.1.trans h1, ⟨ct.1.trans h2.1, ct.2.2.2.1.trans h2.2⟩, ⟨(cy.2.1 _).trans h3.1, (cy.2.1 _).trans h3.2.1, (cy.2.1 _).trans h3.2.2.1, (cy.2.1 _).trans h3.2.2.2.1, (cy.2.1 _).trans h3.2.2.2.2⟩, fun i hi => (cy.2.2.1 _).trans (h4 i hi), h5, ?_, fun i a b => (h7 i a b).kept (cl i a b) ct (fun v hv => by cases hv), fun i hi => ?_, fun i k hi hk => ?_⟩
  · have e : (List.range (n + 1)).map (u1 fg n a) = (List.range n).map fg ++ [a] := by
      rw [List.range_succ, List.map_append]
      refine congr (congrArg _ (List.map_congr_left (fun i hi => if_neg (fun z => ?_)))) ?_
      · have := List.mem_range.mp hi
        omega
      · show [u1 fg n a n] = [a]
        rw [show u1 fg n a n = a from if_pos rfl]
    rw [e]
    exact hL
  · by_cases e : i = n
    · rw [show u1 fg n a i = a from if_pos e, show u1 gg n q i = q from if_pos e]
      exact cf a q hf
    · rw [show u1 fg n a i = fg i from if_neg e, show u1 gg n q i = gg i from if_neg e]
      exact cf _ _ (h8 i (by omega))
  · by_cases ei : i = n
    · by_cases ek : k = n
      · exact ⟨fun _ => by omega, fun _ => by omega⟩
      · rw [show u1 fg n a i = a from if_pos ei, show u1 gg n q i = q from if_pos ei, show u1 fg n a k = fg k from if_neg ek, show u1 gg n q k = gg k from if_neg ek]
        exact ⟨fun e => absurd e.symm (hn k (by omega)).1, fun e => absurd e.symm (hn k (by omega)).2⟩
    · by_cases ek : k = n
      · rw [show u1 fg n a k = a from if_pos ek, show u1 gg n q k = q from if_pos ek, show u1 fg n a i = fg i from if_neg ei, show u1 gg n q i = gg i from if_neg ei]
        exact ⟨fun e => absurd e (hn i (by omega)).1, fun e => absurd e (hn i (by omega)).2⟩
      · rw [show u1 fg n a k = fg k from if_neg ek, show u1 gg n q k = gg k from if_neg ek, show u1 fg n a i = fg i from if_neg ei, show u1 gg n q i = gg i from if_neg ei]
        exact h9 i k (by omega) (by omega)
section REL14
variable {l : Launch} {D : va_G} {kA : Nat → ClassId} {b t0 y : Nat} {X : Mm}
set_option maxHeartbeats 2000000 in
set_option maxRecDepth 20000 in
theorem c_X9_init (hl : l.stackTraces = false) (hy : gK X y = 11) (ht : gK X t0 = 24 ∧ gN X t0 = 0) : Ct l D kA b t0 yX9_init cX9_init 2 none 7 179 [rv (some y)] X 15 4536 (fun v Y => v = none ∧ ∃ lf fg gg d c, YI t0 Y y lf fg gg 3 d c) (pF) := by
  refine Ct_mk hl (by decide) (Nat.le_of_ble_eq_true rfl) rfl ?_
  intro p9 e9 s9 m9 args9 below9 meth9 c9 C hr hx0
  refine V_aload_n C dX9_init_0 rfl ?_
  refine V_objInit C oi_RX9_1 oi2 oi3 (Nat.le_of_ble_eq_true rfl) (Nat.le_of_ble_eq_true rfl) dX9_init_1 ?_
  have s0 : YL t0 X y (fun _ => 0) 0 := ⟨hy, ht, fun i h9 => absurd h9 (Nat.not_lt_zero i), fun i k h9 => absurd h9 (Nat.not_lt_zero i)⟩
  refine V_aload_n C dX9_init_4 rfl ?_
  refine V_new C cl0 nX9_7 rfl (by first | exact Nat.le_of_ble_eq_true rfl | (dsimp only; omega)) (by first | exact Nat.le_of_ble_eq_true rfl | (dsimp only; omega)) dX9_init_5 (fun q1 hq1 hbq1 => ?_)
  refine V_dup C dX9_init_8 rfl ?_
  refine V_callI0 C (As := []) (c_Jx4a65c_init_da8c8 hl (X := alO X q1 1) (a := q1) (if_pos rfl)) kX9_9 rfl rfl (Nat.le_of_ble_eq_true rfl) ⟨Nat.le_of_ble_eq_true rfl, Nat.le_of_ble_eq_true rfl⟩ ⟨(by first | exact Nat.le_of_ble_eq_true rfl | (dsimp only; omega)), (by first | exact Nat.le_of_ble_eq_true rfl | (dsimp only; omega))⟩ dX9_init_9 ?_
  have ny1 : y ≠ q1 := ne_of_0 hq1 (by omega)
  have hyx1 : gK (sP (sI (alO X q1 1) 0 q1 0) 1 q1 (some t0)) y = 11 := (if_neg ny1).trans hy
  refine V_putP C cl10 fX9_10 (Or.inr ⟨rfl, rfl, rfl⟩) (Or.inl ⟨_, rfl⟩) hyx1 dX9_init_12 ?_
  obtain ⟨X1, l1, hX1, s1⟩ := s0.step hq1
  unfold nwL at hX1
  rw [← hX1]
  have hy1 := s1.1
  refine V_aload_n C dX9_init_15 rfl ?_
  refine V_new C cl0 nX9_7 rfl (by first | exact Nat.le_of_ble_eq_true rfl | (dsimp only; omega)) (by first | exact Nat.le_of_ble_eq_true rfl | (dsimp only; omega)) dX9_init_16 (fun q2 hq2 hbq2 => ?_)
  refine V_dup C dX9_init_19 rfl ?_
  refine V_callI0 C (As := []) (c_Jx4a65c_init_da8c8 hl (X := alO X1 q2 1) (a := q2) (if_pos rfl)) kX9_9 rfl rfl (Nat.le_of_ble_eq_true rfl) ⟨Nat.le_of_ble_eq_true rfl, Nat.le_of_ble_eq_true rfl⟩ ⟨(by first | exact Nat.le_of_ble_eq_true rfl | (dsimp only; omega)), (by first | exact Nat.le_of_ble_eq_true rfl | (dsimp only; omega))⟩ dX9_init_20 ?_
  have ny2 : y ≠ q2 := ne_of_0 hq2 (by omega)
  have hyx2 : gK (sP (sI (alO X1 q2 1) 0 q2 0) 1 q2 (some t0)) y = 11 := (if_neg ny2).trans hy1
  refine V_putP C cl10 fX9_16 (Or.inr ⟨rfl, rfl, rfl⟩) (Or.inl ⟨_, rfl⟩) hyx2 dX9_init_23 ?_
  obtain ⟨X2, l2, hX2, s2⟩ := s1.step hq2
  unfold nwL at hX2
  rw [← hX2]
  have hy2 := s2.1
  refine V_aload_n C dX9_init_26 rfl ?_
  refine V_new C cl0 nX9_7 rfl (by first | exact Nat.le_of_ble_eq_true rfl | (dsimp only; omega)) (by first | exact Nat.le_of_ble_eq_true rfl | (dsimp only; omega)) dX9_init_27 (fun q3 hq3 hbq3 => ?_)
  refine V_dup C dX9_init_30 rfl ?_
  refine V_callI0 C (As := []) (c_Jx4a65c_init_da8c8 hl (X := alO X2 q3 1) (a := q3) (if_pos rfl)) kX9_9 rfl rfl (Nat.le_of_ble_eq_true rfl) ⟨Nat.le_of_ble_eq_true rfl, Nat.le_of_ble_eq_true rfl⟩ ⟨(by first | exact Nat.le_of_ble_eq_true rfl | (dsimp only; omega)), (by first | exact Nat.le_of_ble_eq_true rfl | (dsimp only; omega))⟩ dX9_init_31 ?_
  have ny3 : y ≠ q3 := ne_of_0 hq3 (by omega)
  have hyx3 : gK (sP (sI (alO X2 q3 1) 0 q3 0) 1 q3 (some t0)) y = 11 := (if_neg ny3).trans hy2
  refine V_putP C cl10 fX9_19 (Or.inr ⟨rfl, rfl, rfl⟩) (Or.inl ⟨_, rfl⟩) hyx3 dX9_init_34 ?_
  obtain ⟨X3, l3, hX3, s3⟩ := s2.step hq3
  unfold nwL at hX3
  rw [← hX3]
  have hy3 := s3.1
  refine V_aload_n C dX9_init_37 rfl ?_
  refine V_new C cl0 nX9_7 rfl (by first | exact Nat.le_of_ble_eq_true rfl | (dsimp only; omega)) (by first | exact Nat.le_of_ble_eq_true rfl | (dsimp only; omega)) dX9_init_38 (fun q4 hq4 hbq4 => ?_)
  refine V_dup C dX9_init_41 rfl ?_
  refine V_callI0 C (As := []) (c_Jx4a65c_init_da8c8 hl (X := alO X3 q4 1) (a := q4) (if_pos rfl)) kX9_9 rfl rfl (Nat.le_of_ble_eq_true rfl) ⟨Nat.le_of_ble_eq_true rfl, Nat.le_of_ble_eq_true rfl⟩ ⟨(by first | exact Nat.le_of_ble_eq_true rfl | (dsimp only; omega)), (by first | exact Nat.le_of_ble_eq_true rfl | (dsimp only; omega))⟩ dX9_init_42 ?_
  have ny4 : y ≠ q4 := ne_of_0 hq4 (by omega)
  have hyx4 : gK (sP (sI (alO X3 q4 1) 0 q4 0) 1 q4 (some t0)) y = 11 := (if_neg ny4).trans hy3
  refine V_putP C cl10 fX9_22 (Or.inr ⟨rfl, rfl, rfl⟩) (Or.inl ⟨_, rfl⟩) hyx4 dX9_init_45 ?_
  obtain ⟨X4, l4, hX4, s4⟩ := s3.step hq4
  unfold nwL at hX4
  rw [← hX4]
  have hy4 := s4.1
  refine V_aload_n C dX9_init_48 rfl ?_
  refine V_new C cl0 nX9_7 rfl (by first | exact Nat.le_of_ble_eq_true rfl | (dsimp only; omega)) (by first | exact Nat.le_of_ble_eq_true rfl | (dsimp only; omega)) dX9_init_49 (fun q5 hq5 hbq5 => ?_)
  refine V_dup C dX9_init_52 rfl ?_
  refine V_callI0 C (As := []) (c_Jx4a65c_init_da8c8 hl (X := alO X4 q5 1) (a := q5) (if_pos rfl)) kX9_9 rfl rfl (Nat.le_of_ble_eq_true rfl) ⟨Nat.le_of_ble_eq_true rfl, Nat.le_of_ble_eq_true rfl⟩ ⟨(by first | exact Nat.le_of_ble_eq_true rfl | (dsimp only; omega)), (by first | exact Nat.le_of_ble_eq_true rfl | (dsimp only; omega))⟩ dX9_init_53 ?_
  have ny5 : y ≠ q5 := ne_of_0 hq5 (by omega)
  have hyx5 : gK (sP (sI (alO X4 q5 1) 0 q5 0) 1 q5 (some t0)) y = 11 := (if_neg ny5).trans hy4
  refine V_putP C cl10 fX9_25 (Or.inr ⟨rfl, rfl, rfl⟩) (Or.inl ⟨_, rfl⟩) hyx5 dX9_init_56 ?_
  obtain ⟨X5, l5, hX5, s5⟩ := s4.step hq5
  unfold nwL at hX5
  rw [← hX5]
  have hy5 := s5.1
  refine V_aload_n C dX9_init_59 rfl ?_
  refine V_new C cl0 nX9_7 rfl (by first | exact Nat.le_of_ble_eq_true rfl | (dsimp only; omega)) (by first | exact Nat.le_of_ble_eq_true rfl | (dsimp only; omega)) dX9_init_60 (fun q6 hq6 hbq6 => ?_)
  refine V_dup C dX9_init_63 rfl ?_
  refine V_callI0 C (As := []) (c_Jx4a65c_init_da8c8 hl (X := alO X5 q6 1) (a := q6) (if_pos rfl)) kX9_9 rfl rfl (Nat.le_of_ble_eq_true rfl) ⟨Nat.le_of_ble_eq_true rfl, Nat.le_of_ble_eq_true rfl⟩ ⟨(by first | exact Nat.le_of_ble_eq_true rfl | (dsimp only; omega)), (by first | exact Nat.le_of_ble_eq_true rfl | (dsimp only; omega))⟩ dX9_init_64 ?_
  have ny6 : y ≠ q6 := ne_of_0 hq6 (by omega)
  have hyx6 : gK (sP (sI (alO X5 q6 1) 0 q6 0) 1 q6 (some t0)) y = 11 := (if_neg ny6).trans hy5
  refine V_putP C cl10 fX9_28 (Or.inr ⟨rfl, rfl, rfl⟩) (Or.inl ⟨_, rfl⟩) hyx6 dX9_init_67 ?_
  obtain ⟨X6, l6, hX6, s6⟩ := s5.step hq6
  unfold nwL at hX6
  rw [← hX6]
  have hy6 := s6.1
  refine V_aload_n C dX9_init_70 rfl ?_
  refine V_iconst C dX9_init_71 ?_
  refine V_putI C cl10 fX9_31 (Or.inl rfl) rfl hy6 dX9_init_72 ?_
  refine V_aload_n C dX9_init_75 rfl ?_
  refine V_sipush C dX9_init_76 (by decide) ?_
  refine V_putI C cl10 fX9_35 (Or.inl rfl) rfl hy6 dX9_init_79 ?_
  refine V_aload_n C dX9_init_82 rfl ?_
  refine V_iconst C dX9_init_83 ?_
  refine V_putI C cl10 fX9_38 (Or.inl rfl) rfl hy6 dX9_init_84 ?_
  refine V_aload_n C dX9_init_87 rfl ?_
  refine V_bipush C dX9_init_88 (by decide) ?_
  refine V_putI C cl10 fX9_41 (Or.inl rfl) rfl hy6 dX9_init_90 ?_
  refine V_aload_n C dX9_init_93 rfl ?_
  refine V_iconst C dX9_init_94 ?_
  refine V_putI C cl10 fX9_44 (Or.inl rfl) rfl hy6 dX9_init_95 ?_
  refine V_iconst C dX9_init_98 ?_
  refine V_istore_n C dX9_init_99 (by decide) rfl ?_
  have y0 : YI t0 (sI (sI (sI (sI (sI X6 646 y 0) 647 y 10000) 648 y 0) 649 y 20) 650 y 0) y l6 (fun _ => 0) (fun _ => 0) 0 t0 0 := by
    obtain ⟨h1, h2, h3, h4⟩ := s6
    have hl6 : ∀ i, i < 6 → LI t0 (sI (sI (sI (sI (sI X6 646 y 0) 647 y 10000) 648 y 0) 649 y 20) 650 y 0) (l6 i) [] t0 0 := fun i hi => (h3 i hi).2.same rfl (funext fun x => rfl) rfl rfl rfl
    exact ⟨h1, h2, ⟨if_pos ⟨rfl, rfl⟩, if_pos ⟨rfl, rfl⟩, if_pos ⟨rfl, rfl⟩, if_pos ⟨rfl, rfl⟩, if_pos ⟨rfl, rfl⟩⟩, fun i hi => (h3 i hi).1, h4, hl6 0 (by omega), fun i a b => hl6 i b, fun i hi => absurd hi (Nat.not_lt_zero i), fun i k hi => absurd hi (Nat.not_lt_zero i)⟩
  generalize hXz : sI (sI (sI (sI (sI X6 646 y 0) 647 y 10000) 648 y 0) 649 y 20) 650 y 0 = Xz at y0 ⊢
  refine V_while C (St := Nat × Mm) (f := fun z => z.2) (g := fun z => [some (rv (some y)), some (iv (z.1 : Int))]) (cs := fun z => 6 + 3 * z.1) (ss := fun z => 18 + 1506 * z.1) (μ := fun z => 3 - z.1) (I := fun z => z.1 ≤ 3 ∧ ∃ fg gg d c, YI t0 z.2 y l6 fg gg z.1 d c) (x0 := (0, Xz)) rfl rfl rfl rfl ⟨Nat.zero_le _, _, _, _, _, y0⟩ ?_
  rintro ⟨i, Xi⟩ ⟨hi, fg, gg, d, c, hY⟩ ih
  dsimp only at hi hY ih ⊢
  refine V_iload_n C dX9_init_100 rfl ?_
  refine V_iconst C dX9_init_101 ?_
  refine V_icmp_ge C dX9_init_102 (by omega) (by decide) (fun h102 => ?_) (fun h102 => ?_)
  · exact V_vret C (by show _ ≤ 15; omega) (by show _ ≤ 4536; omega) ⟨rfl, l6, fg, gg, d, c, (by obtain rfl : i = 3 := (by omega); exact hY)⟩ hr dX9_init_126
  · refine V_aload_n C dX9_init_105 rfl ?_
    refine V_getP C cl10 fX9_10 (r := some ((l6 0))) hY.1 (hY.2.2.2.1 0 (by omega)) dX9_init_106 ?_
    refine V_new C cl4 nX9_47 rfl (by first | exact Nat.le_of_ble_eq_true rfl | (dsimp only; omega)) (by first | exact Nat.le_of_ble_eq_true rfl | (dsimp only; omega)) dX9_init_109 (fun a ha hba => ?_)
    refine V_dup C dX9_init_112 rfl ?_
    refine V_callM C (As := []) (c_X3_init hl (X := alO Xi a 5) (a := a) (if_pos rfl)) kX9_49 rfl rfl (Nat.le_of_ble_eq_true rfl) ⟨Nat.le_of_ble_eq_true rfl, Nat.le_of_ble_eq_true rfl⟩ ⟨(by first | exact Nat.le_of_ble_eq_true rfl | (dsimp only; omega)), (by first | exact Nat.le_of_ble_eq_true rfl | (dsimp only; omega))⟩ dX9_init_113 (fun _ _ h => h.elim) (fun v113 Y113 hp => ?_)
    obtain ⟨rfl, q, hq, -, hYq⟩ := hp
    obtain ⟨Xf, hXf, hY2, hf, hne⟩ := hY.firm ha hq
    have hYX : Y113 = Xf := by
      rw [hYq, hXf]
      rfl
    subst hYX
    have hL1 := hY2.2.2.2.2.2.1
    have hfa := hf.1
    have hdk : d ≠ l6 0 := fun e => by
      have e1 := hL1.1
      rcases hL1.2.2.2.2.1 with z | z <;> (rw [e] at z; omega)
    refine V_callV C (As := [_]) (L_add hl hL1 (v := a) (by unfold oK; omega) (by rw [List.length_map, List.length_range]; omega) hdk) kX9_50 hL1.1 rfl rfl (Nat.le_of_ble_eq_true rfl) ⟨Nat.le_of_ble_eq_true rfl, Nat.le_of_ble_eq_true rfl⟩ ⟨(by first | exact Nat.le_of_ble_eq_true rfl | (dsimp only; omega)), (by have := growN_in hL1.2.2.2.2.2.2.1; first | exact Nat.le_of_ble_eq_true rfl | (dsimp only; omega))⟩ dX9_init_116 (fun _ _ h => h.elim) (fun v116 Y116 hp => ?_)
    obtain ⟨rfl, d2, c2, hL2, -, hF, -, -⟩ := hp
    obtain ⟨f2, g2, hY3⟩ := hY2.add hf hne hL2 hF
    refine V_pop C dX9_init_119 rfl ?_
    refine V_iinc C dX9_init_120 (by decide) rfl rfl ?_
    refine V_goto C dX9_init_123 ?_
    refine V_widen (k2 := 6 + 3 * (i + 1)) (n2 := 18 + 1506 * (i + 1)) (by omega) (by have := growN_in hL1.2.2.2.2.2.2.1; omega) ?_
    exact ih (i + 1, _) ⟨by show i + 1 ≤ 3; omega, f2, g2, d2, c2, hY3⟩ (by show 3 - (i + 1) < 3 - i; omega)
end REL14
