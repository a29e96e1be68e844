/-! the library's methods: lists that grow -/
section JDK3
variable {l : Launch} {D : va_G} {kA : Nat → ClassId} {b t0 : Nat} {X : Mm}
theorem ne_of_0 {X : Mm} {q v : Nat} (hq : gK X q = 0) (hv : gK X v ≠ 0) : v ≠ q := fun e => hv (e ▸ hq)
theorem oK_alA {X : Mm} {q v t n : Nat} (hq : gK X q = 0) (h : oK X v) : oK (alA X q t n) v := by
  have hv : v ≠ q := by
    refine ne_of_0 hq ?_
    unfold oK at h
    omega
  have e : gK (alA X q t n) v = gK X v := if_neg hv
  unfold oK
  rw [e]
  exact h
def growN (c : Nat) : Nat := if c = 0 then 10 else c + if 1 < c / 2 then c / 2 else 1
/-- the memory with the greater copy -/
def cpM (X : Mm) (d q c n : Nat) : Mm := sOr (alA X q 23 n) q (va_cpy (gO (alA X q 23 n) d) (gO (alA X q 23 n) q) 0 0 c)
theorem cpM_0 (X : Mm) (d q n : Nat) : cpM X d q 0 n = alA X q 23 n := by
  have e : va_cpy (gO (alA X q 23 n) d) (gO (alA X q 23 n) q) 0 0 0 = gO (alA X q 23 n) q := by
    funext k
    unfold va_cpy
    rw [if_neg (by omega)]
  unfold cpM
  rw [e]
  show (_, _, _, _, _, u1 (gO (alA X q 23 n)) q (gO (alA X q 23 n) q)) = alA X q 23 n
  have e2 : u1 (gO (alA X q 23 n)) q (gO (alA X q 23 n) q) = gO (alA X q 23 n) := by
    funext x
    unfold u1
    split
    · rename_i h
      rw [h]
    · rfl
  rw [e2]
  rfl

set_option maxRecDepth 20000 in
theorem c_J7_copyOf_6403c (hl : l.stackTraces = false) {mi a N n : Nat} (hKa : gK X a = 23) (hN : gN X a = N) (hn : N < n) (hn9 : n ≤ 100000) (hel : ∀ i, i < N → ∀ v, gO X a i = some v → oK X v) : Cm l D kA b t0 yJ7_copyOf_6403c cJ7_copyOf_6403c 4 (some (FieldType.array (FieldType.object "java/lang/Object"))) 1 48 [rv (some a), iv (n : Int), rv (some mi)] mi X 1 n (fun v Y => ∃ q, gK X q = 0 ∧ b ≤ q ∧ v = some (rv (some q)) ∧ Y = cpM X a q N n) (pF) := by
  refine Cm_mk hl (by decide) (Nat.le_of_ble_eq_true rfl) rfl ?_
  intro p9 e9 s9 m9 args9 below9 meth9 c9 hmi C hr hx0
  refine V_aload_n C dJ7_copyOf_6403c_0 rfl ?_
  refine V_ldcM C hmi cc_RJ7_110 dJ7_copyOf_6403c_1 ?_
  refine V_acmp_ne C dJ7_copyOf_6403c_3  (fun h3 => ?_) (fun h3 => ?_)
  · exact absurd rfl h3
  · refine V_iload_n C dJ7_copyOf_6403c_6 rfl ?_
    refine V_newO C (n := n) rfl (by omega) cc_RJ7_2 (by show 0 + 1 ≤ 1; omega) (by show 0 + n ≤ n; omega) dJ7_copyOf_6403c_7 (fun q hq hbq => ?_)
    have hqa : a ≠ q := ne_of_0 hq (by omega)
    refine V_goto C dJ7_copyOf_6403c_10 ?_
    refine V_astore_n C dJ7_copyOf_6403c_24 (by decide) rfl ?_
    refine V_aload_n C dJ7_copyOf_6403c_25 rfl ?_
    refine V_iconst C dJ7_copyOf_6403c_26 ?_
    refine V_aload_n C dJ7_copyOf_6403c_27 rfl ?_
    refine V_iconst C dJ7_copyOf_6403c_28 ?_
    refine V_aload_n C dJ7_copyOf_6403c_29 rfl ?_
    refine V_alen C (Or.inr (Or.inr (Or.inr (Or.inl ((if_neg hqa).trans hKa))))) ((if_neg hqa).trans hN) dJ7_copyOf_6403c_30 ?_
    refine V_iload_n C dJ7_copyOf_6403c_31 rfl ?_
    refine V_mmin C (by omega) (by omega) kJ7_304 (Nat.le_of_ble_eq_true rfl) (Nat.le_of_ble_eq_true rfl) (by first | (dsimp only; omega) | exact Nat.le_of_ble_eq_true rfl) (by first | (dsimp only; omega) | exact Nat.le_of_ble_eq_true rfl) dJ7_copyOf_6403c_32 ?_
    refine V_copyO C (a0 := a) (a := q) (sp := 0) (dp := 0) (nn := N) (n0 := N) (n1 := n) (by split <;> omega) rfl rfl ((if_neg hqa).trans hKa) (if_pos rfl) ((if_neg hqa).trans hN) (if_pos rfl) (by omega) (by omega) (by omega) (by omega) (fun i hi v hv => V_anyo C (oK_alA hq (hel i hi v (by rw [Nat.zero_add] at hv; have e : gO (alA X q 23 n) a i = gO X a i := if_neg hqa; rw [e] at hv; exact hv)))) ac1_150 ac2 ac3 ac4 (Nat.le_of_ble_eq_true rfl) (Nat.le_of_ble_eq_true rfl) dJ7_copyOf_6403c_35 ?_
    refine V_aload_n C dJ7_copyOf_6403c_38 rfl ?_
    exact V_aret C (by omega) (by omega) ⟨q, hq, hbq, rfl, rfl⟩ hr (Or.inr ⟨_, rfl⟩) dJ7_copyOf_6403c_39
set_option maxRecDepth 20000 in
theorem c_J7_copyOf_1904c (hl : l.stackTraces = false) {a N n : Nat} (hKa : gK X a = 23) (hN : gN X a = N) (hn : N < n) (hn9 : n ≤ 100000) (hel : ∀ i, i < N → ∀ v, gO X a i = some v → oK X v) : Ct l D kA b t0 yJ7_copyOf_1904c cJ7_copyOf_1904c 2 (some (FieldType.array (FieldType.object "java/lang/Object"))) 2 71 [rv (some a), iv (n : Int)] X 1 n (fun v Y => ∃ q, gK X q = 0 ∧ b ≤ q ∧ v = some (rv (some q)) ∧ Y = cpM X a q N n) (pF) := by
  refine Ct_mk hl (by decide) (Nat.le_of_ble_eq_true rfl) rfl ?_
  intro p9 e9 s9 m9 args9 below9 meth9 c9 C hr hx0
  refine V_aload_n C dJ7_copyOf_1904c_0 rfl ?_
  refine V_iload_n C dJ7_copyOf_1904c_1 rfl ?_
  refine V_aload_n C dJ7_copyOf_1904c_2 rfl ?_
  obtain ⟨mi, hmi⟩ := C.2.2.2.2.2.2.2.1.2.1
  refine V_getC C hmi hKa gc1_86 gc2 gc3 gc4 (Nat.le_of_ble_eq_true rfl) (Nat.le_of_ble_eq_true rfl) dJ7_copyOf_1904c_3 ?_
  refine V_callSm C hmi (As := [_, _, _]) (c_J7_copyOf_6403c hl hKa hN hn hn9 hel) kJ7_300 rfl rfl (Nat.le_of_ble_eq_true rfl) ⟨Nat.le_of_ble_eq_true rfl, Nat.le_of_ble_eq_true rfl⟩ ⟨(by first | exact Nat.le_of_ble_eq_true rfl | (dsimp only; omega)), (by first | exact Nat.le_of_ble_eq_true rfl | (dsimp only; omega))⟩ dJ7_copyOf_1904c_6 (fun _ _ h => h.elim) (fun v Y hp => ?_)
  obtain ⟨q, hq, hbq, rfl, rfl⟩ := hp
  exact V_aret C (by omega) (by omega) ⟨q, hq, hbq, rfl, rfl⟩ hr (Or.inr ⟨_, rfl⟩) dJ7_copyOf_1904c_9
set_option maxRecDepth 20000 in
theorem c_Jx4a65c_grow_92f84 (hl : l.stackTraces = false) {a d c : Nat} (hKa : gK X a = 1) (hd : gP X 1 a = some d) (hN : gN X d = c) (hc : (gK X d = 23 ∧ 1 ≤ c) ∨ (d = t0 ∧ gK X d = 24 ∧ c = 0)) (hc9 : c ≤ 1000) (hel : ∀ i, i < c → ∀ v, gO X d i = some v → oK X v) : Ct l D kA b t0 yJx4a65c_grow_92f84 cJx4a65c_grow_92f84 4 (some (FieldType.array (FieldType.object "java/lang/Object"))) 3 92 [rv (some a), iv ((c : Int) + 1)] X 1 (growN c) (fun v Y => ∃ q, gK X q = 0 ∧ b ≤ q ∧ v = some (rv (some q)) ∧ Y = sP (cpM X d q c (growN c)) 1 a (some q)) (pF) := by
  refine Ct_mk hl (by decide) (Nat.le_of_ble_eq_true rfl) rfl ?_
  intro p9 e9 s9 m9 args9 below9 meth9 c9 C hr hx0
  rcases hc with ⟨hKd, hc1⟩ | ⟨hd0, hKd, rfl⟩
  · have hg1 : c < growN c ∧ growN c ≤ 2 * c + 10 := by unfold growN; rw [if_neg (by omega)]; split <;> omega
    refine V_aload_n C dJx4a65c_grow_92f84_0 rfl ?_
    refine V_getP C cl0 fJx4a65c_9 (r := some d) hKa hd dJx4a65c_grow_92f84_1 ?_
    refine V_alen C (Or.inr (Or.inr (Or.inr (Or.inl hKd)))) hN dJx4a65c_grow_92f84_4 ?_
    refine V_istore_n C dJx4a65c_grow_92f84_5 (by decide) rfl ?_
    refine V_iload_n C dJx4a65c_grow_92f84_6 rfl ?_
    refine V_if_gt C dJx4a65c_grow_92f84_7 (by omega) (fun h7 => ?_) (fun h7 => ?_)
    · refine V_iload_n C dJx4a65c_grow_92f84_20 rfl ?_
      refine V_iload_n C dJx4a65c_grow_92f84_21 rfl ?_
      refine V_iload_n C dJx4a65c_grow_92f84_22 rfl ?_
      refine V_isub C dJx4a65c_grow_92f84_23 ?_
      refine V_iload_n C dJx4a65c_grow_92f84_24 rfl ?_
      refine V_iconst C dJx4a65c_grow_92f84_25 ?_
      refine V_ishr1 C (by omega) (by omega) dJx4a65c_grow_92f84_26 ?_
      rw [show ((c : Int) + 1 - c) = 1 by omega]
      have eg : ((c : Int) + if (1 : Int) < (c : Int) / 2 then (c : Int) / 2 else 1) = (growN c : Int) := by unfold growN; rw [if_neg (show ¬ c = 0 by omega)]; split <;> (split <;> omega)
      refine V_callS1 C (As := [_, _, _]) (c_J8_newLength_cabcc hl (x := (c : Int)) (y := 1) (z := (c : Int) / 2) (by omega) (by omega) (by omega)) kJx4a65c_73 rfl rfl (Nat.le_of_ble_eq_true rfl) ⟨Nat.le_of_ble_eq_true rfl, Nat.le_of_ble_eq_true rfl⟩ ⟨(by first | exact Nat.le_of_ble_eq_true rfl | (dsimp only; omega)), (by first | exact Nat.le_of_ble_eq_true rfl | (dsimp only; omega))⟩ dJx4a65c_grow_92f84_27 ?_
      rw [eg]
      refine V_istore_n C dJx4a65c_grow_92f84_30 (by decide) rfl ?_
      refine V_aload_n C dJx4a65c_grow_92f84_31 rfl ?_
      refine V_aload_n C dJx4a65c_grow_92f84_32 rfl ?_
      refine V_getP C cl0 fJx4a65c_9 (r := some d) hKa hd dJx4a65c_grow_92f84_33 ?_
      refine V_iload_n C dJx4a65c_grow_92f84_36 rfl ?_
      refine V_callS C (As := [_, _]) (c_J7_copyOf_1904c hl hKd hN (show c < growN c by omega) (by omega) hel) kJx4a65c_66 rfl rfl (Nat.le_of_ble_eq_true rfl) ⟨Nat.le_of_ble_eq_true rfl, Nat.le_of_ble_eq_true rfl⟩ ⟨(by first | exact Nat.le_of_ble_eq_true rfl | (dsimp only; omega)), (by first | exact Nat.le_of_ble_eq_true rfl | (dsimp only; omega))⟩ dJx4a65c_grow_92f84_37 (fun _ _ h => h.elim) (fun v Y hp => ?_)
      obtain ⟨q, hq, hbq, rfl, rfl⟩ := hp
      have hqa : a ≠ q := ne_of_0 hq (by omega)
      have hKa2 : gK (cpM X d q c (growN c)) a = 1 := (if_neg hqa).trans hKa
      refine V_dup_x1 C dJx4a65c_grow_92f84_40 rfl rfl ?_
      refine V_putP C cl0 fJx4a65c_9 (Or.inl rfl) (Or.inr ⟨_, rfl⟩) hKa2 dJx4a65c_grow_92f84_41 ?_
      exact V_aret C (by omega) (by omega) ⟨q, hq, hbq, rfl, rfl⟩ hr (Or.inr ⟨_, rfl⟩) dJx4a65c_grow_92f84_44
    · exact absurd h7 (by omega)
  · subst hd0
    refine V_aload_n C dJx4a65c_grow_92f84_0 rfl ?_
    refine V_getP C cl0 fJx4a65c_9 (r := some d) hKa hd dJx4a65c_grow_92f84_1 ?_
    refine V_alen C (Or.inr (Or.inr (Or.inr (Or.inr hKd)))) hN dJx4a65c_grow_92f84_4 ?_
    refine V_istore_n C dJx4a65c_grow_92f84_5 (by decide) rfl ?_
    refine V_iload_n C dJx4a65c_grow_92f84_6 rfl ?_
    refine V_if_gt C dJx4a65c_grow_92f84_7 (by omega) (fun h7 => ?_) (fun h7 => ?_)
    · first | exact absurd h7 (by omega) | exact absurd rfl h17
    · refine V_aload_n C dJx4a65c_grow_92f84_10 rfl ?_
      refine V_getP C cl0 fJx4a65c_9 (r := some d) hKa hd dJx4a65c_grow_92f84_11 ?_
      refine V_gets C sf_39 dJx4a65c_grow_92f84_14 ?_
      refine V_acmp_eq C dJx4a65c_grow_92f84_17  (fun h17 => ?_) (fun h17 => ?_)
      · refine V_aload_n C dJx4a65c_grow_92f84_45 rfl ?_
        refine V_bipush C dJx4a65c_grow_92f84_46 (by decide) ?_
        refine V_iload_n C dJx4a65c_grow_92f84_48 rfl ?_
        refine V_mmax C (by decide) (by omega) kJx4a65c_79 (Nat.le_of_ble_eq_true rfl) (Nat.le_of_ble_eq_true rfl) (by first | (dsimp only; omega) | exact Nat.le_of_ble_eq_true rfl) (by first | (dsimp only; omega) | exact Nat.le_of_ble_eq_true rfl) dJx4a65c_grow_92f84_49 ?_
        rw [show (if (10 : Int) < ((0 : Nat) : Int) + 1 then ((0 : Nat) : Int) + 1 else 10) = 10 from rfl]
        refine V_newO C (n := 10) rfl (by omega) cc_RJx4a65c_7 (by show 0 + 1 ≤ 1; omega) (by show 0 + 10 ≤ growN 0; decide) dJx4a65c_grow_92f84_52 (fun q hq hbq => ?_)
        have hqa : a ≠ q := ne_of_0 hq (by omega)
        have hKa2 : gK (alA X q 23 10) a = 1 := (if_neg hqa).trans hKa
        refine V_dup_x1 C dJx4a65c_grow_92f84_55 rfl rfl ?_
        refine V_putP C cl0 fJx4a65c_9 (Or.inl rfl) (Or.inr ⟨_, rfl⟩) hKa2 dJx4a65c_grow_92f84_56 ?_
        exact V_aret C (by omega) (by show 0 + 10 ≤ growN 0; decide) ⟨q, hq, hbq, rfl, by rw [cpM_0]; rfl⟩ hr (Or.inr ⟨_, rfl⟩) dJx4a65c_grow_92f84_59
      · first | exact absurd h7 (by omega) | exact absurd rfl h17
set_option maxRecDepth 20000 in
theorem c_Jx4a65c_grow_d5877 (hl : l.stackTraces = false) {a d c : Nat} (hKa : gK X a = 1) (hd : gP X 1 a = some d) (hN : gN X d = c) (hc : (gK X d = 23 ∧ 1 ≤ c) ∨ (d = t0 ∧ gK X d = 24 ∧ c = 0)) (hc9 : c ≤ 1000) (hel : ∀ i, i < c → ∀ v, gO X d i = some v → oK X v) (hn : gI X 2 a = (c : Int)) : Ct l D kA b t0 yJx4a65c_grow_d5877 cJx4a65c_grow_d5877 1 (some (FieldType.array (FieldType.object "java/lang/Object"))) 4 115 [rv (some a)] X 1 (growN c) (fun v Y => ∃ q, gK X q = 0 ∧ b ≤ q ∧ v = some (rv (some q)) ∧ Y = sP (cpM X d q c (growN c)) 1 a (some q)) (pF) := by
  refine Ct_mk hl (by decide) (Nat.le_of_ble_eq_true rfl) rfl ?_
  intro p9 e9 s9 m9 args9 below9 meth9 c9 C hr hx0
  refine V_aload_n C dJx4a65c_grow_d5877_0 rfl ?_
  refine V_aload_n C dJx4a65c_grow_d5877_1 rfl ?_
  refine V_getIx C cl0 fJx4a65c_48 (x := (c : Int)) hKa hn dJx4a65c_grow_d5877_2 ?_
  refine V_iconst C dJx4a65c_grow_d5877_5 ?_
  refine V_iadd C dJx4a65c_grow_d5877_6 ?_
  refine V_callV C (As := [_]) (c_Jx4a65c_grow_92f84 hl hKa hd hN hc hc9 hel) kJx4a65c_69 hKa rfl rfl (Nat.le_of_ble_eq_true rfl) ⟨Nat.le_of_ble_eq_true rfl, Nat.le_of_ble_eq_true rfl⟩ ⟨(by first | exact Nat.le_of_ble_eq_true rfl | (dsimp only; omega)), (by first | exact Nat.le_of_ble_eq_true rfl | (dsimp only; omega))⟩ dJx4a65c_grow_d5877_7 (fun _ _ h => h.elim) (fun v Y hp => ?_)
  obtain ⟨q, hq, hbq, rfl, rfl⟩ := hp
  exact V_aret C (by omega) (by omega) ⟨q, hq, hbq, rfl, rfl⟩ hr (Or.inr ⟨_, rfl⟩) dJx4a65c_grow_d5877_10
set_option maxRecDepth 20000 in
theorem c_Jx4a65c_add_72be8 (hl : l.stackTraces = false) {a d c n v : Nat} (hKa : gK X a = 1) (hd : gP X 1 a = some d) (hN : gN X d = c) (hc : (gK X d = 23 ∧ 1 ≤ c) ∨ (d = t0 ∧ gK X d = 24 ∧ c = 0)) (hc9 : c ≤ 1000) (hel : ∀ i, i < n → ∀ v, gO X d i = some v → oK X v) (hn : gI X 2 a = (n : Int)) (hnc : n ≤ c) (hv : oK X v) : Ct l D kA b t0 yJx4a65c_add_72be8 cJx4a65c_add_72be8 4 none 5 135 [rv (some a), rv (some v), rv (some d), iv (n : Int)] X 1 (growN c) (fun r Y => r = none ∧ ((n < c ∧ Y = sI (sO X d n (some v)) 2 a (n + 1)) ∨ (n = c ∧ ∃ q, gK X q = 0 ∧ b ≤ q ∧ Y = sI (sO (sP (cpM X d q c (growN c)) 1 a (some q)) q n (some v)) 2 a (n + 1)))) (pF) := by
  refine Ct_mk hl (by decide) (Nat.le_of_ble_eq_true rfl) rfl ?_
  intro p9 e9 s9 m9 args9 below9 meth9 c9 C hr hx0
  have hg1 : c < growN c ∧ growN c ≤ 2 * c + 10 := by unfold growN; split <;> (try split) <;> omega
  refine V_iload_n C dJx4a65c_add_72be8_0 rfl ?_
  refine V_aload_n C dJx4a65c_add_72be8_1 rfl ?_
  refine V_alen C (by rcases hc with h | h; exact Or.inr (Or.inr (Or.inr (Or.inl h.1))); exact Or.inr (Or.inr (Or.inr (Or.inr h.2.1)))) hN dJx4a65c_add_72be8_2 ?_
  refine V_icmp_ne C dJx4a65c_add_72be8_3 (by omega) (by omega) (fun h3 => ?_) (fun h3 => ?_)
  · have hKd : gK X d = 23 := by rcases hc with h | h; exact h.1; omega
    refine V_aload_n C dJx4a65c_add_72be8_11 rfl ?_
    refine V_iload_n C dJx4a65c_add_72be8_12 rfl ?_
    refine V_aload_n C dJx4a65c_add_72be8_13 rfl ?_
    refine V_aast C hKd hN (show n < c by omega) (by omega) rfl (V_anyo C hv) dJx4a65c_add_72be8_14 ?_
    refine V_aload_n C dJx4a65c_add_72be8_15 rfl ?_
    refine V_iload_n C dJx4a65c_add_72be8_16 rfl ?_
    refine V_iconst C dJx4a65c_add_72be8_17 ?_
    refine V_iadd C dJx4a65c_add_72be8_18 ?_
    refine V_putI C cl0 fJx4a65c_48 (Or.inl rfl) rfl hKa dJx4a65c_add_72be8_19 ?_
    exact V_vret C (by omega) (by omega) ⟨rfl, Or.inl ⟨by omega, rfl⟩⟩ hr dJx4a65c_add_72be8_22
  · refine V_aload_n C dJx4a65c_add_72be8_6 rfl ?_
    obtain rfl : n = c := by omega
    refine V_callV C (As := []) (c_Jx4a65c_grow_d5877 hl hKa hd hN hc hc9 hel hn) kJx4a65c_129 hKa rfl rfl (Nat.le_of_ble_eq_true rfl) ⟨Nat.le_of_ble_eq_true rfl, Nat.le_of_ble_eq_true rfl⟩ ⟨(by first | exact Nat.le_of_ble_eq_true rfl | (dsimp only; omega)), (by first | exact Nat.le_of_ble_eq_true rfl | (dsimp only; omega))⟩ dJx4a65c_add_72be8_7 (fun _ _ h => h.elim) (fun v9 Y hp => ?_)
    obtain ⟨q, hq, hbq, rfl, rfl⟩ := hp
    have hqa : a ≠ q := ne_of_0 hq (by omega)
    have hKq : gK (sP (cpM X d q n (growN n)) 1 a (some q)) q = 23 := if_pos rfl
    have hNq : gN (sP (cpM X d q n (growN n)) 1 a (some q)) q = growN n := if_pos rfl
    have hKa2 : gK (sP (cpM X d q n (growN n)) 1 a (some q)) a = 1 := (if_neg hqa).trans hKa
    have hv2 : oK (sP (cpM X d q n (growN n)) 1 a (some q)) v := oK_alA (t := 23) (n := growN n) hq hv
    refine V_astore_n C dJx4a65c_add_72be8_10 (by decide) rfl ?_
    refine V_aload_n C dJx4a65c_add_72be8_11 rfl ?_
    refine V_iload_n C dJx4a65c_add_72be8_12 rfl ?_
    refine V_aload_n C dJx4a65c_add_72be8_13 rfl ?_
    refine V_aast C hKq hNq (show n < growN n by omega) (by omega) rfl (V_anyo C hv2) dJx4a65c_add_72be8_14 ?_
    refine V_aload_n C dJx4a65c_add_72be8_15 rfl ?_
    refine V_iload_n C dJx4a65c_add_72be8_16 rfl ?_
    refine V_iconst C dJx4a65c_add_72be8_17 ?_
    refine V_iadd C dJx4a65c_add_72be8_18 ?_
    refine V_putI C cl0 fJx4a65c_48 (Or.inl rfl) rfl hKa2 dJx4a65c_add_72be8_19 ?_
    exact V_vret C (by omega) (by omega) ⟨rfl, Or.inr ⟨rfl, q, hq, hbq, rfl⟩⟩ hr dJx4a65c_add_72be8_22
set_option maxRecDepth 20000 in
theorem c_Jx4a65c_add_9ea2d (hl : l.stackTraces = false) {a d c n v : Nat} (hKa : gK X a = 1) (hd : gP X 1 a = some d) (hN : gN X d = c) (hc : (gK X d = 23 ∧ 1 ≤ c) ∨ (d = t0 ∧ gK X d = 24 ∧ c = 0)) (hc9 : c ≤ 1000) (hel : ∀ i, i < n → ∀ v, gO X d i = some v → oK X v) (hn : gI X 2 a = (n : Int)) (hnc : n ≤ c) (hv : oK X v) : Ct l D kA b t0 yJx4a65c_add_9ea2d cJx4a65c_add_9ea2d 2 (some FieldType.boolean) 6 158 [rv (some a), rv (some v)] X 1 (growN c) (fun r Y => r = some (iv 1) ∧ ((n < c ∧ Y = sI (sO (sI X 0 a (gI X 0 a + 1)) d n (some v)) 2 a (n + 1)) ∨ (n = c ∧ ∃ q, gK X q = 0 ∧ b ≤ q ∧ Y = sI (sO (sP (cpM (sI X 0 a (gI X 0 a + 1)) d q c (growN c)) 1 a (some q)) q n (some v)) 2 a (n + 1)))) (pF) := by
  refine Ct_mk hl (by decide) (Nat.le_of_ble_eq_true rfl) rfl ?_
  intro p9 e9 s9 m9 args9 below9 meth9 c9 C hr hx0
  refine V_aload_n C dJx4a65c_add_9ea2d_0 rfl ?_
  refine V_dup C dJx4a65c_add_9ea2d_1 rfl ?_
  refine V_getIx C cl0 fJx4a65c_63 (x := gI X 0 a) hKa rfl dJx4a65c_add_9ea2d_2 ?_
  refine V_iconst C dJx4a65c_add_9ea2d_5 ?_
  refine V_iadd C dJx4a65c_add_9ea2d_6 ?_
  refine V_putI C cl0 fJx4a65c_63 (Or.inl rfl) rfl hKa dJx4a65c_add_9ea2d_7 ?_
  refine V_aload_n C dJx4a65c_add_9ea2d_10 rfl ?_
  refine V_aload_n C dJx4a65c_add_9ea2d_11 rfl ?_
  refine V_aload_n C dJx4a65c_add_9ea2d_12 rfl ?_
  refine V_getP C cl0 fJx4a65c_9 (r := some d) hKa hd dJx4a65c_add_9ea2d_13 ?_
  refine V_aload_n C dJx4a65c_add_9ea2d_16 rfl ?_
  refine V_getIx C cl0 fJx4a65c_48 (x := (n : Int)) hKa hn dJx4a65c_add_9ea2d_17 ?_
  refine V_callV C (As := [_, _, _]) (c_Jx4a65c_add_72be8 hl (X := sI X 0 a (gI X 0 a + 1)) hKa hd hN hc hc9 hel hn hnc hv) kJx4a65c_131 hKa rfl rfl (Nat.le_of_ble_eq_true rfl) ⟨Nat.le_of_ble_eq_true rfl, Nat.le_of_ble_eq_true rfl⟩ ⟨(by first | exact Nat.le_of_ble_eq_true rfl | (dsimp only; omega)), (by first | exact Nat.le_of_ble_eq_true rfl | (dsimp only; omega))⟩ dJx4a65c_add_9ea2d_20 (fun _ _ h => h.elim) (fun v9 Y hp => ?_)
  obtain ⟨rfl, hp⟩ := hp
  refine V_iconst C dJx4a65c_add_9ea2d_23 ?_
  exact V_zret C (by omega) (by omega) ⟨rfl, hp⟩ hr (by first | omega | decide) dJx4a65c_add_9ea2d_24
end JDK3
