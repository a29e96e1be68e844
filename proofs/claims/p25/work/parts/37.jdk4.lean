/-! the library's methods: taking out of a list; what a list is -/
theorem sOr_self (X : Mm) (d : Nat) : sOr X d (gO X d) = X := by
  have e2 : u1 (gO X) d (gO X d) = gO X := by
    funext x
    unfold u1
    split
    · rename_i h
      rw [h]
    · rfl
  show (_, _, _, _, _, u1 (gO X) d (gO X d)) = X
  rw [e2]
  rfl
theorem cpy_0 {α : Type} (f g : Nat → α) (i j : Nat) : va_cpy f g i j 0 = g := by
  funext k
  unfold va_cpy
  rw [if_neg (by omega)]
def rmM (X : Mm) (a d i n : Nat) : Mm := sO (sI (sOr (sI X 0 a (gI X 0 a + 1)) d (va_cpy (gO X d) (gO X d) (i + 1) i (n - 1 - i))) 2 a ((n : Int) - 1)) d (n - 1) none
section JDK4
variable {l : Launch} {D : va_G} {kA : Nat → ClassId} {b t0 : Nat} {X : Mm}

set_option maxRecDepth 20000 in
theorem c_Jx4a65c_fastRemove_b59b0 (hl : l.stackTraces = false) {a d c n i : Nat} (hKa : gK X a = 1) (hKd : gK X d = 23) (hN : gN X d = c) (hc9 : c ≤ 3000) (hel : ∀ i, i < n → ∀ v, gO X d i = some v → oK X v) (hn : gI X 2 a = (n : Int)) (hnc : n ≤ c) (hi : i < n) : Ct l D kA b t0 yJx4a65c_fastRemove_b59b0 cJx4a65c_fastRemove_b59b0 4 none 1 48 [rv (some a), rv (some d), iv (i : Int)] X 0 0 (pD none (rmM X a d i n)) (pF) := by
  refine Ct_mk hl (by decide) (Nat.le_of_ble_eq_true rfl) rfl ?_
  intro p9 e9 s9 m9 args9 below9 meth9 c9 C hr hx0
  refine V_aload_n C dJx4a65c_fastRemove_b59b0_0 rfl ?_
  refine V_dup C dJx4a65c_fastRemove_b59b0_1 rfl ?_
  refine V_getIx C cl0 fJx4a65c_63 (x := gI X 0 a) hKa rfl dJx4a65c_fastRemove_b59b0_2 ?_
  refine V_iconst C dJx4a65c_fastRemove_b59b0_5 ?_
  refine V_iadd C dJx4a65c_fastRemove_b59b0_6 ?_
  refine V_putI C cl0 fJx4a65c_63 (Or.inl rfl) rfl hKa dJx4a65c_fastRemove_b59b0_7 ?_
  refine V_aload_n C dJx4a65c_fastRemove_b59b0_10 rfl ?_
  refine V_getIx C cl0 fJx4a65c_48 (x := (n : Int)) hKa hn dJx4a65c_fastRemove_b59b0_11 ?_
  refine V_iconst C dJx4a65c_fastRemove_b59b0_14 ?_
  refine V_isub C dJx4a65c_fastRemove_b59b0_15 ?_
  refine V_dup C dJx4a65c_fastRemove_b59b0_16 rfl ?_
  refine V_istore_n C dJx4a65c_fastRemove_b59b0_17 (by decide) rfl ?_
  refine V_iload_n C dJx4a65c_fastRemove_b59b0_18 rfl ?_
  refine V_icmp_le C dJx4a65c_fastRemove_b59b0_19 (by omega) (by omega) (fun h19 => ?_) (fun h19 => ?_)
  · refine V_aload_n C dJx4a65c_fastRemove_b59b0_34 rfl ?_
    refine V_aload_n C dJx4a65c_fastRemove_b59b0_35 rfl ?_
    refine V_iload_n C dJx4a65c_fastRemove_b59b0_36 rfl ?_
    refine V_dup_x1 C dJx4a65c_fastRemove_b59b0_37 rfl rfl ?_
    refine V_putI C cl0 fJx4a65c_48 (Or.inl rfl) rfl hKa dJx4a65c_fastRemove_b59b0_38 ?_
    refine V_null C dJx4a65c_fastRemove_b59b0_41 ?_
    refine V_aastN C hKd hN (show n - 1 < c by omega) (by omega) (by omega) dJx4a65c_fastRemove_b59b0_42 ?_
    exact V_vret C (by omega) (by omega) ⟨rfl, by first | rfl | (unfold rmM; rw [show n - 1 - i = 0 by omega, cpy_0]; rw [show gO X d = gO (sI X 0 a (gI X 0 a + 1)) d from rfl, sOr_self])⟩ hr dJx4a65c_fastRemove_b59b0_43
  · refine V_aload_n C dJx4a65c_fastRemove_b59b0_22 rfl ?_
    refine V_iload_n C dJx4a65c_fastRemove_b59b0_23 rfl ?_
    refine V_iconst C dJx4a65c_fastRemove_b59b0_24 ?_
    refine V_iadd C dJx4a65c_fastRemove_b59b0_25 ?_
    refine V_aload_n C dJx4a65c_fastRemove_b59b0_26 rfl ?_
    refine V_iload_n C dJx4a65c_fastRemove_b59b0_27 rfl ?_
    refine V_iload_n C dJx4a65c_fastRemove_b59b0_28 rfl ?_
    refine V_iload_n C dJx4a65c_fastRemove_b59b0_29 rfl ?_
    refine V_isub C dJx4a65c_fastRemove_b59b0_30 ?_
    refine V_copyO C (a0 := d) (a := d) (sp := i + 1) (dp := i) (nn := n - 1 - i) (n0 := c) (n1 := c) (by omega) rfl (by omega) hKd hKd hN hN (by omega) (by omega) (by omega) (by omega) (fun j hj v hv => V_anyo C (hel (i + 1 + j) (by omega) v hv)) ac1_112 ac2 ac3 ac4 (Nat.le_of_ble_eq_true rfl) (Nat.le_of_ble_eq_true rfl) dJx4a65c_fastRemove_b59b0_31 ?_
    refine V_aload_n C dJx4a65c_fastRemove_b59b0_34 rfl ?_
    refine V_aload_n C dJx4a65c_fastRemove_b59b0_35 rfl ?_
    refine V_iload_n C dJx4a65c_fastRemove_b59b0_36 rfl ?_
    refine V_dup_x1 C dJx4a65c_fastRemove_b59b0_37 rfl rfl ?_
    refine V_putI C cl0 fJx4a65c_48 (Or.inl rfl) rfl hKa dJx4a65c_fastRemove_b59b0_38 ?_
    refine V_null C dJx4a65c_fastRemove_b59b0_41 ?_
    refine V_aastN C hKd hN (show n - 1 < c by omega) (by omega) (by omega) dJx4a65c_fastRemove_b59b0_42 ?_
    exact V_vret C (by omega) (by omega) ⟨rfl, by first | rfl | (unfold rmM; rw [show n - 1 - i = 0 by omega, cpy_0]; rw [show gO X d = gO (sI X 0 a (gI X 0 a + 1)) d from rfl, sOr_self])⟩ hr dJx4a65c_fastRemove_b59b0_43
set_option maxRecDepth 20000 in
theorem c_Jx4a65c_remove_915e3 (hl : l.stackTraces = false) {v a d c n i : Nat} (hKa : gK X a = 1) (hKd : gK X d = 23) (hN : gN X d = c) (hc9 : c ≤ 3000) (hel : ∀ i, i < n → ∀ v, gO X d i = some v → oK X v) (hn : gI X 2 a = (n : Int)) (hnc : n ≤ c) (hi : i < n) (hd : gP X 1 a = some d) (hv : gO X d i = some v) : Ct l D kA b t0 yJx4a65c_remove_915e3 cJx4a65c_remove_915e3 4 (some (FieldType.object "java/lang/Object")) 2 71 [rv (some a), iv (i : Int)] X 0 0 (pD (some (rv (some v))) (rmM X a d i n)) (pF) := by
  refine Ct_mk hl (by decide) (Nat.le_of_ble_eq_true rfl) rfl ?_
  intro p9 e9 s9 m9 args9 below9 meth9 c9 C hr hx0
  refine V_iload_n C dJx4a65c_remove_915e3_0 rfl ?_
  refine V_aload_n C dJx4a65c_remove_915e3_1 rfl ?_
  refine V_getIx C cl0 fJx4a65c_48 (x := (n : Int)) hKa hn dJx4a65c_remove_915e3_2 ?_
  refine V_callS1 C (As := [_, _]) (c_J15_checkIndex_7cf53 hl (by omega) (by omega) (by omega) (by omega)) kJx4a65c_118 rfl rfl (Nat.le_of_ble_eq_true rfl) ⟨Nat.le_of_ble_eq_true rfl, Nat.le_of_ble_eq_true rfl⟩ ⟨Nat.le_of_ble_eq_true rfl, Nat.le_of_ble_eq_true rfl⟩ dJx4a65c_remove_915e3_5 ?_
  refine V_pop C dJx4a65c_remove_915e3_8 rfl ?_
  refine V_aload_n C dJx4a65c_remove_915e3_9 rfl ?_
  refine V_getP C cl0 fJx4a65c_9 (r := some d) hKa hd dJx4a65c_remove_915e3_10 ?_
  refine V_astore_n C dJx4a65c_remove_915e3_13 (by decide) rfl ?_
  refine V_aload_n C dJx4a65c_remove_915e3_14 rfl ?_
  refine V_iload_n C dJx4a65c_remove_915e3_15 rfl ?_
  refine V_aald C hKd hN (by omega) (by omega) rfl hv dJx4a65c_remove_915e3_16 ?_
  refine V_astore_n C dJx4a65c_remove_915e3_17 (by decide) rfl ?_
  refine V_aload_n C dJx4a65c_remove_915e3_18 rfl ?_
  refine V_aload_n C dJx4a65c_remove_915e3_19 rfl ?_
  refine V_iload_n C dJx4a65c_remove_915e3_20 rfl ?_
  refine V_callV0 C (As := [_, _]) (c_Jx4a65c_fastRemove_b59b0 hl hKa hKd hN hc9 hel hn hnc hi) kJx4a65c_144 hKa rfl rfl (Nat.le_of_ble_eq_true rfl) ⟨Nat.le_of_ble_eq_true rfl, Nat.le_of_ble_eq_true rfl⟩ ⟨Nat.le_of_ble_eq_true rfl, Nat.le_of_ble_eq_true rfl⟩ dJx4a65c_remove_915e3_21 ?_
  refine V_aload_n C dJx4a65c_remove_915e3_24 rfl ?_
  exact V_aret C (by omega) (by omega) ⟨rfl, rfl⟩ hr (Or.inl ⟨_, rfl⟩) dJx4a65c_remove_915e3_25
/-- the list at a holds the objects xs, in the array d of c places -/
def LI (t0 : Nat) (X : Mm) (a : Nat) (xs : List Nat) (d c : Nat) : Prop := gK X a = 1 ∧ gI X 2 a = (xs.length : Int) ∧ gP X 1 a = some d ∧ gN X d = c ∧ ((gK X d = 23 ∧ 1 ≤ c) ∨ (d = t0 ∧ gK X d = 24 ∧ c = 0)) ∧ xs.length ≤ c ∧ c ≤ 1000 ∧ (∀ i v, xs[i]? = some v → gO X d i = some v ∧ oK X v)
theorem LI.el {t0 : Nat} {X : Mm} {a : Nat} {xs : List Nat} {d c : Nat} (h : LI t0 X a xs d c) : ∀ i, i < xs.length → ∀ v, gO X d i = some v → oK X v := by
  intro i hi v hv
  obtain ⟨w, hw⟩ : ∃ w, xs[i]? = some w := ⟨xs[i], List.getElem?_eq_getElem hi⟩
  obtain ⟨h1, h2⟩ := h.2.2.2.2.2.2.2 i w hw
  rw [h1] at hv
  cases hv
  exact h2
theorem L_size (hl : l.stackTraces = false) {a : Nat} {xs : List Nat} {d c : Nat} (h : LI t0 X a xs d c) : Ct l D kA b t0 yJx4a65c_size_8abf5 cJx4a65c_size_8abf5 1 (some FieldType.int) 0 0 [rv (some a)] X 0 0 (pD (some (iv (xs.length : Int))) X) pF := c_Jx4a65c_size_8abf5 hl h.1 h.2.1
theorem L_get (hl : l.stackTraces = false) {a : Nat} {xs : List Nat} {d c i v : Nat} {z : Int} (h : LI t0 X a xs d c) (hv : xs[i]? = some v) (hz : z = (i : Int)) : Ct l D kA b t0 yJx4a65c_get_915e3 cJx4a65c_get_915e3 2 (some (FieldType.object "java/lang/Object")) 2 43 [rv (some a), iv z] X 0 0 (pD (some (rv (some v))) X) pF := by
  subst hz
  have hi : i < xs.length := (List.getElem?_eq_some_iff.mp hv).1
  obtain ⟨h1, h2, h3, h4, h5, h6, h7, h8⟩ := h
  have hKd : gK X d = 23 := by
    rcases h5 with h | h
    · exact h.1
    · omega
  exact c_Jx4a65c_get_915e3 hl h1 h3 hKd h4 (by omega) (by omega) (h8 i v hv).1 h2 (by omega) (by omega)

end JDK4
