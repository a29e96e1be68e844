/-! the class: looking through bookings -/
/-- what the bookings of a list say -/
def bkI (X : Mm) (bs : List Nat) (H : Nat → Nat) (F T : Nat → Int) : Prop := bs = []
theorem sofar {bs : List Nat} {P : Nat → Prop} {i q : Nat} (h : ∀ j, j < i → ∀ q, bs[j]? = some q → ¬ P q) (hq : bs[i]? = some q) (hn : ¬ P q) : ∀ j, j < i + 1 → ∀ q, bs[j]? = some q → ¬ P q := by
  intro j hj r hr
  rcases Nat.lt_succ_iff_lt_or_eq.mp hj with e | rfl
  · exact h j e r hr
  · rw [hq] at hr
    cases hr
    exact hn
theorem none_of {bs : List Nat} {P : Nat → Prop} {i : Nat} (h : ∀ j, j < i → ∀ q, bs[j]? = some q → ¬ P q) (hi : bs.length ≤ i) : ¬ ∃ q ∈ bs, P q := by
  rintro ⟨q, hq, hp⟩
  obtain ⟨j, hj⟩ := List.getElem?_of_mem hq
  exact h j (Nat.lt_of_lt_of_le (List.getElem?_eq_some_iff.mp hj).1 hi) q hj hp
section CLS7
variable {l : Launch} {D : va_G} {kA : Nat → ClassId} {b t0 : Nat} {X : Mm}
set_option maxHeartbeats 2000000 in
set_option maxRecDepth 20000 in
theorem c_X9_isBookedByAnother (hl : l.stackTraces = false) {s bl d c : Nat} {bs : List Nat} {H : Nat → Nat} {F T : Nat → Int} (hKs : gK X s = 7) (hbl : gP X 391 s = some bl) (h : LI t0 X bl bs d c) (hb : bkI X bs H F T) {y k : Nat} {n : Int} (hKy : gK X y = 11) (hn : gI X 646 y = n) (hn9 : 0 ≤ n ∧ n ≤ 20000) : Ct l D kA b t0 yX9_isBookedByAnother cX9_isBookedByAnother 5 (some FieldType.boolean) 3 64 [rv (some y), rv (some s), rv (some k)] X 0 0 (fun v Y => Y = X ∧ ∃ z : Int, v = some (iv z) ∧ ((z = 1 ∧ ∃ q ∈ bs, H q ≠ k ∧ F q ≤ n ∧ n < F q + 15) ∨ (z = 0 ∧ ¬ ∃ q ∈ bs, H q ≠ k ∧ F q ≤ n ∧ n < F q + 15))) (pF) := by
  refine Ct_mk hl (by decide) (Nat.le_of_ble_eq_true rfl) rfl ?_
  intro p9 e9 s9 m9 args9 below9 meth9 c9 C hr hx0
  refine V_iconst C dX9_isBookedByAnother_0 ?_
  refine V_istore_n C dX9_isBookedByAnother_1 (by decide) rfl ?_
  refine V_while C (St := Nat × Option Value) (f := fun _ => X) (g := fun x => [some (rv (some y)), some (rv (some s)), some (rv (some k)), some (iv (x.1 : Int)), x.2]) (cs := fun _ => 0) (ss := fun _ => 0) (μ := fun x => bs.length + 1 - x.1) (I := fun x => x.1 ≤ bs.length ∧ ∀ j, j < x.1 → ∀ q, bs[j]? = some q → ¬ (H q ≠ k ∧ F q ≤ n ∧ n < F q + 15)) (x0 := (0, none)) rfl rfl rfl rfl ⟨Nat.zero_le _, fun j hj => absurd hj (Nat.not_lt_zero j)⟩ ?_
  rintro ⟨i, u3⟩ ⟨hi, hI⟩ ih
  dsimp only at hi hI ih ⊢
  have hle : bs.length ≤ 1000 := Nat.le_trans h.2.2.2.2.2.1 h.2.2.2.2.2.2.1
  refine V_iload_n C dX9_isBookedByAnother_2 rfl ?_
  refine V_aload_n C dX9_isBookedByAnother_3 rfl ?_
  refine V_getP C cl6 fX9_145 (r := some bl) hKs hbl dX9_isBookedByAnother_4 ?_
  refine V_callV1 C (As := []) (L_size hl h) kX9_63 h.1 rfl rfl (Nat.le_of_ble_eq_true rfl) ⟨Nat.le_of_ble_eq_true rfl, Nat.le_of_ble_eq_true rfl⟩ ⟨Nat.le_of_ble_eq_true rfl, Nat.le_of_ble_eq_true rfl⟩ dX9_isBookedByAnother_7 ?_
  refine V_icmp_ge C dX9_isBookedByAnother_10 (by omega) (by have := h.2.2.2.2.2; omega) (fun h10 => ?_) (fun h10 => ?_)
  · refine V_iconst C dX9_isBookedByAnother_55 ?_
    exact V_zret C (by omega) (by omega) ⟨rfl, 0, rfl, Or.inr ⟨rfl, none_of hI (by omega)⟩⟩ hr (by first | omega | decide) dX9_isBookedByAnother_56
  · exact absurd (show bs.length = 0 by rw [show bs = [] from hb]; rfl) (by omega)
end CLS7
