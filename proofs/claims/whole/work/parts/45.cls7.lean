/-! the class: looking through bookings -/
/-- what the bookings of a list say -/
def bkI (X : Mm) (bs : List Nat) (H : Nat → Nat) (F T : Nat → Int) : Prop := ∀ q ∈ bs, gK X q = 2 ∧ gP X 64 q = some (H q) ∧ gI X 65 q = F q ∧ gI X 66 q = T q ∧ (0 ≤ F q ∧ F q ≤ 20000) ∧ (0 ≤ T q ∧ T q ≤ 20600)
theorem sofar {bs : List Nat} {P : Nat → Prop} {i q : Nat} (h : ∀ j, j < i → ∀ q, bs[j]? = some q → ¬ P q) (hq : bs[i]? = some q) (hn : ¬ P q) : ∀ j, j < i + 1 → ∀ q, bs[j]? = some q → ¬ P q := by
  intro j hj r hr
  rcases Nat.lt_succ_iff_lt_or_eq.mp hj with e | rfl
  · exact h j e r hr
  · rw [hq] at hr
    cases hr
    exact hn
theorem none_of {bs : List Nat} {P : Nat → Prop} {i : Nat} (h : ∀ j, j < i → ∀ q, bs[j]? = some q → ¬ P q) (hi : bs.length ≤ i) : ¬ ∃ q ∈ bs, P q := by
  rintro ⟨q, hq, hp⟩
  obtain ⟨j, hj⟩ := List.getElem?_of_mem hq
  exact h j (Nat.lt_of_lt_of_le (List.getElem?_eq_some_iff.mp hj).1 hi) q hj hp
section CLS7
variable {l : Launch} {D : va_G} {kA : Nat → ClassId} {b t0 : Nat} {X : Mm}
set_option maxHeartbeats 2000000 in
set_option maxRecDepth 20000 in
theorem c_X9_isBookedWithin (hl : l.stackTraces = false) {s bl d c : Nat} {bs : List Nat} {H : Nat → Nat} {F T : Nat → Int} (hKs : gK X s = 7) (hbl : gP X 391 s = some bl) (h : LI t0 X bl bs d c) (hb : bkI X bs H F T) {f t : Int} (hf : 0 ≤ f ∧ f ≤ 20000) (ht : 0 ≤ t ∧ t ≤ 20600) : Ct l D kA b t0 yX9_isBookedWithin cX9_isBookedWithin 5 (some FieldType.boolean) 3 64 [rv (some s), iv f, iv t] X 0 0 (fun v Y => Y = X ∧ ∃ z : Int, v = some (iv z) ∧ ((z = 1 ∧ ∃ q ∈ bs, f < T q ∧ F q < t) ∨ (z = 0 ∧ ¬ ∃ q ∈ bs, f < T q ∧ F q < t))) (pF) := by
  refine Ct_mk hl (by decide) (Nat.le_of_ble_eq_true rfl) rfl ?_
  intro p9 e9 s9 m9 args9 below9 meth9 c9 C hr hx0
  refine V_iconst C dX9_isBookedWithin_0 ?_
  refine V_istore_n C dX9_isBookedWithin_1 (by decide) rfl ?_
  refine V_while C (St := Nat × Option Value) (f := fun _ => X) (g := fun x => [some (rv (some s)), some (iv f), some (iv t), some (iv (x.1 : Int)), x.2]) (cs := fun _ => 0) (ss := fun _ => 0) (μ := fun x => bs.length + 1 - x.1) (I := fun x => x.1 ≤ bs.length ∧ ∀ j, j < x.1 → ∀ q, bs[j]? = some q → ¬ (f < T q ∧ F q < t)) (x0 := (0, none)) rfl rfl rfl rfl ⟨Nat.zero_le _, fun j hj => absurd hj (Nat.not_lt_zero j)⟩ ?_
  rintro ⟨i, u3⟩ ⟨hi, hI⟩ ih
  dsimp only at hi hI ih ⊢
  have hle : bs.length ≤ 1000 := Nat.le_trans h.2.2.2.2.2.1 h.2.2.2.2.2.2.1
  refine V_iload_n C dX9_isBookedWithin_2 rfl ?_
  refine V_aload_n C dX9_isBookedWithin_3 rfl ?_
  refine V_getP C cl6 fX9_145 (r := some bl) hKs hbl dX9_isBookedWithin_4 ?_
  refine V_callV1 C (As := []) (L_size hl h) kX9_63 h.1 rfl rfl (Nat.le_of_ble_eq_true rfl) ⟨Nat.le_of_ble_eq_true rfl, Nat.le_of_ble_eq_true rfl⟩ ⟨Nat.le_of_ble_eq_true rfl, Nat.le_of_ble_eq_true rfl⟩ dX9_isBookedWithin_7 ?_
  refine V_icmp_ge C dX9_isBookedWithin_10 (by omega) (by have := h.2.2.2.2.2; omega) (fun h10 => ?_) (fun h10 => ?_)
  · refine V_iconst C dX9_isBookedWithin_52 ?_
    exact V_zret C (by omega) (by omega) ⟨rfl, 0, rfl, Or.inr ⟨rfl, none_of hI (by omega)⟩⟩ hr (by first | omega | decide) dX9_isBookedWithin_53
  · obtain ⟨q, hq⟩ : ∃ q, bs[i]? = some q := ⟨bs[i]'(by omega), List.getElem?_eq_getElem (by omega)⟩
    have hqi := hb q (List.mem_of_getElem? hq)
    refine V_aload_n C dX9_isBookedWithin_13 rfl ?_
    refine V_getP C cl6 fX9_145 (r := some bl) hKs hbl dX9_isBookedWithin_14 ?_
    refine V_iload_n C dX9_isBookedWithin_17 rfl ?_
    refine V_callV1 C (As := [_]) (L_get hl h hq rfl) kX9_283 h.1 rfl rfl (Nat.le_of_ble_eq_true rfl) ⟨Nat.le_of_ble_eq_true rfl, Nat.le_of_ble_eq_true rfl⟩ ⟨Nat.le_of_ble_eq_true rfl, Nat.le_of_ble_eq_true rfl⟩ dX9_isBookedWithin_18 ?_
    refine V_cast C cl1 cc_RX9_148 hqi.1 dX9_isBookedWithin_21 ?_
    refine V_astore C dX9_isBookedWithin_24 (by decide) rfl ?_
    refine V_iload_n C dX9_isBookedWithin_26 rfl ?_
    refine V_aload C dX9_isBookedWithin_27 rfl ?_
    refine V_getIx C cl1 fX9_313 (x := T q) hqi.1 hqi.2.2.2.1 dX9_isBookedWithin_29 ?_
    refine V_icmp_ge C dX9_isBookedWithin_32 (by omega) (by omega) (fun h32 => ?_) (fun h32 => ?_)
    · refine V_iinc C dX9_isBookedWithin_46 (by decide) rfl rfl ?_
      refine V_goto C dX9_isBookedWithin_49 ?_
      refine ih (i + 1, _) ⟨by show i + 1 ≤ bs.length; omega, sofar hI hq (by first | omega | (intro hz; have := hz.1; simp_all; done) | (intro hz; split at * <;> omega))⟩ (by show bs.length + 1 - (i + 1) < bs.length + 1 - i; omega)
    · refine V_aload C dX9_isBookedWithin_35 rfl ?_
      refine V_getIx C cl1 fX9_316 (x := F q) hqi.1 hqi.2.2.1 dX9_isBookedWithin_37 ?_
      refine V_iload_n C dX9_isBookedWithin_40 rfl ?_
      refine V_icmp_ge C dX9_isBookedWithin_41 (by omega) (by omega) (fun h41 => ?_) (fun h41 => ?_)
      · refine V_iinc C dX9_isBookedWithin_46 (by decide) rfl rfl ?_
        refine V_goto C dX9_isBookedWithin_49 ?_
        refine ih (i + 1, _) ⟨by show i + 1 ≤ bs.length; omega, sofar hI hq (by first | omega | (intro hz; have := hz.1; simp_all; done) | (intro hz; split at * <;> omega))⟩ (by show bs.length + 1 - (i + 1) < bs.length + 1 - i; omega)
      · refine V_iconst C dX9_isBookedWithin_44 ?_
        exact V_zret C (by omega) (by omega) ⟨rfl, 1, rfl, Or.inl ⟨rfl, q, List.mem_of_getElem? hq, by first | omega | (refine ⟨fun z => by simp_all, ?_⟩; split at * <;> omega)⟩⟩ hr (by first | omega | decide) dX9_isBookedWithin_45
set_option maxHeartbeats 2000000 in
set_option maxRecDepth 20000 in
theorem c_X9_isBookedByAnother (hl : l.stackTraces = false) {s bl d c : Nat} {bs : List Nat} {H : Nat → Nat} {F T : Nat → Int} (hKs : gK X s = 7) (hbl : gP X 391 s = some bl) (h : LI t0 X bl bs d c) (hb : bkI X bs H F T) {y k : Nat} {n : Int} (hKy : gK X y = 11) (hn : gI X 646 y = n) (hn9 : 0 ≤ n ∧ n ≤ 20000) : Ct l D kA b t0 yX9_isBookedByAnother cX9_isBookedByAnother 5 (some FieldType.boolean) 3 64 [rv (some y), rv (some s), rv (some k)] X 0 0 (fun v Y => Y = X ∧ ∃ z : Int, v = some (iv z) ∧ ((z = 1 ∧ ∃ q ∈ bs, H q ≠ k ∧ F q ≤ n ∧ n < F q + 15) ∨ (z = 0 ∧ ¬ ∃ q ∈ bs, H q ≠ k ∧ F q ≤ n ∧ n < F q + 15))) (pF) := by
  refine Ct_mk hl (by decide) (Nat.le_of_ble_eq_true rfl) rfl ?_
  intro p9 e9 s9 m9 args9 below9 meth9 c9 C hr hx0
  refine V_iconst C dX9_isBookedByAnother_0 ?_
  refine V_istore_n C dX9_isBookedByAnother_1 (by decide) rfl ?_
  refine V_while C (St := Nat × Option Value) (f := fun _ => X) (g := fun x => [some (rv (some y)), some (rv (some s)), some (rv (some k)), some (iv (x.1 : Int)), x.2]) (cs := fun _ => 0) (ss := fun _ => 0) (μ := fun x => bs.length + 1 - x.1) (I := fun x => x.1 ≤ bs.length ∧ ∀ j, j < x.1 → ∀ q, bs[j]? = some q → ¬ (H q ≠ k ∧ F q ≤ n ∧ n < F q + 15)) (x0 := (0, none)) rfl rfl rfl rfl ⟨Nat.zero_le _, fun j hj => absurd hj (Nat.not_lt_zero j)⟩ ?_
  rintro ⟨i, u3⟩ ⟨hi, hI⟩ ih
  dsimp only at hi hI ih ⊢
  have hle : bs.length ≤ 1000 := Nat.le_trans h.2.2.2.2.2.1 h.2.2.2.2.2.2.1
  refine V_iload_n C dX9_isBookedByAnother_2 rfl ?_
  refine V_aload_n C dX9_isBookedByAnother_3 rfl ?_
  refine V_getP C cl6 fX9_145 (r := some bl) hKs hbl dX9_isBookedByAnother_4 ?_
  refine V_callV1 C (As := []) (L_size hl h) kX9_63 h.1 rfl rfl (Nat.le_of_ble_eq_true rfl) ⟨Nat.le_of_ble_eq_true rfl, Nat.le_of_ble_eq_true rfl⟩ ⟨Nat.le_of_ble_eq_true rfl, Nat.le_of_ble_eq_true rfl⟩ dX9_isBookedByAnother_7 ?_
  refine V_icmp_ge C dX9_isBookedByAnother_10 (by omega) (by have := h.2.2.2.2.2; omega) (fun h10 => ?_) (fun h10 => ?_)
  · refine V_iconst C dX9_isBookedByAnother_55 ?_
    exact V_zret C (by omega) (by omega) ⟨rfl, 0, rfl, Or.inr ⟨rfl, none_of hI (by omega)⟩⟩ hr (by first | omega | decide) dX9_isBookedByAnother_56
  · obtain ⟨q, hq⟩ : ∃ q, bs[i]? = some q := ⟨bs[i]'(by omega), List.getElem?_eq_getElem (by omega)⟩
    have hqi := hb q (List.mem_of_getElem? hq)
    refine V_aload_n C dX9_isBookedByAnother_13 rfl ?_
    refine V_getP C cl6 fX9_145 (r := some bl) hKs hbl dX9_isBookedByAnother_14 ?_
    refine V_iload_n C dX9_isBookedByAnother_17 rfl ?_
    refine V_callV1 C (As := [_]) (L_get hl h hq rfl) kX9_283 h.1 rfl rfl (Nat.le_of_ble_eq_true rfl) ⟨Nat.le_of_ble_eq_true rfl, Nat.le_of_ble_eq_true rfl⟩ ⟨Nat.le_of_ble_eq_true rfl, Nat.le_of_ble_eq_true rfl⟩ dX9_isBookedByAnother_18 ?_
    refine V_cast C cl1 cc_RX9_148 hqi.1 dX9_isBookedByAnother_21 ?_
    refine V_astore C dX9_isBookedByAnother_24 (by decide) rfl ?_
    refine V_aload C dX9_isBookedByAnother_26 rfl ?_
    refine V_getP C cl1 fX9_319 (r := some ((H q))) hqi.1 hqi.2.1 dX9_isBookedByAnother_28 ?_
    refine V_aload_n C dX9_isBookedByAnother_31 rfl ?_
    refine V_acmp_eq C dX9_isBookedByAnother_32  (fun h32 => ?_) (fun h32 => ?_)
    · refine V_iinc C dX9_isBookedByAnother_49 (by decide) rfl rfl ?_
      refine V_goto C dX9_isBookedByAnother_52 ?_
      refine ih (i + 1, _) ⟨by show i + 1 ≤ bs.length; omega, sofar hI hq (by first | omega | (intro hz; have := hz.1; simp_all; done) | (intro hz; split at * <;> omega))⟩ (by show bs.length + 1 - (i + 1) < bs.length + 1 - i; omega)
    · refine V_aload C dX9_isBookedByAnother_35 rfl ?_
      refine V_aload_n C dX9_isBookedByAnother_37 rfl ?_
      refine V_getIx C cl10 fX9_31 (x := n) hKy hn dX9_isBookedByAnother_38 ?_
      refine V_callV1 C (As := [_]) (c_X0_holdsAt hl hqi.1 hqi.2.2.1 hn9 (by omega)) kX9_323 hqi.1 rfl rfl (Nat.le_of_ble_eq_true rfl) ⟨Nat.le_of_ble_eq_true rfl, Nat.le_of_ble_eq_true rfl⟩ ⟨Nat.le_of_ble_eq_true rfl, Nat.le_of_ble_eq_true rfl⟩ dX9_isBookedByAnother_41 ?_
      refine V_if_eq C dX9_isBookedByAnother_44 (by split <;> decide) (fun h44 => ?_) (fun h44 => ?_)
      · refine V_iinc C dX9_isBookedByAnother_49 (by decide) rfl rfl ?_
        refine V_goto C dX9_isBookedByAnother_52 ?_
        refine ih (i + 1, _) ⟨by show i + 1 ≤ bs.length; omega, sofar hI hq (by first | omega | (intro hz; have := hz.1; simp_all; done) | (intro hz; split at * <;> omega))⟩ (by show bs.length + 1 - (i + 1) < bs.length + 1 - i; omega)
      · refine V_iconst C dX9_isBookedByAnother_47 ?_
        exact V_zret C (by omega) (by omega) ⟨rfl, 1, rfl, Or.inl ⟨rfl, q, List.mem_of_getElem? hq, by first | omega | (refine ⟨fun z => by simp_all, ?_⟩; split at * <;> omega)⟩⟩ hr (by first | omega | decide) dX9_isBookedByAnother_48
end CLS7
