/-! the class: a booking that is used -/
section CLS10
variable {l : Launch} {D : va_G} {kA : Nat → ClassId} {b t0 : Nat} {X : Mm}
def useP (H : Nat → Nat) (F : Nat → Int) (k : Nat) (n : Int) (q : Nat) : Bool := decide (H q = k ∧ F q ≤ n ∧ n < F q + 15)
set_option maxHeartbeats 2000000 in
set_option maxRecDepth 20000 in
theorem c_X9_useBooking (hl : l.stackTraces = false) {y s k bl d c : Nat} {bs : List Nat} {H : Nat → Nat} {F T : Nat → Int} {n : Int} (hKy : gK X y = 11) (hKs : gK X s = 7) (hbl : gP X 391 s = some bl) (h : LI t0 X bl bs d c) (hb : bkI X bs H F T) (hn : gI X 646 y = n) (hn9 : 0 ≤ n ∧ n ≤ 20000) (hda : d ≠ bl) : Ct l D kA b t0 yX9_useBooking cX9_useBooking 5 none 3 94 [rv (some y), rv (some s), rv (some k)] X 0 0 (fun v Y => v = none ∧ LI t0 Y bl (bs.filter (fun v => !useP H F k n v)) d c ∧ gK Y = gK X ∧ Fr X Y (fun q => q = bl ∨ q = d)) (pF) := by
  refine Ct_mk hl (by decide) (Nat.le_of_ble_eq_true rfl) rfl ?_
  intro p9 e9 s9 m9 args9 below9 meth9 c9 C hr hx0
  have hle : bs.length ≤ 1000 := Nat.le_trans h.2.2.2.2.2.1 h.2.2.2.2.2.2.1
  refine V_aload_n C dX9_useBooking_0 rfl ?_
  refine V_getP C cl6 fX9_145 (r := some bl) hKs hbl dX9_useBooking_1 ?_
  refine V_callV1 C (As := []) (L_size hl h) kX9_63 h.1 rfl rfl (Nat.le_of_ble_eq_true rfl) ⟨Nat.le_of_ble_eq_true rfl, Nat.le_of_ble_eq_true rfl⟩ ⟨Nat.le_of_ble_eq_true rfl, Nat.le_of_ble_eq_true rfl⟩ dX9_useBooking_4 ?_
  refine V_iconst C dX9_useBooking_7 ?_
  refine V_isub C dX9_useBooking_8 ?_
  refine V_istore_n C dX9_useBooking_9 (by decide) rfl ?_
  refine V_while C (St := Nat × Mm × Option Value) (f := fun z => z.2.1) (g := fun z => [some (rv (some y)), some (rv (some s)), some (rv (some k)), some (iv ((z.1 : Int) - 1)), z.2.2]) (cs := fun _ => 0) (ss := fun _ => 0) (μ := fun z => z.1) (I := fun z => z.1 ≤ bs.length ∧ LI t0 z.2.1 bl (lft bs (useP H F k n) z.1) d c ∧ gK z.2.1 = gK X ∧ Fr X z.2.1 (fun q => q = bl ∨ q = d)) (x0 := (bs.length, X, none)) rfl rfl rfl rfl ⟨Nat.le_refl _, by unfold lft; rw [List.take_length, List.drop_length]; simpa using h, rfl, Fr.rf _ _⟩ ?_
  rintro ⟨i, Z, u3⟩ ⟨hk, hL, hK, hF⟩ ih
  dsimp only at hk hL hK hF ih ⊢
  have hnl : ∀ v, gK X v ≠ 1 → gK X v ≠ 23 → gK X v ≠ 24 → eqc X Z v ∨ gK X v = 0 := by
    intro v g1 g2 g3
    by_cases g0 : gK X v = 0
    · exact Or.inr g0
    · refine Or.inl (hF v g0 (fun z => ?_))
      rcases z with rfl | rfl
      · exact g1 h.1
      · rcases h.2.2.2.2.1 with e | e
        · exact g2 e.1
        · exact g3 e.2.1
  have hy : eqc X Z y := (hnl y (by omega) (by omega) (by omega)).resolve_right (by omega)
  have hs : eqc X Z s := (hnl s (by omega) (by omega) (by omega)).resolve_right (by omega)
  have hKy2 : gK Z y = 11 := hy.1.trans hKy
  have hKs2 : gK Z s = 7 := hs.1.trans hKs
  have hbl2 : gP Z 391 s = some bl := (hs.2.2.1 391).trans hbl
  have hn2 : gI Z 646 y = n := (hy.2.1 646).trans hn
  refine V_iload_n C dX9_useBooking_10 rfl ?_
  refine V_if_lt C dX9_useBooking_11 (by omega) (fun h11 => ?_) (fun h11 => ?_)
  · obtain rfl : i = 0 := by omega
    exact V_vret C (by omega) (by omega) ⟨rfl, hL, hK, hF⟩ hr dX9_useBooking_63
  · exact absurd (show bs.length = 0 by rw [show bs = [] from hb]; rfl) (by omega)
end CLS10
