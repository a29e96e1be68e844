/-! the class: taking out of lists -/
theorem Fr.tr {X Y Z : Mm} {P : Nat → Prop} (h : Fr X Y P) (g : Fr Y Z P) (hk : ∀ q, gK X q ≠ 0 → gK Y q ≠ 0) : Fr X Z P := fun q hq hp => (h q hq hp).tr (g q (hk q hq) hp)
theorem Fr.rf (X : Mm) (P : Nat → Prop) : Fr X X P := fun q _ _ => eqc.rf X q
/-- what is left when the places from k on are looked at -/
def lft (xs : List Nat) (p : Nat → Bool) (k : Nat) : List Nat := xs.take k ++ (xs.drop k).filter (fun v => !p v)
theorem lft_get {xs : List Nat} {p : Nat → Bool} {k v : Nat} (h : xs[k]? = some v) : (lft xs p (k + 1))[k]? = some v := by
  have hk := (List.getElem?_eq_some_iff.mp h).1
  unfold lft
  rw [List.getElem?_append_left (by rw [List.length_take]; omega), List.getElem?_take, if_pos (by omega)]
  exact h
theorem lft_erase {xs : List Nat} {p : Nat → Bool} {k v : Nat} (h : xs[k]? = some v) (hp : p v = true) : (lft xs p (k + 1)).eraseIdx k = lft xs p k := by
  have hk := (List.getElem?_eq_some_iff.mp h).1
  unfold lft
  rw [take_erase xs _ k hk, filt_step xs (fun v => !p v) h, if_neg (by simp [hp])]
theorem lft_keep {xs : List Nat} {p : Nat → Bool} {k v : Nat} (h : xs[k]? = some v) (hp : p v = false) : lft xs p (k + 1) = lft xs p k := by
  unfold lft
  rw [filt_step xs (fun v => !p v) h, if_pos (by simp [hp]), take_step xs _ h]
section CLS9
variable {l : Launch} {D : va_G} {kA : Nat → ClassId} {b t0 : Nat} {X : Mm}
set_option maxHeartbeats 2000000 in
set_option maxRecDepth 20000 in
theorem c_X9_leaveRunning (hl : l.stackTraces = false) {y x a d c : Nat} {xs : List Nat} (hKy : gK X y = 11) (ha : gP X 645 y = some a) (h : LI t0 X a xs d c) (hda : d ≠ a) : Ct l D kA b t0 yX9_leaveRunning cX9_leaveRunning 3 none 3 94 [rv (some y), rv (some x)] X 0 0 (fun v Y => v = none ∧ LI t0 Y a (xs.filter (fun v => !(v == x))) d c ∧ gK Y = gK X ∧ Fr X Y (fun q => q = a ∨ q = d)) (pF) := by
  refine Ct_mk hl (by decide) (Nat.le_of_ble_eq_true rfl) rfl ?_
  intro p9 e9 s9 m9 args9 below9 meth9 c9 C hr hx0
  have hle : xs.length ≤ 1000 := Nat.le_trans h.2.2.2.2.2.1 h.2.2.2.2.2.2.1
  refine V_aload_n C dX9_leaveRunning_0 rfl ?_
  refine V_getP C cl10 fX9_28 (r := some a) hKy ha dX9_leaveRunning_1 ?_
  refine V_callV1 C (As := []) (L_size hl h) kX9_63 h.1 rfl rfl (Nat.le_of_ble_eq_true rfl) ⟨Nat.le_of_ble_eq_true rfl, Nat.le_of_ble_eq_true rfl⟩ ⟨Nat.le_of_ble_eq_true rfl, Nat.le_of_ble_eq_true rfl⟩ dX9_leaveRunning_4 ?_
  refine V_iconst C dX9_leaveRunning_7 ?_
  refine V_isub C dX9_leaveRunning_8 ?_
  refine V_istore_n C dX9_leaveRunning_9 (by decide) rfl ?_
  refine V_while C (St := Nat × Mm) (f := fun z => z.2) (g := fun z => [some (rv (some y)), some (rv (some x)), some (iv ((z.1 : Int) - 1))]) (cs := fun _ => 0) (ss := fun _ => 0) (μ := fun z => z.1) (I := fun z => z.1 ≤ xs.length ∧ LI t0 z.2 a (lft xs (fun v => v == x) z.1) d c ∧ gK z.2 = gK X ∧ Fr X z.2 (fun q => q = a ∨ q = d)) (x0 := (xs.length, X)) rfl rfl rfl rfl ⟨Nat.le_refl _, by unfold lft; rw [List.take_length, List.drop_length]; simpa using h, rfl, Fr.rf _ _⟩ ?_
  rintro ⟨k, Z⟩ ⟨hk, hL, hK, hF⟩ ih
  dsimp only at hk hL hK hF ih ⊢
  have hy := hF y (by omega) (fun z => by rcases z with z | z <;> (have := h.1; have := h.2.2.2.2.1; subst z; omega))
  have hKy2 : gK Z y = 11 := hy.1.trans hKy
  have hra : gP Z 645 y = some a := (hy.2.2.1 645).trans ha
  refine V_iload_n C dX9_leaveRunning_10 rfl ?_
  refine V_if_lt C dX9_leaveRunning_11 (by omega) (fun h11 => ?_) (fun h11 => ?_)
  · obtain rfl : k = 0 := by omega
    exact V_vret C (by omega) (by omega) ⟨rfl, hL, hK, hF⟩ hr dX9_leaveRunning_41
  · obtain ⟨j, rfl⟩ : ∃ j, k = j + 1 := ⟨k - 1, by omega⟩
    obtain ⟨q, hq⟩ : ∃ q, xs[j]? = some q := ⟨xs[j]'(by omega), List.getElem?_eq_getElem (by omega)⟩
    refine V_aload_n C dX9_leaveRunning_14 rfl ?_
    refine V_getP C cl10 fX9_28 (r := some a) hKy2 hra dX9_leaveRunning_15 ?_
    refine V_iload_n C dX9_leaveRunning_18 rfl ?_
    refine V_callV1 C (As := [_]) (L_get hl hL (lft_get hq) (by omega)) kX9_283 hL.1 rfl rfl (Nat.le_of_ble_eq_true rfl) ⟨Nat.le_of_ble_eq_true rfl, Nat.le_of_ble_eq_true rfl⟩ ⟨Nat.le_of_ble_eq_true rfl, Nat.le_of_ble_eq_true rfl⟩ dX9_leaveRunning_19 ?_
    refine V_aload_n C dX9_leaveRunning_22 rfl ?_
    refine V_acmp_ne C dX9_leaveRunning_23  (fun h23 => ?_) (fun h23 => ?_)
    · refine V_iinc C dX9_leaveRunning_35 (by decide) rfl rfl ?_
      refine V_goto C dX9_leaveRunning_38 ?_
      first | (have h8 := ih (j, Y) ⟨by omega, by rw [← lft_erase (p := fun v => v == x) hq (by show (q == x) = true; rw [Option.some.inj h23]; exact beq_self_eq_true x)]; exact hL2, hK2.trans hK, hF.tr hF2 (fun q hq => by rw [hK]; exact hq)⟩ (by show j < j + 1; omega); rw [show ((j + 1 : Nat) : Int) - 1 + -1 = (j : Int) - 1 by omega]; exact h8) | (have h8 := ih (j, Z) ⟨by omega, by rw [← lft_keep (p := fun v => v == x) hq (by show (q == x) = false; exact beq_false_of_ne (fun z => h23 (by rw [z])))]; exact hL, hK, hF⟩ (by show j < j + 1; omega); rw [show ((j + 1 : Nat) : Int) - 1 + -1 = (j : Int) - 1 by omega]; exact h8)
    · refine V_aload_n C dX9_leaveRunning_26 rfl ?_
      refine V_getP C cl10 fX9_28 (r := some a) hKy2 hra dX9_leaveRunning_27 ?_
      refine V_iload_n C dX9_leaveRunning_30 rfl ?_
      refine V_callV C (As := [_]) (L_remove hl hL (lft_get hq) (by omega) hda) kX9_327 hL.1 rfl rfl (Nat.le_of_ble_eq_true rfl) ⟨Nat.le_of_ble_eq_true rfl, Nat.le_of_ble_eq_true rfl⟩ ⟨(by first | exact Nat.le_of_ble_eq_true rfl | (dsimp only; omega)), (by first | exact Nat.le_of_ble_eq_true rfl | (dsimp only; omega))⟩ dX9_leaveRunning_31 (fun _ _ h => h.elim) (fun v9 Y hp => ?_)
      obtain ⟨rfl, hL2, hK2, hF2⟩ := hp
      refine V_pop C dX9_leaveRunning_34 rfl ?_
      refine V_iinc C dX9_leaveRunning_35 (by decide) rfl rfl ?_
      refine V_goto C dX9_leaveRunning_38 ?_
      first | (have h8 := ih (j, Y) ⟨by omega, by rw [← lft_erase (p := fun v => v == x) hq (by show (q == x) = true; rw [Option.some.inj h23]; exact beq_self_eq_true x)]; exact hL2, hK2.trans hK, hF.tr hF2 (fun q hq => by rw [hK]; exact hq)⟩ (by show j < j + 1; omega); rw [show ((j + 1 : Nat) : Int) - 1 + -1 = (j : Int) - 1 by omega]; exact h8) | (have h8 := ih (j, Z) ⟨by omega, by rw [← lft_keep (p := fun v => v == x) hq (by show (q == x) = false; exact beq_false_of_ne (fun z => h23 (by rw [z])))]; exact hL, hK, hF⟩ (by show j < j + 1; omega); rw [show ((j + 1 : Nat) : Int) - 1 + -1 = (j : Int) - 1 by omega]; exact h8)
end CLS9
