/-! the class: what is asked by number; settings; who owes -/
def oweC (X : Mm) (k f g : Nat) (dk bg bf c sh : Int) : Mm := if f = g then sI (sI X 196 k (dk + c)) 257 g (bg + c) else sI (sI (sI (sI X 196 k (dk + c)) 257 g (bg + c)) 257 g (bg + c - sh)) 257 f (bf + sh)
section CLS5
variable {l : Launch} {D : va_G} {kA : Nat → ClassId} {b t0 : Nat} {X : Mm}
set_option maxHeartbeats 2000000 in
set_option maxRecDepth 20000 in
theorem c_X9_firmAt (hl : l.stackTraces = false) {y a d c : Nat} {xs : List Nat} {z : Int} (hKy : gK X y = 11) (ha : gP X 640 y = some a) (h : LI t0 X a xs d c) (hxs : ∀ v ∈ xs, gK X v = 5) (hz : rng z) : Ct l D kA b t0 yX9_firmAt cX9_firmAt 2 (some (FieldType.object "ChargeYard$Firm")) 6 90 [rv (some y), iv z] X 1 6 (fun v Y => ∃ w, v = some (rv (some w)) ∧ Y = X ∧ xs[z.toNat]? = some w ∧ 0 ≤ z ∧ z < xs.length) (fun E Y => E = "java/lang/IndexOutOfBoundsException" ∧ Y = X ∧ ¬ (0 ≤ z ∧ z < xs.length)) := by
  refine Ct_mk hl (by decide) (Nat.le_of_ble_eq_true rfl) rfl ?_
  intro p9 e9 s9 m9 args9 below9 meth9 c9 C hr hx0
  refine V_iload_n C dX9_firmAt_0 rfl ?_
  refine V_if_lt C dX9_firmAt_1 hz (fun h1 => ?_) (fun h1 => ?_)
  · exact V_throwW C tX9_280 hx0 dX9_firmAt_15.1 dX9_firmAt_18.1 dX9_firmAt_19.1 dX9_firmAt_22.1 dX9_firmAt_25.1 (Nat.le_of_ble_eq_true rfl) (Nat.le_of_ble_eq_true rfl) (by first | exact Nat.le_of_ble_eq_true rfl | (dsimp only; omega)) (by first | exact Nat.le_of_ble_eq_true rfl | (dsimp only; omega)) (by omega) (by omega) ⟨rfl, rfl, by omega⟩
  · refine V_iload_n C dX9_firmAt_4 rfl ?_
    refine V_aload_n C dX9_firmAt_5 rfl ?_
    refine V_getP C cl10 fX9_10 (r := some a) hKy ha dX9_firmAt_6 ?_
    refine V_callV1 C (As := []) (L_size hl h) kX9_63 h.1 rfl rfl (Nat.le_of_ble_eq_true rfl) ⟨Nat.le_of_ble_eq_true rfl, Nat.le_of_ble_eq_true rfl⟩ ⟨Nat.le_of_ble_eq_true rfl, Nat.le_of_ble_eq_true rfl⟩ dX9_firmAt_9 ?_
    refine V_icmp_lt C dX9_firmAt_12 hz (by have := h.2.2.2.2.2; omega) (fun h12 => ?_) (fun h12 => ?_)
    · obtain ⟨w, hw⟩ : ∃ w, xs[z.toNat]? = some w := ⟨xs[z.toNat]'(by omega), List.getElem?_eq_getElem (by omega)⟩
      refine V_aload_n C dX9_firmAt_26 rfl ?_
      refine V_getP C cl10 fX9_10 (r := some a) hKy ha dX9_firmAt_27 ?_
      refine V_iload_n C dX9_firmAt_30 rfl ?_
      refine V_callV1 C (As := [_]) (L_get hl h hw (show z = ((z.toNat : Nat) : Int) by omega)) kX9_283 h.1 rfl rfl (Nat.le_of_ble_eq_true rfl) ⟨Nat.le_of_ble_eq_true rfl, Nat.le_of_ble_eq_true rfl⟩ ⟨Nat.le_of_ble_eq_true rfl, Nat.le_of_ble_eq_true rfl⟩ dX9_firmAt_31 ?_
      refine V_cast C cl4 cc_RX9_47 (hxs w (List.mem_of_getElem? hw)) dX9_firmAt_34 ?_
      exact V_aret C (by omega) (by omega) ⟨w, rfl, rfl, hw, by omega, by omega⟩ hr (Or.inl ⟨_, rfl⟩) dX9_firmAt_37
    · exact V_throwW C tX9_280 hx0 dX9_firmAt_15.1 dX9_firmAt_18.1 dX9_firmAt_19.1 dX9_firmAt_22.1 dX9_firmAt_25.1 (Nat.le_of_ble_eq_true rfl) (Nat.le_of_ble_eq_true rfl) (by first | exact Nat.le_of_ble_eq_true rfl | (dsimp only; omega)) (by first | exact Nat.le_of_ble_eq_true rfl | (dsimp only; omega)) (by omega) (by omega) ⟨rfl, rfl, by omega⟩
set_option maxHeartbeats 2000000 in
set_option maxRecDepth 20000 in
theorem c_X9_socketAt (hl : l.stackTraces = false) {y a d c : Nat} {xs : List Nat} {z : Int} (hKy : gK X y = 11) (ha : gP X 641 y = some a) (h : LI t0 X a xs d c) (hxs : ∀ v ∈ xs, gK X v = 7) (hz : rng z) : Ct l D kA b t0 yX9_socketAt cX9_socketAt 2 (some (FieldType.object "ChargeYard$Socket")) 6 90 [rv (some y), iv z] X 1 6 (fun v Y => ∃ w, v = some (rv (some w)) ∧ Y = X ∧ xs[z.toNat]? = some w ∧ 0 ≤ z ∧ z < xs.length) (fun E Y => E = "java/lang/IndexOutOfBoundsException" ∧ Y = X ∧ ¬ (0 ≤ z ∧ z < xs.length)) := by
  refine Ct_mk hl (by decide) (Nat.le_of_ble_eq_true rfl) rfl ?_
  intro p9 e9 s9 m9 args9 below9 meth9 c9 C hr hx0
  refine V_iload_n C dX9_socketAt_0 rfl ?_
  refine V_if_lt C dX9_socketAt_1 hz (fun h1 => ?_) (fun h1 => ?_)
  · exact V_throwW C tX9_287 hx0 dX9_socketAt_15.1 dX9_socketAt_18.1 dX9_socketAt_19.1 dX9_socketAt_22.1 dX9_socketAt_25.1 (Nat.le_of_ble_eq_true rfl) (Nat.le_of_ble_eq_true rfl) (by first | exact Nat.le_of_ble_eq_true rfl | (dsimp only; omega)) (by first | exact Nat.le_of_ble_eq_true rfl | (dsimp only; omega)) (by omega) (by omega) ⟨rfl, rfl, by omega⟩
  · refine V_iload_n C dX9_socketAt_4 rfl ?_
    refine V_aload_n C dX9_socketAt_5 rfl ?_
    refine V_getP C cl10 fX9_16 (r := some a) hKy ha dX9_socketAt_6 ?_
    refine V_callV1 C (As := []) (L_size hl h) kX9_63 h.1 rfl rfl (Nat.le_of_ble_eq_true rfl) ⟨Nat.le_of_ble_eq_true rfl, Nat.le_of_ble_eq_true rfl⟩ ⟨Nat.le_of_ble_eq_true rfl, Nat.le_of_ble_eq_true rfl⟩ dX9_socketAt_9 ?_
    refine V_icmp_lt C dX9_socketAt_12 hz (by have := h.2.2.2.2.2; omega) (fun h12 => ?_) (fun h12 => ?_)
    · obtain ⟨w, hw⟩ : ∃ w, xs[z.toNat]? = some w := ⟨xs[z.toNat]'(by omega), List.getElem?_eq_getElem (by omega)⟩
      refine V_aload_n C dX9_socketAt_26 rfl ?_
      refine V_getP C cl10 fX9_16 (r := some a) hKy ha dX9_socketAt_27 ?_
      refine V_iload_n C dX9_socketAt_30 rfl ?_
      refine V_callV1 C (As := [_]) (L_get hl h hw (show z = ((z.toNat : Nat) : Int) by omega)) kX9_283 h.1 rfl rfl (Nat.le_of_ble_eq_true rfl) ⟨Nat.le_of_ble_eq_true rfl, Nat.le_of_ble_eq_true rfl⟩ ⟨Nat.le_of_ble_eq_true rfl, Nat.le_of_ble_eq_true rfl⟩ dX9_socketAt_31 ?_
      refine V_cast C cl6 cc_RX9_71 (hxs w (List.mem_of_getElem? hw)) dX9_socketAt_34 ?_
      exact V_aret C (by omega) (by omega) ⟨w, rfl, rfl, hw, by omega, by omega⟩ hr (Or.inl ⟨_, rfl⟩) dX9_socketAt_37
    · exact V_throwW C tX9_287 hx0 dX9_socketAt_15.1 dX9_socketAt_18.1 dX9_socketAt_19.1 dX9_socketAt_22.1 dX9_socketAt_25.1 (Nat.le_of_ble_eq_true rfl) (Nat.le_of_ble_eq_true rfl) (by first | exact Nat.le_of_ble_eq_true rfl | (dsimp only; omega)) (by first | exact Nat.le_of_ble_eq_true rfl | (dsimp only; omega)) (by omega) (by omega) ⟨rfl, rfl, by omega⟩
set_option maxHeartbeats 2000000 in
set_option maxRecDepth 20000 in
theorem c_X9_carAt (hl : l.stackTraces = false) {y a d c : Nat} {xs : List Nat} {z : Int} (hKy : gK X y = 11) (ha : gP X 642 y = some a) (h : LI t0 X a xs d c) (hxs : ∀ v ∈ xs, gK X v = 3) (hz : rng z) : Ct l D kA b t0 yX9_carAt cX9_carAt 2 (some (FieldType.object "ChargeYard$Car")) 6 90 [rv (some y), iv z] X 1 6 (fun v Y => ∃ w, v = some (rv (some w)) ∧ Y = X ∧ xs[z.toNat]? = some w ∧ 0 ≤ z ∧ z < xs.length) (fun E Y => E = "java/lang/IndexOutOfBoundsException" ∧ Y = X ∧ ¬ (0 ≤ z ∧ z < xs.length)) := by
  refine Ct_mk hl (by decide) (Nat.le_of_ble_eq_true rfl) rfl ?_
  intro p9 e9 s9 m9 args9 below9 meth9 c9 C hr hx0
  refine V_iload_n C dX9_carAt_0 rfl ?_
  refine V_if_lt C dX9_carAt_1 hz (fun h1 => ?_) (fun h1 => ?_)
  · exact V_throwW C tX9_289 hx0 dX9_carAt_15.1 dX9_carAt_18.1 dX9_carAt_19.1 dX9_carAt_22.1 dX9_carAt_25.1 (Nat.le_of_ble_eq_true rfl) (Nat.le_of_ble_eq_true rfl) (by first | exact Nat.le_of_ble_eq_true rfl | (dsimp only; omega)) (by first | exact Nat.le_of_ble_eq_true rfl | (dsimp only; omega)) (by omega) (by omega) ⟨rfl, rfl, by omega⟩
  · refine V_iload_n C dX9_carAt_4 rfl ?_
    refine V_aload_n C dX9_carAt_5 rfl ?_
    refine V_getP C cl10 fX9_19 (r := some a) hKy ha dX9_carAt_6 ?_
    refine V_callV1 C (As := []) (L_size hl h) kX9_63 h.1 rfl rfl (Nat.le_of_ble_eq_true rfl) ⟨Nat.le_of_ble_eq_true rfl, Nat.le_of_ble_eq_true rfl⟩ ⟨Nat.le_of_ble_eq_true rfl, Nat.le_of_ble_eq_true rfl⟩ dX9_carAt_9 ?_
    refine V_icmp_lt C dX9_carAt_12 hz (by have := h.2.2.2.2.2; omega) (fun h12 => ?_) (fun h12 => ?_)
    · obtain ⟨w, hw⟩ : ∃ w, xs[z.toNat]? = some w := ⟨xs[z.toNat]'(by omega), List.getElem?_eq_getElem (by omega)⟩
      refine V_aload_n C dX9_carAt_26 rfl ?_
      refine V_getP C cl10 fX9_19 (r := some a) hKy ha dX9_carAt_27 ?_
      refine V_iload_n C dX9_carAt_30 rfl ?_
      refine V_callV1 C (As := [_]) (L_get hl h hw (show z = ((z.toNat : Nat) : Int) by omega)) kX9_283 h.1 rfl rfl (Nat.le_of_ble_eq_true rfl) ⟨Nat.le_of_ble_eq_true rfl, Nat.le_of_ble_eq_true rfl⟩ ⟨Nat.le_of_ble_eq_true rfl, Nat.le_of_ble_eq_true rfl⟩ dX9_carAt_31 ?_
      refine V_cast C cl2 cc_RX9_80 (hxs w (List.mem_of_getElem? hw)) dX9_carAt_34 ?_
      exact V_aret C (by omega) (by omega) ⟨w, rfl, rfl, hw, by omega, by omega⟩ hr (Or.inl ⟨_, rfl⟩) dX9_carAt_37
    · exact V_throwW C tX9_289 hx0 dX9_carAt_15.1 dX9_carAt_18.1 dX9_carAt_19.1 dX9_carAt_22.1 dX9_carAt_25.1 (Nat.le_of_ble_eq_true rfl) (Nat.le_of_ble_eq_true rfl) (by first | exact Nat.le_of_ble_eq_true rfl | (dsimp only; omega)) (by first | exact Nat.le_of_ble_eq_true rfl | (dsimp only; omega)) (by omega) (by omega) ⟨rfl, rfl, by omega⟩
set_option maxHeartbeats 2000000 in
set_option maxRecDepth 20000 in
theorem c_X9_cardAt (hl : l.stackTraces = false) {y a d c : Nat} {xs : List Nat} {z : Int} (hKy : gK X y = 11) (ha : gP X 643 y = some a) (h : LI t0 X a xs d c) (hxs : ∀ v ∈ xs, gK X v = 4) (hz : rng z) : Ct l D kA b t0 yX9_cardAt cX9_cardAt 2 (some (FieldType.object "ChargeYard$Card")) 6 90 [rv (some y), iv z] X 1 6 (fun v Y => ∃ w, v = some (rv (some w)) ∧ Y = X ∧ xs[z.toNat]? = some w ∧ 0 ≤ z ∧ z < xs.length) (fun E Y => E = "java/lang/IndexOutOfBoundsException" ∧ Y = X ∧ ¬ (0 ≤ z ∧ z < xs.length)) := by
  refine Ct_mk hl (by decide) (Nat.le_of_ble_eq_true rfl) rfl ?_
  intro p9 e9 s9 m9 args9 below9 meth9 c9 C hr hx0
  refine V_iload_n C dX9_cardAt_0 rfl ?_
  refine V_if_lt C dX9_cardAt_1 hz (fun h1 => ?_) (fun h1 => ?_)
  · exact V_throwW C tX9_291 hx0 dX9_cardAt_15.1 dX9_cardAt_18.1 dX9_cardAt_19.1 dX9_cardAt_22.1 dX9_cardAt_25.1 (Nat.le_of_ble_eq_true rfl) (Nat.le_of_ble_eq_true rfl) (by first | exact Nat.le_of_ble_eq_true rfl | (dsimp only; omega)) (by first | exact Nat.le_of_ble_eq_true rfl | (dsimp only; omega)) (by omega) (by omega) ⟨rfl, rfl, by omega⟩
  · refine V_iload_n C dX9_cardAt_4 rfl ?_
    refine V_aload_n C dX9_cardAt_5 rfl ?_
    refine V_getP C cl10 fX9_22 (r := some a) hKy ha dX9_cardAt_6 ?_
    refine V_callV1 C (As := []) (L_size hl h) kX9_63 h.1 rfl rfl (Nat.le_of_ble_eq_true rfl) ⟨Nat.le_of_ble_eq_true rfl, Nat.le_of_ble_eq_true rfl⟩ ⟨Nat.le_of_ble_eq_true rfl, Nat.le_of_ble_eq_true rfl⟩ dX9_cardAt_9 ?_
    refine V_icmp_lt C dX9_cardAt_12 hz (by have := h.2.2.2.2.2; omega) (fun h12 => ?_) (fun h12 => ?_)
    · obtain ⟨w, hw⟩ : ∃ w, xs[z.toNat]? = some w := ⟨xs[z.toNat]'(by omega), List.getElem?_eq_getElem (by omega)⟩
      refine V_aload_n C dX9_cardAt_26 rfl ?_
      refine V_getP C cl10 fX9_22 (r := some a) hKy ha dX9_cardAt_27 ?_
      refine V_iload_n C dX9_cardAt_30 rfl ?_
      refine V_callV1 C (As := [_]) (L_get hl h hw (show z = ((z.toNat : Nat) : Int) by omega)) kX9_283 h.1 rfl rfl (Nat.le_of_ble_eq_true rfl) ⟨Nat.le_of_ble_eq_true rfl, Nat.le_of_ble_eq_true rfl⟩ ⟨Nat.le_of_ble_eq_true rfl, Nat.le_of_ble_eq_true rfl⟩ dX9_cardAt_31 ?_
      refine V_cast C cl3 cc_RX9_86 (hxs w (List.mem_of_getElem? hw)) dX9_cardAt_34 ?_
      exact V_aret C (by omega) (by omega) ⟨w, rfl, rfl, hw, by omega, by omega⟩ hr (Or.inl ⟨_, rfl⟩) dX9_cardAt_37
    · exact V_throwW C tX9_291 hx0 dX9_cardAt_15.1 dX9_cardAt_18.1 dX9_cardAt_19.1 dX9_cardAt_22.1 dX9_cardAt_25.1 (Nat.le_of_ble_eq_true rfl) (Nat.le_of_ble_eq_true rfl) (by first | exact Nat.le_of_ble_eq_true rfl | (dsimp only; omega)) (by first | exact Nat.le_of_ble_eq_true rfl | (dsimp only; omega)) (by omega) (by omega) ⟨rfl, rfl, by omega⟩
set_option maxHeartbeats 2000000 in
set_option maxRecDepth 20000 in
theorem c_X9_sessionAt (hl : l.stackTraces = false) {y a d c : Nat} {xs : List Nat} {z : Int} (hKy : gK X y = 11) (ha : gP X 644 y = some a) (h : LI t0 X a xs d c) (hxs : ∀ v ∈ xs, gK X v = 6) (hz : rng z) : Ct l D kA b t0 yX9_sessionAt cX9_sessionAt 2 (some (FieldType.object "ChargeYard$Session")) 6 90 [rv (some y), iv z] X 1 6 (fun v Y => ∃ w, v = some (rv (some w)) ∧ Y = X ∧ xs[z.toNat]? = some w ∧ 0 ≤ z ∧ z < xs.length) (fun E Y => E = "java/lang/IndexOutOfBoundsException" ∧ Y = X ∧ ¬ (0 ≤ z ∧ z < xs.length)) := by
  refine Ct_mk hl (by decide) (Nat.le_of_ble_eq_true rfl) rfl ?_
  intro p9 e9 s9 m9 args9 below9 meth9 c9 C hr hx0
  refine V_iload_n C dX9_sessionAt_0 rfl ?_
  refine V_if_lt C dX9_sessionAt_1 hz (fun h1 => ?_) (fun h1 => ?_)
  · exact V_throwW C tX9_293 hx0 dX9_sessionAt_15.1 dX9_sessionAt_18.1 dX9_sessionAt_19.1 dX9_sessionAt_22.1 dX9_sessionAt_25.1 (Nat.le_of_ble_eq_true rfl) (Nat.le_of_ble_eq_true rfl) (by first | exact Nat.le_of_ble_eq_true rfl | (dsimp only; omega)) (by first | exact Nat.le_of_ble_eq_true rfl | (dsimp only; omega)) (by omega) (by omega) ⟨rfl, rfl, by omega⟩
  · refine V_iload_n C dX9_sessionAt_4 rfl ?_
    refine V_aload_n C dX9_sessionAt_5 rfl ?_
    refine V_getP C cl10 fX9_25 (r := some a) hKy ha dX9_sessionAt_6 ?_
    refine V_callV1 C (As := []) (L_size hl h) kX9_63 h.1 rfl rfl (Nat.le_of_ble_eq_true rfl) ⟨Nat.le_of_ble_eq_true rfl, Nat.le_of_ble_eq_true rfl⟩ ⟨Nat.le_of_ble_eq_true rfl, Nat.le_of_ble_eq_true rfl⟩ dX9_sessionAt_9 ?_
    refine V_icmp_lt C dX9_sessionAt_12 hz (by have := h.2.2.2.2.2; omega) (fun h12 => ?_) (fun h12 => ?_)
    · obtain ⟨w, hw⟩ : ∃ w, xs[z.toNat]? = some w := ⟨xs[z.toNat]'(by omega), List.getElem?_eq_getElem (by omega)⟩
      refine V_aload_n C dX9_sessionAt_26 rfl ?_
      refine V_getP C cl10 fX9_25 (r := some a) hKy ha dX9_sessionAt_27 ?_
      refine V_iload_n C dX9_sessionAt_30 rfl ?_
      refine V_callV1 C (As := [_]) (L_get hl h hw (show z = ((z.toNat : Nat) : Int) by omega)) kX9_283 h.1 rfl rfl (Nat.le_of_ble_eq_true rfl) ⟨Nat.le_of_ble_eq_true rfl, Nat.le_of_ble_eq_true rfl⟩ ⟨Nat.le_of_ble_eq_true rfl, Nat.le_of_ble_eq_true rfl⟩ dX9_sessionAt_31 ?_
      refine V_cast C cl5 cc_RX9_161 (hxs w (List.mem_of_getElem? hw)) dX9_sessionAt_34 ?_
      exact V_aret C (by omega) (by omega) ⟨w, rfl, rfl, hw, by omega, by omega⟩ hr (Or.inl ⟨_, rfl⟩) dX9_sessionAt_37
    · exact V_throwW C tX9_293 hx0 dX9_sessionAt_15.1 dX9_sessionAt_18.1 dX9_sessionAt_19.1 dX9_sessionAt_22.1 dX9_sessionAt_25.1 (Nat.le_of_ble_eq_true rfl) (Nat.le_of_ble_eq_true rfl) (by first | exact Nat.le_of_ble_eq_true rfl | (dsimp only; omega)) (by first | exact Nat.le_of_ble_eq_true rfl | (dsimp only; omega)) (by omega) (by omega) ⟨rfl, rfl, by omega⟩
set_option maxHeartbeats 2000000 in
set_option maxRecDepth 20000 in
theorem c_X9_setLimit (hl : l.stackTraces = false) {y : Nat} {z o : Int} (hKy : gK X y = 11) (ho : gI X 647 y = o) (hz : rng z) : Ct l D kA b t0 yX9_setLimit cX9_setLimit 3 (some FieldType.int) 7 112 [rv (some y), iv z] X 1 6 (fun v Y => v = some (iv o) ∧ Y = sI X 647 y z ∧ (0 ≤ z ∧ z ≤ 200000)) (fun E Y => E = "java/lang/IllegalArgumentException" ∧ Y = X ∧ ¬ (0 ≤ z ∧ z ≤ 200000)) := by
  refine Ct_mk hl (by decide) (Nat.le_of_ble_eq_true rfl) rfl ?_
  intro p9 e9 s9 m9 args9 below9 meth9 c9 C hr hx0
  refine V_iload_n C dX9_setLimit_0 rfl ?_
  refine V_iconst C dX9_setLimit_1 ?_
  refine V_ldcw C dX9_setLimit_2 qX9_299 ?_
  refine V_callS C (As := [_, _, _]) (c_X9_needWithin hl (z := z) (lo := 0) (hi := 200000) hz (by decide) (by decide)) kX9_59 rfl rfl (Nat.le_of_ble_eq_true rfl) ⟨Nat.le_of_ble_eq_true rfl, Nat.le_of_ble_eq_true rfl⟩ ⟨(by first | exact Nat.le_of_ble_eq_true rfl | (dsimp only; omega)), (by first | exact Nat.le_of_ble_eq_true rfl | (dsimp only; omega))⟩ dX9_setLimit_5 (fun E Y hp => ?_) (fun v5 Y hp => ?_)
  · obtain ⟨rfl, rfl, hn⟩ := hp
    exact VX_out C hx0 (by omega) (by omega) ⟨rfl, rfl, by omega⟩
  obtain ⟨rfl, rfl, hw5⟩ := hp
  refine V_aload_n C dX9_setLimit_8 rfl ?_
  refine V_getIx C cl10 fX9_35 (x := o) hKy ho dX9_setLimit_9 ?_
  refine V_istore_n C dX9_setLimit_12 (by decide) rfl ?_
  refine V_aload_n C dX9_setLimit_13 rfl ?_
  refine V_iload_n C dX9_setLimit_14 rfl ?_
  refine V_putI C cl10 fX9_35 (Or.inl rfl) rfl hKy dX9_setLimit_15 ?_
  refine V_iload_n C dX9_setLimit_18 rfl ?_
  exact V_iret C (by omega) (by omega) ⟨rfl, rfl, by omega⟩ hr dX9_setLimit_19
set_option maxHeartbeats 2000000 in
set_option maxRecDepth 20000 in
theorem c_X9_setSun (hl : l.stackTraces = false) {y : Nat} {z o : Int} (hKy : gK X y = 11) (ho : gI X 648 y = o) (hz : rng z) : Ct l D kA b t0 yX9_setSun cX9_setSun 3 (some FieldType.int) 7 112 [rv (some y), iv z] X 1 6 (fun v Y => v = some (iv o) ∧ Y = sI X 648 y z ∧ (0 ≤ z ∧ z ≤ 100000)) (fun E Y => E = "java/lang/IllegalArgumentException" ∧ Y = X ∧ ¬ (0 ≤ z ∧ z ≤ 100000)) := by
  refine Ct_mk hl (by decide) (Nat.le_of_ble_eq_true rfl) rfl ?_
  intro p9 e9 s9 m9 args9 below9 meth9 c9 C hr hx0
  refine V_iload_n C dX9_setSun_0 rfl ?_
  refine V_iconst C dX9_setSun_1 ?_
  refine V_ldcw C dX9_setSun_2 qX9_300 ?_
  refine V_callS C (As := [_, _, _]) (c_X9_needWithin hl (z := z) (lo := 0) (hi := 100000) hz (by decide) (by decide)) kX9_59 rfl rfl (Nat.le_of_ble_eq_true rfl) ⟨Nat.le_of_ble_eq_true rfl, Nat.le_of_ble_eq_true rfl⟩ ⟨(by first | exact Nat.le_of_ble_eq_true rfl | (dsimp only; omega)), (by first | exact Nat.le_of_ble_eq_true rfl | (dsimp only; omega))⟩ dX9_setSun_5 (fun E Y hp => ?_) (fun v5 Y hp => ?_)
  · obtain ⟨rfl, rfl, hn⟩ := hp
    exact VX_out C hx0 (by omega) (by omega) ⟨rfl, rfl, by omega⟩
  obtain ⟨rfl, rfl, hw5⟩ := hp
  refine V_aload_n C dX9_setSun_8 rfl ?_
  refine V_getIx C cl10 fX9_38 (x := o) hKy ho dX9_setSun_9 ?_
  refine V_istore_n C dX9_setSun_12 (by decide) rfl ?_
  refine V_aload_n C dX9_setSun_13 rfl ?_
  refine V_iload_n C dX9_setSun_14 rfl ?_
  refine V_putI C cl10 fX9_38 (Or.inl rfl) rfl hKy dX9_setSun_15 ?_
  refine V_iload_n C dX9_setSun_18 rfl ?_
  exact V_iret C (by omega) (by omega) ⟨rfl, rfl, by omega⟩ hr dX9_setSun_19
set_option maxHeartbeats 2000000 in
set_option maxRecDepth 20000 in
theorem c_X9_setDegrees (hl : l.stackTraces = false) {y : Nat} {z o : Int} (hKy : gK X y = 11) (ho : gI X 649 y = o) (hz : rng z) : Ct l D kA b t0 yX9_setDegrees cX9_setDegrees 3 (some FieldType.int) 7 112 [rv (some y), iv z] X 1 6 (fun v Y => v = some (iv o) ∧ Y = sI X 649 y z ∧ (-50 ≤ z ∧ z ≤ 50)) (fun E Y => E = "java/lang/IllegalArgumentException" ∧ Y = X ∧ ¬ (-50 ≤ z ∧ z ≤ 50)) := by
  refine Ct_mk hl (by decide) (Nat.le_of_ble_eq_true rfl) rfl ?_
  intro p9 e9 s9 m9 args9 below9 meth9 c9 C hr hx0
  refine V_iload_n C dX9_setDegrees_0 rfl ?_
  refine V_bipush C dX9_setDegrees_1 (by decide) ?_
  refine V_bipush C dX9_setDegrees_3 (by decide) ?_
  refine V_callS C (As := [_, _, _]) (c_X9_needWithin hl (z := z) (lo := -50) (hi := 50) hz (by decide) (by decide)) kX9_59 rfl rfl (Nat.le_of_ble_eq_true rfl) ⟨Nat.le_of_ble_eq_true rfl, Nat.le_of_ble_eq_true rfl⟩ ⟨(by first | exact Nat.le_of_ble_eq_true rfl | (dsimp only; omega)), (by first | exact Nat.le_of_ble_eq_true rfl | (dsimp only; omega))⟩ dX9_setDegrees_5 (fun E Y hp => ?_) (fun v5 Y hp => ?_)
  · obtain ⟨rfl, rfl, hn⟩ := hp
    exact VX_out C hx0 (by omega) (by omega) ⟨rfl, rfl, by omega⟩
  obtain ⟨rfl, rfl, hw5⟩ := hp
  refine V_aload_n C dX9_setDegrees_8 rfl ?_
  refine V_getIx C cl10 fX9_41 (x := o) hKy ho dX9_setDegrees_9 ?_
  refine V_istore_n C dX9_setDegrees_12 (by decide) rfl ?_
  refine V_aload_n C dX9_setDegrees_13 rfl ?_
  refine V_iload_n C dX9_setDegrees_14 rfl ?_
  refine V_putI C cl10 fX9_41 (Or.inl rfl) rfl hKy dX9_setDegrees_15 ?_
  refine V_iload_n C dX9_setDegrees_18 rfl ?_
  exact V_iret C (by omega) (by omega) ⟨rfl, rfl, by omega⟩ hr dX9_setDegrees_19
set_option maxHeartbeats 2000000 in
set_option maxRecDepth 20000 in
theorem c_X9_owe (hl : l.stackTraces = false) {a s k f g : Nat} {dk bg bf x sh : Int} (hKa : gK X a = 6) (hKs : gK X s = 7) (hKk : gK X k = 4) (hKf : gK X f = 5) (hKg : gK X g = 5) (hs : gP X 320 a = some s) (hk : gP X 322 a = some k) (hf : gP X 385 s = some f) (hg : gP X 192 k = some g) (hdk : gI X 196 k = dk) (hbg : gI X 257 g = bg) (hbf : gI X 257 f = bf) : Ct l D kA b t0 yX9_owe cX9_owe 3 none 1 20 [rv (some a), iv x, iv sh] X 0 0 (pD none (oweC X k f g dk bg bf x sh)) (pF) := by
  refine Ct_mk hl (by decide) (Nat.le_of_ble_eq_true rfl) rfl ?_
  intro p9 e9 s9 m9 args9 below9 meth9 c9 C hr hx0
  refine V_aload_n C dX9_owe_0 rfl ?_
  refine V_getP C cl5 fX9_340 (r := some k) hKa hk dX9_owe_1 ?_
  refine V_dup C dX9_owe_4 rfl ?_
  refine V_getIx C cl3 fX9_272 (x := dk) hKk hdk dX9_owe_5 ?_
  refine V_iload_n C dX9_owe_8 rfl ?_
  refine V_iadd C dX9_owe_9 ?_
  refine V_putI C cl3 fX9_272 (Or.inl rfl) rfl hKk dX9_owe_10 ?_
  refine V_aload_n C dX9_owe_13 rfl ?_
  refine V_getP C cl5 fX9_340 (r := some k) hKa hk dX9_owe_14 ?_
  refine V_getP C cl3 fX9_388 (r := some g) hKk hg dX9_owe_17 ?_
  refine V_dup C dX9_owe_20 rfl ?_
  refine V_getIx C cl4 fX9_275 (x := bg) hKg hbg dX9_owe_21 ?_
  refine V_iload_n C dX9_owe_24 rfl ?_
  refine V_iadd C dX9_owe_25 ?_
  refine V_putI C cl4 fX9_275 (Or.inl rfl) rfl hKg dX9_owe_26 ?_
  refine V_aload_n C dX9_owe_29 rfl ?_
  refine V_callV1 C (As := []) (c_X4_isOfTwoFirms hl hKa hKs hKk hs hk hf hg) kX9_392 hKa rfl rfl (Nat.le_of_ble_eq_true rfl) ⟨Nat.le_of_ble_eq_true rfl, Nat.le_of_ble_eq_true rfl⟩ ⟨Nat.le_of_ble_eq_true rfl, Nat.le_of_ble_eq_true rfl⟩ dX9_owe_30 ?_
  refine V_if_eq C dX9_owe_33 (by split <;> decide) (fun h33 => ?_) (fun h33 => ?_)
  · exact V_vret C (by omega) (by omega) ⟨rfl, by unfold oweC; first | (rw [if_neg hfg]; done) | (rw [if_pos (Classical.byContradiction fun z => by rw [if_neg z] at h33; exact absurd h33 (by decide))]; done)⟩ hr dX9_owe_68
  · have hfg : f ≠ g := fun z => h33 (if_pos z)
    refine V_aload_n C dX9_owe_36 rfl ?_
    refine V_getP C cl5 fX9_340 (r := some k) hKa hk dX9_owe_37 ?_
    refine V_getP C cl3 fX9_388 (r := some g) hKk hg dX9_owe_40 ?_
    refine V_dup C dX9_owe_43 rfl ?_
    refine V_getIx C cl4 fX9_275 (x := (bg + x)) hKg (if_pos ⟨rfl, rfl⟩) dX9_owe_44 ?_
    refine V_iload_n C dX9_owe_47 rfl ?_
    refine V_isub C dX9_owe_48 ?_
    refine V_putI C cl4 fX9_275 (Or.inl rfl) rfl hKg dX9_owe_49 ?_
    refine V_aload_n C dX9_owe_52 rfl ?_
    refine V_getP C cl5 fX9_186 (r := some s) hKa hs dX9_owe_53 ?_
    refine V_getP C cl6 fX9_395 (r := some f) hKs hf dX9_owe_56 ?_
    refine V_dup C dX9_owe_59 rfl ?_
    refine V_getIx C cl4 fX9_275 (x := bf) hKf ((if_neg (fun z => hfg z.2)).trans ((if_neg (fun z => hfg z.2)).trans hbf)) dX9_owe_60 ?_
    refine V_iload_n C dX9_owe_63 rfl ?_
    refine V_iadd C dX9_owe_64 ?_
    refine V_putI C cl4 fX9_275 (Or.inl rfl) rfl hKf dX9_owe_65 ?_
    exact V_vret C (by omega) (by omega) ⟨rfl, by unfold oweC; first | (rw [if_neg hfg]; done) | (rw [if_pos (Classical.byContradiction fun z => by rw [if_neg z] at h33; exact absurd h33 (by decide))]; done)⟩ hr dX9_owe_68
set_option maxHeartbeats 2000000 in
set_option maxRecDepth 20000 in
theorem c_X4_billAll (hl : l.stackTraces = false) {s v p q cap md : Nat} {fm p0 p1 p2 p3 : Int} (hKs : gK X s = 6) (hKv : gK X v = 10) (hKp : gK X p = 9) (hv : gP X 324 s = some v) (hp : gP X 323 s = some p) (hfm : gI X 576 v = fm) (hq : gP X 577 v = some q) (hKq : gK X q = 20) (hN : gN X q = cap) (hmd : gI X 578 v = (md : Int)) (hmc : md ≤ cap) (hc9 : cap ≤ 20000) (hrow : ∀ i, i < md → 0 ≤ gA X q i ∧ gA X q i ≤ 12000001) (hm : 0 ≤ fm ∧ fm + md ≤ 20000) (hp0 : gI X 512 p = p0) (hp1 : gI X 513 p = p1) (hp2 : gI X 514 p = p2) (hp3 : gI X 515 p = p3) (hd : 0 ≤ (tkF (gA X q) fm 0 md (0, 0, 0, 0)).2.1 ∧ (tkF (gA X q) fm 0 md (0, 0, 0, 0)).2.1 ≤ 6000000) (hn : 0 ≤ (tkF (gA X q) fm 0 md (0, 0, 0, 0)).2.2.1 ∧ (tkF (gA X q) fm 0 md (0, 0, 0, 0)).2.2.1 ≤ 6000000) (hi : 0 ≤ (tkF (gA X q) fm 0 md (0, 0, 0, 0)).2.2.2 ∧ (tkF (gA X q) fm 0 md (0, 0, 0, 0)).2.2.2 ≤ 20000) (g0 : 0 ≤ p0 ∧ p0 ≤ 1000) (g1 : 0 ≤ p1 ∧ p1 ≤ 1000) (g2 : 0 ≤ p2 ∧ p2 ≤ 1000) (g3 : 0 ≤ p3 ∧ p3 ≤ 1000) : Ct l D kA b t0 yX4_billAll cX4_billAll 1 (some FieldType.int) 3 69 [rv (some s)] X 1 4 (fun v Y => v = some (iv (ceS (tkF (gA X q) fm 0 md (0, 0, 0, 0)).2.1 (tkF (gA X q) fm 0 md (0, 0, 0, 0)).2.2.1 (tkF (gA X q) fm 0 md (0, 0, 0, 0)).2.2.2 p1 p2 p3 p0)) ∧ ∃ r, gK X r = 0 ∧ b ≤ r ∧ Y = tlM (alO X r 8) r (tkF (gA X q) fm 0 md (0, 0, 0, 0))) (pF) := by
  refine Ct_mk hl (by decide) (Nat.le_of_ble_eq_true rfl) rfl ?_
  intro p9 e9 s9 m9 args9 below9 meth9 c9 C hr hx0
  refine V_aload_n C dX4_billAll_0 rfl ?_
  refine V_getP C cl5 fX4_67 (r := some v) hKs hv dX4_billAll_1 ?_
  refine V_callV C (As := []) (c_X8_ofAll hl hKv hfm hq hKq hN hmd hmc hc9 hrow hm) kX4_111 hKv rfl rfl (Nat.le_of_ble_eq_true rfl) ⟨Nat.le_of_ble_eq_true rfl, Nat.le_of_ble_eq_true rfl⟩ ⟨(by first | exact Nat.le_of_ble_eq_true rfl | (dsimp only; omega)), (by first | exact Nat.le_of_ble_eq_true rfl | (dsimp only; omega))⟩ dX4_billAll_4 (fun _ _ h => h.elim) (fun v9 Y hp9 => ?_)
  obtain ⟨r, hr0, hbr, rfl, rfl⟩ := hp9
  have hsr : s ≠ r := ne_of_0 hr0 (by omega)
  have hpr : p ≠ r := ne_of_0 hr0 (by omega)
  refine V_aload_n C dX4_billAll_7 rfl ?_
  refine V_getP C cl5 fX4_61 (r := some p) ((if_neg hsr).trans hKs) ((if_neg hsr).trans hp) dX4_billAll_8 ?_
  refine V_callV1 C (As := [_]) (c_X6_cents hl (t := (tkF (gA X q) fm 0 md (0, 0, 0, 0))) (if_pos rfl) ((if_neg hpr).trans hKp) (tlI_tlM _ _ _) ((if_neg hpr).trans hp0) ((if_neg hpr).trans hp1) ((if_neg hpr).trans hp2) ((if_neg hpr).trans hp3) hd hn hi g0 g1 g2 g3) kX4_105 (if_pos rfl) rfl rfl (Nat.le_of_ble_eq_true rfl) ⟨Nat.le_of_ble_eq_true rfl, Nat.le_of_ble_eq_true rfl⟩ ⟨Nat.le_of_ble_eq_true rfl, Nat.le_of_ble_eq_true rfl⟩ dX4_billAll_11 ?_
  exact V_iret C (by omega) (by omega) ⟨rfl, r, hr0, hbr, rfl⟩ hr dX4_billAll_14
end CLS5
