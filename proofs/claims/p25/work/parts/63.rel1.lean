/-! the class: calls that ask -/
/-- what a call leaves -/
def clR (t0 ao mo : Nat) (ad : Nat → Nat) (L : Ly) (Mr M2 : Mo) (Y : Mm) : Prop := ∃ L2 Z2, CX t0 ao mo ad L2 Y Z2 Mr ∧ ZM Z2 M2 ∧ lA L2 11 0 = lA L 11 0
section REL1
variable {l : Launch} {D : va_G} {kA : Nat → ClassId} {b t0 ao mo jj : Nat} {ad : Nat → Nat} {L : Ly} {X Y : Mm} {Z : Zs} {Mr M : Mo} {n : Nat}

theorem r_firmAt (hl : l.stackTraces = false) (h : CX t0 ao mo ad L X Z Mr) (z : zmX Z M) {i : Int} (hi : rng i) : Ct l D kA b t0 yX9_firmAt cX9_firmAt 2 (some (FieldType.object "ChargeYard$Firm")) 6 90 [rv (some (lA L 11 0)), iv i] X 1 6 (fun v Y => v = some (rv (some (lA L 5 i.toNat))) ∧ Y = X ∧ (0 ≤ i ∧ i < 3) ∧ i.toNat < yC Z 5) (fun E Y => E = "java/lang/IndexOutOfBoundsException" ∧ Y = X ∧ ¬ (0 ≤ i ∧ i < 3)) := by
  obtain ⟨hKy, ⟨ha0, ha1, ha2, ha3, ha4, ha5⟩, -⟩ := yd_C h z
  have hc := (show yC Z 5 = 3 from z.1.2.1)
  have e3 : (yC Z 5 = 3) := z.1.2.1
  have hx := z.2.1.1
  have hli := h.li (j := 0) (c := 5) (by have := z.1.2.2.2.2.2.2.2.2.2; omega) rfl hx
  skip
  refine Ct.weakx (c_X9_firmAt hl hKy ha0 hli (fun v hv => ?_) hi) ?_ ?_
  · obtain ⟨u, hu, rfl⟩ := List.mem_map.mp hv
    exact h.gk (by decide) (by have := List.mem_range.mp hu; omega)
  · rintro v Y ⟨w, rfl, rfl, hw, h1, h2⟩
    rw [List.length_map, List.length_range] at h2
    rw [List.getElem?_map, List.getElem?_range (by omega)] at hw
    cases hw
    exact ⟨rfl, rfl, by omega, by omega⟩
  · rintro E Y ⟨rfl, rfl, hn⟩
    rw [List.length_map, List.length_range] at hn
    exact ⟨rfl, rfl, by omega⟩
theorem r_socketAt (hl : l.stackTraces = false) (h : CX t0 ao mo ad L X Z Mr) (z : zmX Z M) {i : Int} (hi : rng i) : Ct l D kA b t0 yX9_socketAt cX9_socketAt 2 (some (FieldType.object "ChargeYard$Socket")) 6 90 [rv (some (lA L 11 0)), iv i] X 1 6 (fun v Y => v = some (rv (some (lA L 7 i.toNat))) ∧ Y = X ∧ (0 ≤ i ∧ i < M.1 6) ∧ i.toNat < yC Z 7) (fun E Y => E = "java/lang/IndexOutOfBoundsException" ∧ Y = X ∧ ¬ (0 ≤ i ∧ i < M.1 6)) := by
  obtain ⟨hKy, ⟨ha0, ha1, ha2, ha3, ha4, ha5⟩, -⟩ := yd_C h z
  have hc := z.1.2.2.1
  have e3 : (yC Z 5 = 3) := z.1.2.1
  have hx := z.2.1.2.1
  have hli := h.li (j := 1) (c := 7) (by have := z.1.2.2.2.2.2.2.2.2.2; omega) rfl hx
  skip
  refine Ct.weakx (c_X9_socketAt hl hKy ha1 hli (fun v hv => ?_) hi) ?_ ?_
  · obtain ⟨u, hu, rfl⟩ := List.mem_map.mp hv
    exact h.gk (by decide) (by have := List.mem_range.mp hu; omega)
  · rintro v Y ⟨w, rfl, rfl, hw, h1, h2⟩
    rw [List.length_map, List.length_range] at h2
    rw [List.getElem?_map, List.getElem?_range (by omega)] at hw
    cases hw
    exact ⟨rfl, rfl, by omega, by omega⟩
  · rintro E Y ⟨rfl, rfl, hn⟩
    rw [List.length_map, List.length_range] at hn
    exact ⟨rfl, rfl, by omega⟩
theorem r_carAt (hl : l.stackTraces = false) (h : CX t0 ao mo ad L X Z Mr) (z : zmX Z M) {i : Int} (hi : rng i) : Ct l D kA b t0 yX9_carAt cX9_carAt 2 (some (FieldType.object "ChargeYard$Car")) 6 90 [rv (some (lA L 11 0)), iv i] X 1 6 (fun v Y => v = some (rv (some (lA L 3 i.toNat))) ∧ Y = X ∧ (0 ≤ i ∧ i < M.1 13) ∧ i.toNat < yC Z 3) (fun E Y => E = "java/lang/IndexOutOfBoundsException" ∧ Y = X ∧ ¬ (0 ≤ i ∧ i < M.1 13)) := by
  obtain ⟨hKy, ⟨ha0, ha1, ha2, ha3, ha4, ha5⟩, -⟩ := yd_C h z
  have hc := z.1.2.2.2.1
  have e3 : (yC Z 5 = 3) := z.1.2.1
  have hx := z.2.1.2.2.1
  have hli := h.li (j := 2) (c := 3) (by have := z.1.2.2.2.2.2.2.2.2.2; omega) rfl hx
  skip
  refine Ct.weakx (c_X9_carAt hl hKy ha2 hli (fun v hv => ?_) hi) ?_ ?_
  · obtain ⟨u, hu, rfl⟩ := List.mem_map.mp hv
    exact h.gk (by decide) (by have := List.mem_range.mp hu; omega)
  · rintro v Y ⟨w, rfl, rfl, hw, h1, h2⟩
    rw [List.length_map, List.length_range] at h2
    rw [List.getElem?_map, List.getElem?_range (by omega)] at hw
    cases hw
    exact ⟨rfl, rfl, by omega, by omega⟩
  · rintro E Y ⟨rfl, rfl, hn⟩
    rw [List.length_map, List.length_range] at hn
    exact ⟨rfl, rfl, by omega⟩
theorem r_cardAt (hl : l.stackTraces = false) (h : CX t0 ao mo ad L X Z Mr) (z : zmX Z M) {i : Int} (hi : rng i) : Ct l D kA b t0 yX9_cardAt cX9_cardAt 2 (some (FieldType.object "ChargeYard$Card")) 6 90 [rv (some (lA L 11 0)), iv i] X 1 6 (fun v Y => v = some (rv (some (lA L 4 i.toNat))) ∧ Y = X ∧ (0 ≤ i ∧ i < M.1 17) ∧ i.toNat < yC Z 4) (fun E Y => E = "java/lang/IndexOutOfBoundsException" ∧ Y = X ∧ ¬ (0 ≤ i ∧ i < M.1 17)) := by
  obtain ⟨hKy, ⟨ha0, ha1, ha2, ha3, ha4, ha5⟩, -⟩ := yd_C h z
  have hc := z.1.2.2.2.2.1
  have e3 : (yC Z 5 = 3) := z.1.2.1
  have hx := z.2.1.2.2.2.1
  have hli := h.li (j := 3) (c := 4) (by have := z.1.2.2.2.2.2.2.2.2.2; omega) rfl hx
  skip
  refine Ct.weakx (c_X9_cardAt hl hKy ha3 hli (fun v hv => ?_) hi) ?_ ?_
  · obtain ⟨u, hu, rfl⟩ := List.mem_map.mp hv
    exact h.gk (by decide) (by have := List.mem_range.mp hu; omega)
  · rintro v Y ⟨w, rfl, rfl, hw, h1, h2⟩
    rw [List.length_map, List.length_range] at h2
    rw [List.getElem?_map, List.getElem?_range (by omega)] at hw
    cases hw
    exact ⟨rfl, rfl, by omega, by omega⟩
  · rintro E Y ⟨rfl, rfl, hn⟩
    rw [List.length_map, List.length_range] at hn
    exact ⟨rfl, rfl, by omega⟩
theorem r_sessionAt (hl : l.stackTraces = false) (h : CX t0 ao mo ad L X Z Mr) (z : zmX Z M) {i : Int} (hi : rng i) : Ct l D kA b t0 yX9_sessionAt cX9_sessionAt 2 (some (FieldType.object "ChargeYard$Session")) 6 90 [rv (some (lA L 11 0)), iv i] X 1 6 (fun v Y => v = some (rv (some (lA L 6 i.toNat))) ∧ Y = X ∧ (0 ≤ i ∧ i < M.1 30) ∧ i.toNat < yC Z 6) (fun E Y => E = "java/lang/IndexOutOfBoundsException" ∧ Y = X ∧ ¬ (0 ≤ i ∧ i < M.1 30)) := by
  obtain ⟨hKy, ⟨ha0, ha1, ha2, ha3, ha4, ha5⟩, -⟩ := yd_C h z
  have hc := z.1.2.2.2.2.2.1
  have e3 : (yC Z 5 = 3) := z.1.2.1
  have hx := z.2.1.2.2.2.2.1
  have hli := h.li (j := 4) (c := 6) (by have := z.1.2.2.2.2.2.2.2.2.2; omega) rfl hx
  skip
  refine Ct.weakx (c_X9_sessionAt hl hKy ha4 hli (fun v hv => ?_) hi) ?_ ?_
  · obtain ⟨u, hu, rfl⟩ := List.mem_map.mp hv
    exact h.gk (by decide) (by have := List.mem_range.mp hu; omega)
  · rintro v Y ⟨w, rfl, rfl, hw, h1, h2⟩
    rw [List.length_map, List.length_range] at h2
    rw [List.getElem?_map, List.getElem?_range (by omega)] at hw
    cases hw
    exact ⟨rfl, rfl, by omega, by omega⟩
  · rintro E Y ⟨rfl, rfl, hn⟩
    rw [List.length_map, List.length_range] at hn
    exact ⟨rfl, rfl, by omega⟩
set_option maxHeartbeats 2000000 in
set_option maxRecDepth 20000 in
theorem c_X9_charge (hl : l.stackTraces = false) (h : CX t0 ao mo ad L X Z Mr) (hZ : ZM Z M) (hI : Iv M jj) {q : Int} (hq : rng q) : Ct l D kA b t0 yX9_charge cX9_charge 2 (some FieldType.int) 7 111 [rv (some (lA L 11 0)), iv q] X 1 6 (fun v Y => ((chaS M q).1).1 0 = 0 ∧ v = some (iv ((chaS M q).2)) ∧ clR t0 ao mo ad L Mr ((chaS M q).1) Y) (fun E Y => ((E = "java/lang/IndexOutOfBoundsException" ∧ ((chaS M q).1).1 0 = 1)) ∧ clR t0 ao mo ad L Mr ((chaS M q).1) Y) := by
  refine Ct_mk hl (by decide) (Nat.le_of_ble_eq_true rfl) rfl ?_
  intro p9 e9 s9 m9 args9 below9 meth9 c9 C hr hx0
  obtain ⟨⟨zC, zL, zY, zF, zS, zA, zD, zE, zV⟩, zT, zW, zB⟩ := id hZ
  obtain ⟨hKy, ⟨ha0, ha1, ha2, ha3, ha4, ha5⟩, hlm, hsn, hdg⟩ := yd_C h hZ.1
  have o0 := hI.1.1
  unfold okSc at o0
  have c7 := zC.2.2.1
  have c3 := zC.2.2.2.1
  have c4 := zC.2.2.2.2.1
  have c6 := zC.2.2.2.2.2.1
  refine V_aload_n C dX9_charge_0 rfl ?_
  refine V_iload_n C dX9_charge_1 rfl ?_
  refine V_callV C (As := [_]) (r_carAt hl h hZ.1 hq) kX9_153 hKy rfl rfl (Nat.le_of_ble_eq_true rfl) ⟨Nat.le_of_ble_eq_true rfl, Nat.le_of_ble_eq_true rfl⟩ ⟨(by first | exact Nat.le_of_ble_eq_true rfl | (dsimp only; omega)), (by first | exact Nat.le_of_ble_eq_true rfl | (dsimp only; omega))⟩ dX9_charge_2 (fun E Y hp => ?_) (fun v2 Y hp => ?_)
  · obtain ⟨rfl, rfl, hn⟩ := hp
    exact VX_out C hx0 (by omega) (by omega) (by rw [show chaS M q = _ from if_neg (by omega)]; exact ⟨⟨rfl, rfl⟩, L, Z, h, hZ, rfl⟩)
  obtain ⟨rfl, rfl, hw2, hi2⟩ := hp
  refine V_getIx C cl2 fX9_234 (x := M.2 15 q.toNat) (h.gk (c := 3) (by decide) hi2) (h.gi (f := 131) (c := 3) (by decide) hi2 (zA _ hi2).2.2.2.1) dX9_charge_5 ?_
  exact V_iret C (by omega) (by omega) (by rw [show chaS M q = _ from if_pos (by omega)]; exact ⟨rfl, rfl, L, Z, h, hZ, rfl⟩) hr dX9_charge_8
set_option maxHeartbeats 2000000 in
set_option maxRecDepth 20000 in
theorem c_X9_owes (hl : l.stackTraces = false) (h : CX t0 ao mo ad L X Z Mr) (hZ : ZM Z M) (hI : Iv M jj) {q : Int} (hq : rng q) : Ct l D kA b t0 yX9_owes cX9_owes 2 (some FieldType.int) 7 111 [rv (some (lA L 11 0)), iv q] X 1 6 (fun v Y => ((oweS M q).1).1 0 = 0 ∧ v = some (iv ((oweS M q).2)) ∧ clR t0 ao mo ad L Mr ((oweS M q).1) Y) (fun E Y => ((E = "java/lang/IndexOutOfBoundsException" ∧ ((oweS M q).1).1 0 = 1)) ∧ clR t0 ao mo ad L Mr ((oweS M q).1) Y) := by
  refine Ct_mk hl (by decide) (Nat.le_of_ble_eq_true rfl) rfl ?_
  intro p9 e9 s9 m9 args9 below9 meth9 c9 C hr hx0
  obtain ⟨⟨zC, zL, zY, zF, zS, zA, zD, zE, zV⟩, zT, zW, zB⟩ := id hZ
  obtain ⟨hKy, ⟨ha0, ha1, ha2, ha3, ha4, ha5⟩, hlm, hsn, hdg⟩ := yd_C h hZ.1
  have o0 := hI.1.1
  unfold okSc at o0
  have c7 := zC.2.2.1
  have c3 := zC.2.2.2.1
  have c4 := zC.2.2.2.2.1
  have c6 := zC.2.2.2.2.2.1
  refine V_aload_n C dX9_owes_0 rfl ?_
  refine V_iload_n C dX9_owes_1 rfl ?_
  refine V_callV C (As := [_]) (r_cardAt hl h hZ.1 hq) kX9_91 hKy rfl rfl (Nat.le_of_ble_eq_true rfl) ⟨Nat.le_of_ble_eq_true rfl, Nat.le_of_ble_eq_true rfl⟩ ⟨(by first | exact Nat.le_of_ble_eq_true rfl | (dsimp only; omega)), (by first | exact Nat.le_of_ble_eq_true rfl | (dsimp only; omega))⟩ dX9_owes_2 (fun E Y hp => ?_) (fun v2 Y hp => ?_)
  · obtain ⟨rfl, rfl, hn⟩ := hp
    exact VX_out C hx0 (by omega) (by omega) (by rw [show oweS M q = _ from if_neg (by omega)]; exact ⟨⟨rfl, rfl⟩, L, Z, h, hZ, rfl⟩)
  obtain ⟨rfl, rfl, hw2, hi2⟩ := hp
  refine V_getIx C cl3 fX9_272 (x := M.2 22 q.toNat) (h.gk (c := 4) (by decide) hi2) (h.gi (f := 196) (c := 4) (by decide) hi2 (zD _ hi2).2.2.2.2) dX9_owes_5 ?_
  exact V_iret C (by omega) (by omega) (by rw [show oweS M q = _ from if_pos (by omega)]; exact ⟨rfl, rfl, L, Z, h, hZ, rfl⟩) hr dX9_owes_8
set_option maxHeartbeats 2000000 in
set_option maxRecDepth 20000 in
theorem c_X9_account (hl : l.stackTraces = false) (h : CX t0 ao mo ad L X Z Mr) (hZ : ZM Z M) (hI : Iv M jj) {q : Int} (hq : rng q) : Ct l D kA b t0 yX9_account cX9_account 2 (some FieldType.int) 7 111 [rv (some (lA L 11 0)), iv q] X 1 6 (fun v Y => ((accS M q).1).1 0 = 0 ∧ v = some (iv ((accS M q).2)) ∧ clR t0 ao mo ad L Mr ((accS M q).1) Y) (fun E Y => ((E = "java/lang/IndexOutOfBoundsException" ∧ ((accS M q).1).1 0 = 1)) ∧ clR t0 ao mo ad L Mr ((accS M q).1) Y) := by
  refine Ct_mk hl (by decide) (Nat.le_of_ble_eq_true rfl) rfl ?_
  intro p9 e9 s9 m9 args9 below9 meth9 c9 C hr hx0
  obtain ⟨⟨zC, zL, zY, zF, zS, zA, zD, zE, zV⟩, zT, zW, zB⟩ := id hZ
  obtain ⟨hKy, ⟨ha0, ha1, ha2, ha3, ha4, ha5⟩, hlm, hsn, hdg⟩ := yd_C h hZ.1
  have o0 := hI.1.1
  unfold okSc at o0
  have c7 := zC.2.2.1
  have c3 := zC.2.2.2.1
  have c4 := zC.2.2.2.2.1
  have c6 := zC.2.2.2.2.2.1
  refine V_aload_n C dX9_account_0 rfl ?_
  refine V_iload_n C dX9_account_1 rfl ?_
  refine V_callV C (As := [_]) (r_firmAt hl h hZ.1 hq) kX9_54 hKy rfl rfl (Nat.le_of_ble_eq_true rfl) ⟨Nat.le_of_ble_eq_true rfl, Nat.le_of_ble_eq_true rfl⟩ ⟨(by first | exact Nat.le_of_ble_eq_true rfl | (dsimp only; omega)), (by first | exact Nat.le_of_ble_eq_true rfl | (dsimp only; omega))⟩ dX9_account_2 (fun E Y hp => ?_) (fun v2 Y hp => ?_)
  · obtain ⟨rfl, rfl, hn⟩ := hp
    exact VX_out C hx0 (by omega) (by omega) (by rw [show accS M q = _ from if_neg (by omega)]; exact ⟨⟨rfl, rfl⟩, L, Z, h, hZ, rfl⟩)
  obtain ⟨rfl, rfl, hw2, hi2⟩ := hp
  refine V_getIx C cl4 fX9_275 (x := acF M q.toNat) (h.gk (c := 5) (by decide) hi2) (h.gi (f := 257) (c := 5) (by decide) hi2 (zF _ (by omega)).1) dX9_account_5 ?_
  exact V_iret C (by omega) (by omega) (by rw [show accS M q = _ from if_pos (by omega)]; exact ⟨rfl, rfl, L, Z, h, hZ, rfl⟩) hr dX9_account_8
set_option maxHeartbeats 2000000 in
set_option maxRecDepth 20000 in
theorem c_X9_overloads (hl : l.stackTraces = false) (h : CX t0 ao mo ad L X Z Mr) (hZ : ZM Z M) (hI : Iv M jj)  : Ct l D kA b t0 yX9_overloads cX9_overloads 1 (some FieldType.int) 0 0 [rv (some (lA L 11 0))] X 0 0 (fun v Y => (setS M 0 0).1 0 = 0 ∧ v = some (iv (M.1 2)) ∧ clR t0 ao mo ad L Mr (setS M 0 0) Y) (pF) := by
  refine Ct_mk hl (by decide) (Nat.le_of_ble_eq_true rfl) rfl ?_
  intro p9 e9 s9 m9 args9 below9 meth9 c9 C hr hx0
  obtain ⟨⟨zC, zL, zY, zF, zS, zA, zD, zE, zV⟩, zT, zW, zB⟩ := id hZ
  obtain ⟨hKy, ⟨ha0, ha1, ha2, ha3, ha4, ha5⟩, hlm, hsn, hdg⟩ := yd_C h hZ.1
  have o0 := hI.1.1
  unfold okSc at o0
  have c7 := zC.2.2.1
  have c3 := zC.2.2.2.1
  have c4 := zC.2.2.2.2.1
  have c6 := zC.2.2.2.2.2.1
  refine V_aload_n C dX9_overloads_0 rfl ?_
  refine V_getIx C cl10 fX9_44 (x := M.1 2) hKy (h.gi (f := 650) (c := 11) (by decide) (by rw [zC.1]; omega) zT.2) dX9_overloads_1 ?_
  exact V_iret C (by omega) (by omega) ⟨rfl, rfl, L, Z, h, hZ, rfl⟩ hr dX9_overloads_4
end REL1
