/-! the class: late bookings, passing -/
theorem kLs6 (i : Nat) : kLs (6 + i) = 2 := by
  unfold kLs
  rw [if_neg (by omega), if_neg (by omega), if_neg (by omega), if_neg (by omega), if_neg (by omega), if_neg (by omega)]
/-- late bookings of the sockets below i are gone -/
def zDr (Z : Zs) (now : Int) (i : Nat) : Zs := (yC Z, yN Z, yT Z, fun j => if 6 ≤ j ∧ j < 6 + i then (yL Z j).filter (fun q => !decide (yN Z 65 q + 15 ≤ now)) else yL Z j, yR Z, yK Z)
theorem zDr_0 (Z : Zs) (now : Int) : zDr Z now 0 = Z := by
  have e : (fun j => if 6 ≤ j ∧ j < 6 + 0 then (yL Z j).filter (fun q => !decide (yN Z 65 q + 15 ≤ now)) else yL Z j) = yL Z := funext fun j => if_neg (by omega)
  show ((yC Z, yN Z, yT Z, (fun j => if 6 ≤ j ∧ j < 6 + 0 then (yL Z j).filter (fun q => !decide (yN Z 65 q + 15 ≤ now)) else yL Z j), yR Z, yK Z) : Zs) = Z
  rw [e]
  rfl
theorem zDr_1 (Z : Zs) (now : Int) (i : Nat) : zsL (zDr Z now i) (6 + i) ((yL Z (6 + i)).filter (fun q => !decide (yN Z 65 q + 15 ≤ now))) = zDr Z now (i + 1) := by
  have e : u1 (fun j => if 6 ≤ j ∧ j < 6 + i then (yL Z j).filter (fun q => !decide (yN Z 65 q + 15 ≤ now)) else yL Z j) (6 + i) ((yL Z (6 + i)).filter (fun q => !decide (yN Z 65 q + 15 ≤ now))) = fun j => if 6 ≤ j ∧ j < 6 + (i + 1) then (yL Z j).filter (fun q => !decide (yN Z 65 q + 15 ≤ now)) else yL Z j := by
    funext j
    unfold u1
    by_cases e : j = 6 + i
    · subst e
      rw [if_pos rfl, if_pos (by omega)]
    · rw [if_neg e]
      dsimp only
      by_cases c : 6 ≤ j ∧ j < 6 + i
      · rw [if_pos c, if_pos (show 6 ≤ j ∧ j < 6 + (i + 1) by omega)]
      · rw [if_neg c, if_neg (show ¬ (6 ≤ j ∧ j < 6 + (i + 1)) by omega)]
  show ((yC Z, yN Z, yT Z, u1 (fun j => if 6 ≤ j ∧ j < 6 + i then (yL Z j).filter (fun q => !decide (yN Z 65 q + 15 ≤ now)) else yL Z j) (6 + i) ((yL Z (6 + i)).filter (fun q => !decide (yN Z 65 q + 15 ≤ now))), yR Z, yK Z) : Zs) = _
  rw [e]
  rfl
theorem zDr_X {Z : Zs} {M : Mo} {now : Int} {i : Nat} (z : zmX Z M) : zmX (zDr Z now i) M := by
  obtain ⟨zC, ⟨l1, l2, l3, l4, l5, l6⟩, zY, zF, zS, zA, zD, zE, zV⟩ := z
  have e : ∀ j, j < 6 → yL (zDr Z now i) j = yL Z j := fun j hj => if_neg (by omega)
  exact ⟨zC, ⟨(e 0 (by omega)).trans l1, (e 1 (by omega)).trans l2, (e 2 (by omega)).trans l3, (e 3 (by omega)).trans l4, (e 4 (by omega)).trans l5, (e 5 (by omega)).trans l6⟩, zY, zF, zS, zA, zD, zE, zV⟩
section REL8
variable {l : Launch} {D : va_G} {kA : Nat → ClassId} {b t0 ao mo jj : Nat} {ad : Nat → Nat} {L : Ly} {X Y : Mm} {Z : Zs} {Mr M : Mo} {n : Nat}
set_option maxHeartbeats 2000000 in
set_option maxRecDepth 20000 in
theorem c_X9_dropLateBookings (hl : l.stackTraces = false) (h : CX t0 ao mo ad L X Z Mr) (z : zmX Z M) (hO : OkM M) {now : Int} (hT : yN Z 646 0 = now) (hn9 : 0 ≤ now ∧ now ≤ 20000) (hbk : ∀ u, u < yC Z 7 → ∀ q ∈ yL Z (6 + u), 0 ≤ yN Z 65 q ∧ yN Z 65 q ≤ 20000) : Ct l D kA b t0 yX9_dropLateBookings cX9_dropLateBookings 4 none 3 94 [rv (some (lA L 11 0))] X 0 0 (fun v Y => v = none ∧ CX t0 ao mo ad L Y (zDr Z now (yC Z 7)) Mr) (pF) := by
  refine Ct_mk hl (by decide) (Nat.le_of_ble_eq_true rfl) rfl ?_
  intro p9 e9 s9 m9 args9 below9 meth9 c9 C hr hx0
  have c7 := z.1.2.2.1
  have o0 := hO.1
  unfold okSc at o0
  refine V_iconst C dX9_dropLateBookings_0 ?_
  refine V_istore_n C dX9_dropLateBookings_1 (by decide) rfl ?_
  refine V_while C (St := Nat × Mm × Option Value × Option Value) (f := fun z => z.2.1) (g := fun z => [some (rv (some (lA L 11 0))), some (iv (z.1 : Int)), z.2.2.1, z.2.2.2]) (cs := fun _ => 0) (ss := fun _ => 0) (μ := fun z => yC Z 7 + 1 - z.1) (I := fun z => z.1 ≤ yC Z 7 ∧ CX t0 ao mo ad L z.2.1 (zDr Z now z.1) Mr) (x0 := (0, X, none, none)) rfl rfl rfl rfl ⟨Nat.zero_le _, by show CX t0 ao mo ad L X (zDr Z now 0) Mr; rw [zDr_0]; exact h⟩ ?_
  rintro ⟨i, Xi, u2, u3⟩ ⟨hi, hCi⟩ ih
  dsimp only at hi hCi ih ⊢
  have zi : zmX (zDr Z now i) M := zDr_X z
  obtain ⟨hKy, ⟨-, hra, -, -, -, -⟩, -⟩ := yd_C hCi zi
  have hLI := hCi.li (j := 1) (c := 7) (xs := List.range (yC Z 7)) (by have := z.1.2.2.2.2.2.2.2.2.2; show 1 < yC Z 1; omega) rfl zi.2.1.2.1
  have hlen : ((List.range (yC Z 7)).map (lA L 7)).length = yC Z 7 := by rw [List.length_map, List.length_range]
  have hnow := hCi.gi (f := 646) (c := 11) (i := 0) (v := now) (by decide) (show 0 < yC Z 11 by rw [z.1.1]; omega) hT
  refine V_iload_n C dX9_dropLateBookings_2 rfl ?_
  refine V_aload_n C dX9_dropLateBookings_3 rfl ?_
  refine V_getP C cl10 fX9_16 (r := some ((lA L 1 1))) hKy hra dX9_dropLateBookings_4 ?_
  refine V_callV1 C (As := []) (L_size hl hLI) kX9_63 hLI.1 rfl rfl (Nat.le_of_ble_eq_true rfl) ⟨Nat.le_of_ble_eq_true rfl, Nat.le_of_ble_eq_true rfl⟩ ⟨Nat.le_of_ble_eq_true rfl, Nat.le_of_ble_eq_true rfl⟩ dX9_dropLateBookings_7 ?_
  refine V_icmp_ge C dX9_dropLateBookings_10 (by omega) (by omega) (fun h10 => ?_) (fun h10 => ?_)
  · obtain rfl : i = yC Z 7 := by omega
    exact V_vret C (by omega) (by omega) ⟨rfl, hCi⟩ hr dX9_dropLateBookings_75
  · have hin : i < yC Z 7 := by omega
    have hq : ((List.range (yC Z 7)).map (lA L 7))[i]? = some (lA L 7 i) := by rw [List.getElem?_map, List.getElem?_range hin]; rfl
    have hK7 : gK Xi (lA L 7 i) = 7 := hCi.gk (c := 7) (by decide) hin
    have hb391 : gP Xi 391 (lA L 7 i) = some (lA L 1 (6 + i)) := (hCi.gp (f := 391) (g := 1) (c := 7) (by decide) hin (show yT Z 391 i = some (6 + i) from (z.2.2.2.2.1 i hin).2.2.2.2.2.2.2)).1
    have h6 : 6 + i < yC Z 1 := by have := z.1.2.2.2.2.2.2.2.2.2; omega
    have eL : yL (zDr Z now i) (6 + i) = yL Z (6 + i) := if_neg (by omega)
    have hLB := hCi.li (j := 6 + i) (c := 2) (xs := yL Z (6 + i)) h6 (kLs6 i) eL
    have hmb : ∀ q ∈ yL Z (6 + i), q < yC Z 2 := fun q hq => by have h9 := (hCi.2.2.2.2.2.2.1 (6 + i) h6).2 q (by rw [eL]; exact hq); rw [kLs6 i] at h9; exact h9
    have hdk := hCi.dk (j := 6 + i) h6
    have hk1 := hCi.gk (c := 1) (by decide) h6
    have hda : lD L (6 + i) ≠ lA L 1 (6 + i) := fun e => by rw [e] at hdk; omega
    have hle : ((yL Z (6 + i)).map (lA L 2)).length ≤ 1000 := Nat.le_trans hLB.2.2.2.2.2.1 hLB.2.2.2.2.2.2.1
    refine V_aload_n C dX9_dropLateBookings_13 rfl ?_
    refine V_getP C cl10 fX9_16 (r := some ((lA L 1 1))) hKy hra dX9_dropLateBookings_14 ?_
    refine V_iload_n C dX9_dropLateBookings_17 rfl ?_
    refine V_callV1 C (As := [_]) (L_get hl hLI hq rfl) kX9_283 hLI.1 rfl rfl (Nat.le_of_ble_eq_true rfl) ⟨Nat.le_of_ble_eq_true rfl, Nat.le_of_ble_eq_true rfl⟩ ⟨Nat.le_of_ble_eq_true rfl, Nat.le_of_ble_eq_true rfl⟩ dX9_dropLateBookings_18 ?_
    refine V_cast C cl6 cc_RX9_71 hK7 dX9_dropLateBookings_21 ?_
    refine V_getP C cl6 fX9_145 (r := some ((lA L 1 (6 + i)))) hK7 hb391 dX9_dropLateBookings_24 ?_
    refine V_astore_n C dX9_dropLateBookings_27 (by decide) rfl ?_
    refine V_aload_n C dX9_dropLateBookings_28 rfl ?_
    refine V_callV1 C (As := []) (L_size hl hLB) kX9_63 hLB.1 rfl rfl (Nat.le_of_ble_eq_true rfl) ⟨Nat.le_of_ble_eq_true rfl, Nat.le_of_ble_eq_true rfl⟩ ⟨Nat.le_of_ble_eq_true rfl, Nat.le_of_ble_eq_true rfl⟩ dX9_dropLateBookings_29 ?_
    refine V_iconst C dX9_dropLateBookings_32 ?_
    refine V_isub C dX9_dropLateBookings_33 ?_
    refine V_istore_n C dX9_dropLateBookings_34 (by decide) rfl ?_
    refine V_while C (St := Nat × Mm) (f := fun z => z.2) (g := fun z => [some (rv (some (lA L 11 0))), some (iv (i : Int)), some (rv (some (lA L 1 (6 + i)))), some (iv ((z.1 : Int) - 1))]) (cs := fun _ => 0) (ss := fun _ => 0) (μ := fun z => z.1) (I := fun z => z.1 ≤ ((yL Z (6 + i)).map (lA L 2)).length ∧ LI t0 z.2 (lA L 1 (6 + i)) (lft ((yL Z (6 + i)).map (lA L 2)) (fun v => decide (gI Xi 65 v + 15 ≤ now)) z.1) (lD L (6 + i)) (lC L (6 + i)) ∧ gK z.2 = gK Xi ∧ Fr Xi z.2 (fun q => q = lA L 1 (6 + i) ∨ q = lD L (6 + i))) (x0 := (((yL Z (6 + i)).map (lA L 2)).length, Xi)) rfl rfl rfl rfl ⟨Nat.le_refl _, by unfold lft; rw [List.take_length, List.drop_length]; simpa using hLB, rfl, Fr.rf _ _⟩ ?_
    rintro ⟨k, Zm⟩ ⟨hk, hL, hK, hF⟩ ih2
    dsimp only at hk hL hK hF ih2 ⊢
    have hnl : ∀ v, gK Xi v ≠ 1 → gK Xi v ≠ 23 → gK Xi v ≠ 24 → gK Xi v ≠ 0 → eqc Xi Zm v := fun v g1 g2 g3 g0 => hF v g0 (fun y => by rcases y with rfl | rfl; exact g1 hk1; (rcases hdk with y | y; exact g2 y; exact g3 y))
    have hye : eqc Xi Zm (lA L 11 0) := hnl _ (by omega) (by omega) (by omega) (by omega)
    have hKy2 : gK Zm (lA L 11 0) = 11 := hye.1.trans hKy
    have hnow2 : gI Zm 646 (lA L 11 0) = now := (hye.2.1 646).trans hnow
    refine V_iload_n C dX9_dropLateBookings_35 rfl ?_
    refine V_if_lt C dX9_dropLateBookings_36 (by omega) (fun h36 => ?_) (fun h36 => ?_)
    · obtain rfl : k = 0 := by omega
      have ef : lft ((yL Z (6 + i)).map (lA L 2)) (fun v => decide (gI Xi 65 v + 15 ≤ now)) 0 = ((yL Z (6 + i)).filter (fun q => !decide (yN Z 65 q + 15 ≤ now))).map (lA L 2) := by
        unfold lft
        rw [List.take_zero, List.drop_zero, List.nil_append, List.filter_map]
        refine congrArg (List.map (lA L 2)) (List.filter_congr (fun q hq => ?_))
        show (!decide (gI Xi 65 (lA L 2 q) + 15 ≤ now)) = _
        rw [hCi.gi (f := 65) (c := 2) (by decide) (hmb q hq) (rfl : yN Z 65 q = yN Z 65 q)]
      rw [ef] at hL
      have hcl := hCi.lst (j := 6 + i) h6 (Y := Zm) (xs := (yL Z (6 + i)).filter (fun q => !decide (yN Z 65 q + 15 ≤ now))) (by rw [kLs6 i]; exact hL) (fun u hu => by rw [kLs6 i]; exact hmb u (List.mem_filter.mp hu).1) hF (fun h24 => by have e1 : gK Zm (lD L (6 + i)) = 24 := (by rw [hK]; exact h24); exact ⟨e1, by rcases hL.2.2.2.2.1 with y | y; omega; (rw [hL.2.2.2.1]; exact y.2.2)⟩) (Or.inl rfl)
      rw [u1_self, u1_self, zDr_1] at hcl
      refine V_iinc C dX9_dropLateBookings_69 (by decide) rfl rfl ?_
      refine V_goto C dX9_dropLateBookings_72 ?_
      exact ih (i + 1, Zm, _, _) ⟨by show i + 1 ≤ yC Z 7; omega, hcl⟩ (by show yC Z 7 + 1 - (i + 1) < yC Z 7 + 1 - i; omega)
    · rw [show yL Z (6 + i) = [] from eL.symm.trans (hCi.nob h6)] at hk
      exact absurd (show k ≤ 0 from hk) (by omega)
end REL8
