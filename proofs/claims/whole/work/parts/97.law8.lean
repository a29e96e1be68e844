/-! the law: its walk -/
theorem Lsc_ex (xs : Nat → Int32) (j : Nat) : ∃ q, Lsc xs j q := by
  refine ⟨fun k => (xs (6 * j + k)).toInt, fun k _ => ⟨?_, ?_⟩⟩
  · have h1 := (xs (6 * j + k)).le_toInt
    have h2 := (xs (6 * j + k)).toInt_lt
    show -2147483648 ≤ (xs (6 * j + k)).toInt ∧ (xs (6 * j + k)).toInt ≤ 2147483647
    omega
  · exact (Int32.ofInt_toInt _).symm
section LAW8
variable {p : Program} {l : Launch} {e : Env} {s : State} {m : MethodId} {args : Array Value} {below : List Frame} {meth : Method} {c : Code}
variable {D : va_G} {kA : Nat → ClassId} {b t0 sb Ls : Nat} {Q : State → Prop} {X : Mm} {xs : Nat → Int32}
set_option maxHeartbeats 2000000 in
set_option maxRecDepth 20000 in
theorem law_V {nm : String} (C : Cx p l s m args meth c D kA b t0 7 RL nm cL_law) (hl : l.stackTraces = false) (hX : va_X sb Ls xs s s.heap) (hb1 : sb < s.heap.size) (hb2 : sb < b) (hL : Ls ≤ 3072) (ht : gK X t0 = 24 ∧ gN X t0 = 0) (hret : ∀ (Y : Mm) (c2 s2 : Nat) (lv : List (Option Value)), c2 ≤ 601024 → s2 ≤ 7293034 → V p l e room_1 s m args below meth c D kA b 7 c2 s2 Q Y 1610 lv [iv 1]) : V p l e room_1 s m args below meth c D kA b 7 0 0 Q X 0 [some (rv (some sb)), none, none, none, none, none, none] [] := by
  refine V_new C cl10 nL_8 rfl (Nat.le_of_ble_eq_true rfl) (Nat.le_of_ble_eq_true rfl) dL_law_0 (fun y hy0 hby => ?_)
  refine V_dup C dL_law_3 rfl ?_
  have nt : t0 ≠ y := ne_of_0 hy0 (by omega)
  refine V_callI C (As := []) (c_X9_init hl (X := alO X y 11) (y := y) (if_pos rfl) ⟨(if_neg nt).trans ht.1, ht.2⟩) kL_85 rfl rfl (Nat.le_of_ble_eq_true rfl) ⟨Nat.le_of_ble_eq_true rfl, Nat.le_of_ble_eq_true rfl⟩ ⟨Nat.le_of_ble_eq_true rfl, Nat.le_of_ble_eq_true rfl⟩ dL_law_4 (fun _ _ h => h.elim) (fun v Y hp => ?_)
  obtain ⟨rfl, lf, fg, gg, d, c0, hY⟩ := hp
  refine V_astore_n C dL_law_7 (by decide) rfl ?_
  refine V_new C cl11 nL_86 rfl (Nat.le_of_ble_eq_true rfl) (Nat.le_of_ble_eq_true rfl) dL_law_8 (fun mo hmo0 hbm => ?_)
  refine V_dup C dL_law_11 rfl ?_
  refine V_callI C (As := []) (c_X10_init hl (X := alO Y mo 12) (mo := mo) (if_pos rfl) (fun k => if_pos rfl)) kL_88 rfl rfl (Nat.le_of_ble_eq_true rfl) ⟨Nat.le_of_ble_eq_true rfl, Nat.le_of_ble_eq_true rfl⟩ ⟨Nat.le_of_ble_eq_true rfl, Nat.le_of_ble_eq_true rfl⟩ dL_law_12 (fun _ _ h => h.elim) (fun v Y2 hp => ?_)
  obtain ⟨rfl, ad, hR, hq2⟩ := hp
  refine V_astore_n C dL_law_15 (by decide) rfl ?_
  refine V_iconst C dL_law_16 ?_
  refine V_newL C (n := 1) rfl (by omega) a_long (Nat.le_of_ble_eq_true rfl) (Nat.le_of_ble_eq_true rfl) dL_law_17 (fun ao ha hba => ?_)
  refine V_astore_n C dL_law_19 (by decide) rfl ?_
  refine V_iconst C dL_law_20 ?_
  refine V_istore C dL_law_21 (by decide) rfl ?_
  have hY3 : YI t0 (alA Y2 ao 22 1) y lf fg gg 3 d c0 := hY.kept (fun x hx => by
    have e1 : x ≠ mo := ne_of_0 hmo0 hx
    have e2 : gK (alO Y mo 12) x = gK Y x := if_neg e1
    have h3 := hq2 x (by rw [e2]; exact hx) e1
    have e4 : gK Y2 x ≠ 0 := by
      rw [h3.1, e2]
      exact hx
    exact ((eqc_alO e1).tr h3).tr (eqc_alA (ne_of_0 ha e4)))
  have hR3 : RR mo ad (alA Y2 ao 22 1) M0 := hR.kept (fun a hin => eqc_alA (ne_of_0 ha (by rcases hR.kind hin with z | z | z <;> omega)))
  have hao : gK (alA Y2 ao 22 1) ao = 22 ∧ gN (alA Y2 ao 22 1) ao = 1 := ⟨if_pos rfl, if_pos rfl⟩
  have hC0 := cx_begin hY3 hR3 hao
  have hZ0 := zm_begin hY3
  refine V_while C (St := Nat × Mm × Ly × Zs × Mo × Option Value × Option Value × Nat × Nat) (f := fun z => z.2.1) (g := fun z => [some (rv (some sb)), some (rv (some y)), some (rv (some mo)), some (rv (some ao)), some (iv (6 * (z.1 : Int))), z.2.2.2.2.2.1, z.2.2.2.2.2.2.1]) (cs := fun z => z.2.2.2.2.2.2.2.1) (ss := fun z => z.2.2.2.2.2.2.2.2) (μ := fun z => 513 - z.1) (I := fun z => z.1 ≤ 512 ∧ CX t0 ao mo ad z.2.2.1 z.2.1 z.2.2.2.1 z.2.2.2.2.1 ∧ ZM z.2.2.2.1 z.2.2.2.2.1 ∧ Iv z.2.2.2.2.1 z.1 ∧ lA z.2.2.1 11 0 = y ∧ z.2.2.2.2.2.2.2.1 + budC z.2.2.2.2.1 ≤ 400 + 26 * z.1 ∧ z.2.2.2.2.2.2.2.2 + budS z.2.2.2.2.1 ≤ 2440000 + 4402 * z.1) (x0 := (0, alA Y2 ao 22 1, L0 y t0 d c0 lf fg gg, Z0 (alA Y2 ao 22 1) y t0 d c0 lf fg gg, M0, none, none, 58, 41691)) rfl rfl rfl rfl ⟨Nat.zero_le _, hC0, hZ0, iv_M0, rfl, by show 58 + budC M0 ≤ 400 + 26 * 0; rw [bud_M0.1]; omega, by show 41691 + budS M0 ≤ 2440000 + 4402 * 0; rw [bud_M0.2]; omega⟩ ?_
  rintro ⟨j, Xj, Lj, Zj, Mj, u5, u6, c2, s2⟩ ⟨hj, hC, hZ, hI, hy, hc, hs⟩ ih
  dsimp only at hj hC hZ hI hy hc hs ih ⊢
  subst hy
  refine V_iload C dL_law_23 rfl ?_
  refine V_aload_n C dL_law_25 rfl ?_
  refine V_slen C hX hb1 hb2 dL_law_26 ?_
  refine V_bipush C dL_law_27 (by decide) ?_
  refine V_isub C dL_law_29 ?_
  refine V_icmp_gt C dL_law_30 (by omega) (by omega) (fun h30 => ?_) (fun h30 => ?_)
  · refine V_iconst C dL_law_1609 ?_
    exact hret _ _ _ _ (by omega) (by omega)
  have hj2 : 6 * j + 6 ≤ Ls := by omega
  have hend : LEnd p l e s m args below meth c D kA b Q t0 ao mo ad sb Lj j := by
    intro Y9 L2 Z2 M2 v5 v6 c3 s3 a1 a2 a3 a4 a5 a6
    refine V_iinc C dL_law_1603 (by decide) rfl rfl ?_
    refine V_goto C dL_law_1606 ?_
    have h9 := ih (j + 1, Y9, L2, Z2, M2, v5, v6, c3, s3) ⟨by show j + 1 ≤ 512; omega, a1, a2, a3, a4, a5, a6⟩ (by show 513 - (j + 1) < 513 - j; omega)
    dsimp only at h9
    rw [show 6 * ((j + 1 : Nat) : Int) = 6 * (j : Int) + 6 by omega] at h9
    exact h9
  obtain ⟨q, hq⟩ := Lsc_ex xs j
  refine V_aload_n C dL_law_33 rfl ?_
  refine V_iload C dL_law_34 rfl ?_
  refine V_sld C (j := 6 * j) hX hb1 hb2 (by omega) hL (by omega) (hq 0 (by decide)).2 dL_law_36 ?_
  refine V_bipush C dL_law_37 (by decide) ?_
  refine V_iand C dL_law_39 (fun z hz => ?_)
  rcases (by omega : z = 0 ∨ z = 1 ∨ z = 2 ∨ z = 3 ∨ z = 4 ∨ z = 5 ∨ z = 6 ∨ z = 7 ∨ z = 8 ∨ z = 9 ∨ z = 10 ∨ z = 11 ∨ z = 12 ∨ z = 13 ∨ z = 14 ∨ z = 15 ∨ z = 16 ∨ z = 17 ∨ z = 18 ∨ z = 19 ∨ z = 20 ∨ z = 21 ∨ (z < 0 ∨ 21 < z)) with hs0 | hs1 | hs2 | hs3 | hs4 | hs5 | hs6 | hs7 | hs8 | hs9 | hs10 | hs11 | hs12 | hs13 | hs14 | hs15 | hs16 | hs17 | hs18 | hs19 | hs20 | hs21 | hs22
  · refine V_tin (tgt := 144) C dL_law_40 (by omega) (by omega) (by omega) (by rw [hs0]; rfl) (by decide) ?_
    exact lc_socket C hl hX hb1 hb2 hj2 hL hC hZ hI hq hc hs hend
  · refine V_tin (tgt := 212) C dL_law_40 (by omega) (by omega) (by omega) (by rw [hs1]; rfl) (by decide) ?_
    exact lc_car C hl hX hb1 hb2 hj2 hL hC hZ hI hq hc hs hend
  · refine V_tin (tgt := 292) C dL_law_40 (by omega) (by omega) (by omega) (by rw [hs2]; rfl) (by decide) ?_
    exact lc_card C hl hX hb1 hb2 hj2 hL hC hZ hI hq hc hs hend
  · refine V_tin (tgt := 360) C dL_law_40 (by omega) (by omega) (by omega) (by rw [hs3]; rfl) (by decide) ?_
    exact lc_good C hl hX hb1 hb2 hj2 hL hC hZ hI hq hc hs hend
  · refine V_tin (tgt := 451) C dL_law_40 (by omega) (by omega) (by omega) (by rw [hs4]; rfl) (by decide) ?_
    exact lc_set C hl hX hb1 hb2 hj2 hL hC hZ hI hq hc hs hend
  · refine V_tin (tgt := 519) C dL_law_40 (by omega) (by omega) (by omega) (by rw [hs5]; rfl) (by decide) ?_
    exact lc_fault C hl hX hb1 hb2 hj2 hL hC hZ hI hq hc hs hend
  · refine V_tin (tgt := 610) C dL_law_40 (by omega) (by omega) (by omega) (by rw [hs6]; rfl) (by decide) ?_
    exact lc_link C hl hX hb1 hb2 hj2 hL hC hZ hI hq hc hs hend
  · refine V_tin (tgt := 694) C dL_law_40 (by omega) (by omega) (by omega) (by rw [hs7]; rfl) (by decide) ?_
    exact lc_tariff C hl hX hb1 hb2 hj2 hL hC hZ hI hq hc hs hend
  · refine V_tin (tgt := 778) C dL_law_40 (by omega) (by omega) (by omega) (by rw [hs8]; rfl) (by decide) ?_
    exact lc_book C hl hX hb1 hb2 hj2 hL hC hZ hI hq hc hs hend
  · refine V_tin (tgt := 870) C dL_law_40 (by omega) (by omega) (by omega) (by rw [hs9]; rfl) (by decide) ?_
    exact lc_plug C hl hX hb1 hb2 hj2 hL hC hZ hI hq hc hs hend
  · refine V_tin (tgt := 950) C dL_law_40 (by omega) (by omega) (by omega) (by rw [hs10]; rfl) (by decide) ?_
    exact lc_unplug C hl hX hb1 hb2 hj2 hL hC hZ hI hq hc hs hend
  · refine V_tin (tgt := 1006) C dL_law_40 (by omega) (by omega) (by omega) (by rw [hs11]; rfl) (by decide) ?_
    by_cases hgood : (1 ≤ q 1 ∧ q 1 ≤ 120) ∧ Mj.1 1 + q 1 ≤ 20000
    · exact lc_pass_ok C hl hX hb1 hb2 hj2 hL hC hZ hI hq hc hs hend hgood
    · exact lc_pass_no C hl hX hb1 hb2 hj2 hL hC hZ hI hq hc hs hend hgood
  · refine V_tin (tgt := 1062) C dL_law_40 (by omega) (by omega) (by omega) (by rw [hs12]; rfl) (by decide) ?_
    exact lc_of C hl hX hb1 hb2 hj2 hL hC hZ hI hq hc hs hend
  · refine V_tin (tgt := 1130) C dL_law_40 (by omega) (by omega) (by omega) (by rw [hs13]; rfl) (by decide) ?_
    exact lc_charge C hl hX hb1 hb2 hj2 hL hC hZ hI hq hc hs hend
  · refine V_tin (tgt := 1186) C dL_law_40 (by omega) (by omega) (by omega) (by rw [hs14]; rfl) (by decide) ?_
    exact lc_power C hl hX hb1 hb2 hj2 hL hC hZ hI hq hc hs hend
  · refine V_tin (tgt := 1242) C dL_law_40 (by omega) (by omega) (by omega) (by rw [hs15]; rfl) (by decide) ?_
    exact lc_powerAnew C hl hX hb1 hb2 hj2 hL hC hZ hI hq hc hs hend
  · refine V_tin (tgt := 1298) C dL_law_40 (by omega) (by omega) (by omega) (by rw [hs16]; rfl) (by decide) ?_
    exact lc_overloads C hl hX hb1 hb2 hj2 hL hC hZ hI hq hc hs hend
  · refine V_tin (tgt := 1311) C dL_law_40 (by omega) (by omega) (by omega) (by rw [hs17]; rfl) (by decide) ?_
    exact lc_bill C hl hX hb1 hb2 hj2 hL hC hZ hI hq hc hs hend
  · refine V_tin (tgt := 1367) C dL_law_40 (by omega) (by omega) (by omega) (by rw [hs18]; rfl) (by decide) ?_
    exact lc_billAnew C hl hX hb1 hb2 hj2 hL hC hZ hI hq hc hs hend
  · refine V_tin (tgt := 1423) C dL_law_40 (by omega) (by omega) (by omega) (by rw [hs19]; rfl) (by decide) ?_
    exact lc_dispute C hl hX hb1 hb2 hj2 hL hC hZ hI hq hc hs hend
  · refine V_tin (tgt := 1491) C dL_law_40 (by omega) (by omega) (by omega) (by rw [hs20]; rfl) (by decide) ?_
    exact lc_owes C hl hX hb1 hb2 hj2 hL hC hZ hI hq hc hs hend
  · refine V_tin (tgt := 1547) C dL_law_40 (by omega) (by omega) (by omega) (by rw [hs21]; rfl) (by decide) ?_
    exact lc_account C hl hX hb1 hb2 hj2 hL hC hZ hI hq hc hs hend
  · refine V_tout (tgt := 1603) C dL_law_40 (by omega) hs22 (by decide) ?_
    exact hend _ Lj Zj Mj u5 u6 c2 s2 hC hZ (iv_up hI (by omega)) rfl (by omega) (by omega)
end LAW8
