/-! the law: its helpers -/
theorem xL_13 : Cond.classLink RL 13 "java/lang/IndexOutOfBoundsException" ∈ TBL := TBL_mk 255 (by decide +kernel) (by decide +kernel)
theorem xL_15 : Cond.classLink RL 15 "java/lang/IllegalArgumentException" ∈ TBL := TBL_mk 256 (by decide +kernel) (by decide +kernel)
theorem xL_17 : Cond.classLink RL 17 "java/lang/IllegalStateException" ∈ TBL := TBL_mk 257 (by decide +kernel) (by decide +kernel)
theorem xN_13 : Cond.castable "java/lang/IndexOutOfBoundsException" "java/lang/IndexOutOfBoundsException" ∈ NW := by decide +kernel
theorem xN_15 : Cond.castable "java/lang/IllegalArgumentException" "java/lang/IllegalArgumentException" ∈ NW := by decide +kernel
theorem xN_17 : Cond.castable "java/lang/IllegalStateException" "java/lang/IllegalStateException" ∈ NW := by decide +kernel
theorem sL_socket : KSH RL 89 yL_socket cL_socket 5 (some FieldType.int) [(0, 10, 13, 13), (0, 10, 17, 15), (0, 10, 21, 17)] 4 := ⟨TBL_mk 252 (by decide +kernel) (by decide +kernel), TBL_mk 253 (by decide +kernel) (by decide +kernel), TBL_mk 52 (by decide +kernel) (by decide +kernel), TBL_mk 254 (by decide +kernel) (by decide +kernel), by decide +kernel, by decide +kernel, by decide +kernel⟩
theorem sL_car : KSH RL 99 yL_car cL_car 6 (some FieldType.int) [(0, 12, 15, 15), (0, 12, 19, 17)] 5 := ⟨TBL_mk 436 (by decide +kernel) (by decide +kernel), TBL_mk 437 (by decide +kernel) (by decide +kernel), TBL_mk 52 (by decide +kernel) (by decide +kernel), TBL_mk 438 (by decide +kernel) (by decide +kernel), by decide +kernel, by decide +kernel, by decide +kernel⟩
theorem sL_card : KSH RL 103 yL_card cL_card 5 (some FieldType.int) [(0, 10, 13, 13), (0, 10, 17, 15), (0, 10, 21, 17)] 4 := ⟨TBL_mk 469 (by decide +kernel) (by decide +kernel), TBL_mk 470 (by decide +kernel) (by decide +kernel), TBL_mk 52 (by decide +kernel) (by decide +kernel), TBL_mk 471 (by decide +kernel) (by decide +kernel), by decide +kernel, by decide +kernel, by decide +kernel⟩
theorem sL_good : KSH RL 106 yL_good cL_good 5 (some FieldType.int) [(0, 17, 20, 13)] 4 := ⟨TBL_mk 504 (by decide +kernel) (by decide +kernel), TBL_mk 505 (by decide +kernel) (by decide +kernel), TBL_mk 52 (by decide +kernel) (by decide +kernel), TBL_mk 506 (by decide +kernel) (by decide +kernel), by decide +kernel, by decide +kernel, by decide +kernel⟩
theorem sL_set : KSH RL 110 yL_set cL_set 5 (some FieldType.int) [(0, 10, 13, 15)] 4 := ⟨TBL_mk 516 (by decide +kernel) (by decide +kernel), TBL_mk 517 (by decide +kernel) (by decide +kernel), TBL_mk 52 (by decide +kernel) (by decide +kernel), TBL_mk 518 (by decide +kernel) (by decide +kernel), by decide +kernel, by decide +kernel, by decide +kernel⟩
theorem sL_fault : KSH RL 113 yL_fault cL_fault 5 (some FieldType.int) [(0, 17, 20, 13)] 4 := ⟨TBL_mk 537 (by decide +kernel) (by decide +kernel), TBL_mk 538 (by decide +kernel) (by decide +kernel), TBL_mk 52 (by decide +kernel) (by decide +kernel), TBL_mk 539 (by decide +kernel) (by decide +kernel), by decide +kernel, by decide +kernel, by decide +kernel⟩
theorem sL_link : KSH RL 116 yL_link cL_link 5 (some FieldType.int) [(0, 10, 13, 13)] 4 := ⟨TBL_mk 549 (by decide +kernel) (by decide +kernel), TBL_mk 550 (by decide +kernel) (by decide +kernel), TBL_mk 52 (by decide +kernel) (by decide +kernel), TBL_mk 551 (by decide +kernel) (by decide +kernel), by decide +kernel, by decide +kernel, by decide +kernel⟩
theorem sL_tariff : KSH RL 119 yL_tariff cL_tariff 7 (some FieldType.int) [(0, 11, 14, 13), (0, 11, 18, 15)] 6 := ⟨TBL_mk 603 (by decide +kernel) (by decide +kernel), TBL_mk 604 (by decide +kernel) (by decide +kernel), TBL_mk 52 (by decide +kernel) (by decide +kernel), TBL_mk 605 (by decide +kernel) (by decide +kernel), by decide +kernel, by decide +kernel, by decide +kernel⟩
theorem sL_book : KSH RL 123 yL_book cL_book 7 (some FieldType.int) [(0, 14, 17, 13), (0, 14, 21, 15), (0, 14, 25, 17)] 6 := ⟨TBL_mk 612 (by decide +kernel) (by decide +kernel), TBL_mk 613 (by decide +kernel) (by decide +kernel), TBL_mk 52 (by decide +kernel) (by decide +kernel), TBL_mk 614 (by decide +kernel) (by decide +kernel), by decide +kernel, by decide +kernel, by decide +kernel⟩
theorem sL_plug : KSH RL 127 yL_plug cL_plug 6 (some FieldType.int) [(0, 12, 15, 13), (0, 12, 19, 17)] 5 := ⟨TBL_mk 642 (by decide +kernel) (by decide +kernel), TBL_mk 643 (by decide +kernel) (by decide +kernel), TBL_mk 52 (by decide +kernel) (by decide +kernel), TBL_mk 644 (by decide +kernel) (by decide +kernel), by decide +kernel, by decide +kernel, by decide +kernel⟩
theorem sL_unplug : KSH RL 130 yL_unplug cL_unplug 4 (some FieldType.int) [(0, 9, 12, 13), (0, 9, 15, 17)] 3 := ⟨TBL_mk 792 (by decide +kernel) (by decide +kernel), TBL_mk 793 (by decide +kernel) (by decide +kernel), TBL_mk 52 (by decide +kernel) (by decide +kernel), TBL_mk 794 (by decide +kernel) (by decide +kernel), by decide +kernel, by decide +kernel, by decide +kernel⟩
theorem sL_pass : KSH RL 134 yL_pass cL_pass 4 (some FieldType.int) [(0, 9, 12, 15), (0, 9, 15, 17)] 3 := ⟨TBL_mk 809 (by decide +kernel) (by decide +kernel), TBL_mk 810 (by decide +kernel) (by decide +kernel), TBL_mk 52 (by decide +kernel) (by decide +kernel), TBL_mk 811 (by decide +kernel) (by decide +kernel), by decide +kernel, by decide +kernel, by decide +kernel⟩
theorem sL_of : KSH RL 137 yL_of cL_of 5 (some FieldType.int) [(0, 10, 13, 13), (0, 10, 17, 15)] 4 := ⟨TBL_mk 887 (by decide +kernel) (by decide +kernel), TBL_mk 888 (by decide +kernel) (by decide +kernel), TBL_mk 52 (by decide +kernel) (by decide +kernel), TBL_mk 889 (by decide +kernel) (by decide +kernel), by decide +kernel, by decide +kernel, by decide +kernel⟩
theorem sL_charge : KSH RL 140 yL_charge cL_charge 4 (some FieldType.int) [(0, 9, 12, 13)] 3 := ⟨TBL_mk 899 (by decide +kernel) (by decide +kernel), TBL_mk 900 (by decide +kernel) (by decide +kernel), TBL_mk 52 (by decide +kernel) (by decide +kernel), TBL_mk 901 (by decide +kernel) (by decide +kernel), by decide +kernel, by decide +kernel, by decide +kernel⟩
theorem sL_power : KSH RL 143 yL_power cL_power 4 (some FieldType.int) [(0, 9, 12, 13)] 3 := ⟨TBL_mk 906 (by decide +kernel) (by decide +kernel), TBL_mk 907 (by decide +kernel) (by decide +kernel), TBL_mk 52 (by decide +kernel) (by decide +kernel), TBL_mk 908 (by decide +kernel) (by decide +kernel), by decide +kernel, by decide +kernel, by decide +kernel⟩
theorem sL_powerAnew : KSH RL 146 yL_powerAnew cL_powerAnew 4 (some FieldType.int) [(0, 9, 12, 13)] 3 := ⟨TBL_mk 913 (by decide +kernel) (by decide +kernel), TBL_mk 914 (by decide +kernel) (by decide +kernel), TBL_mk 52 (by decide +kernel) (by decide +kernel), TBL_mk 915 (by decide +kernel) (by decide +kernel), by decide +kernel, by decide +kernel, by decide +kernel⟩
theorem sL_bill : KSH RL 153 yL_bill cL_bill 4 (some FieldType.int) [(0, 9, 12, 13)] 3 := ⟨TBL_mk 924 (by decide +kernel) (by decide +kernel), TBL_mk 925 (by decide +kernel) (by decide +kernel), TBL_mk 52 (by decide +kernel) (by decide +kernel), TBL_mk 926 (by decide +kernel) (by decide +kernel), by decide +kernel, by decide +kernel, by decide +kernel⟩
theorem sL_billAnew : KSH RL 156 yL_billAnew cL_billAnew 4 (some FieldType.int) [(0, 9, 12, 13)] 3 := ⟨TBL_mk 931 (by decide +kernel) (by decide +kernel), TBL_mk 932 (by decide +kernel) (by decide +kernel), TBL_mk 52 (by decide +kernel) (by decide +kernel), TBL_mk 933 (by decide +kernel) (by decide +kernel), by decide +kernel, by decide +kernel, by decide +kernel⟩
theorem sL_dispute : KSH RL 159 yL_dispute cL_dispute 5 (some FieldType.int) [(0, 10, 13, 13), (0, 10, 17, 15), (0, 10, 21, 17)] 4 := ⟨TBL_mk 946 (by decide +kernel) (by decide +kernel), TBL_mk 947 (by decide +kernel) (by decide +kernel), TBL_mk 52 (by decide +kernel) (by decide +kernel), TBL_mk 948 (by decide +kernel) (by decide +kernel), by decide +kernel, by decide +kernel, by decide +kernel⟩
theorem sL_owes : KSH RL 162 yL_owes cL_owes 4 (some FieldType.int) [(0, 9, 12, 13)] 3 := ⟨TBL_mk 954 (by decide +kernel) (by decide +kernel), TBL_mk 955 (by decide +kernel) (by decide +kernel), TBL_mk 52 (by decide +kernel) (by decide +kernel), TBL_mk 956 (by decide +kernel) (by decide +kernel), by decide +kernel, by decide +kernel, by decide +kernel⟩
theorem sL_account : KSH RL 165 yL_account cL_account 4 (some FieldType.int) [(0, 9, 12, 13)] 3 := ⟨TBL_mk 961 (by decide +kernel) (by decide +kernel), TBL_mk 962 (by decide +kernel) (by decide +kernel), TBL_mk 52 (by decide +kernel) (by decide +kernel), TBL_mk 963 (by decide +kernel) (by decide +kernel), by decide +kernel, by decide +kernel, by decide +kernel⟩
def wB (z : Int) : Int := if z = 0 then 0 else 1
theorem LQ_yes2 {t0 ao mo : Nat} {ad : Nat → Nat} {L : Ly} {Y : Mm} {Mr M2 : Mo} {w : Int → Int} {P : Mo → Int → Prop} {r zz x : Int} (hP : ∀ M3 r3, P M3 r3 → M3 = M2 ∧ r3 = r) (h0 : M2.1 0 = 0) (hz : rng zz) (ez : iv zz = iv r) (hw : w zz = x) (hcl : clR t0 ao mo ad L Mr M2 Y) : LQ t0 ao mo ad L Mr w P (some (iv 0)) (sA Y ao 0 x) := by
  subst hw
  exact LQ_yes hP h0 hz ez hcl
def LQ0 (t0 ao mo : Nat) (ad : Nat → Nat) (L : Ly) (Mr : Mo) (P : Mo → Prop) (v : Option Value) (Y : Mm) : Prop := RR mo ad Y Mr ∧ ∃ k, v = some (iv k) ∧ (0 ≤ k ∧ k ≤ 3) ∧ ∀ M2, P M2 → M2.1 0 = k ∧ clR t0 ao mo ad L Mr M2 Y
theorem LQ_pass {t0 ao mo jj : Nat} {ad : Nat → Nat} {L : Ly} {Y : Mm} {Z : Zs} {Mr M : Mo} {g : Int} (hZ : ZM Z M) (hI : Iv M jj) (hg : 1 ≤ g ∧ g ≤ 120) (hle : M.1 1 + g ≤ 20000) (hQ : paQ t0 ao mo ad L Z Mr (pcN M (yC Z 6) g.toNat) Y) : LQ t0 ao mo ad L Mr (fun z => z) (pasP M (yC Z 6) g) (some (iv 0)) (sA Y ao 0 (M.1 1 + g)) := by
  refine ⟨?_, 0, rfl, by omega, fun M2 r hP => ?_⟩
  · obtain ⟨L2, Z2, h1, -⟩ := hQ
    exact h1.out.1
  have o0 := hI.1.1
  unfold okSc at o0
  rcases hP with ⟨c, -⟩ | ⟨-, c, -⟩ | ⟨-, -, hN, rfl⟩
  · exact absurd hg c
  · omega
  · have hJ := passN_J hI g.toNat M2 (by omega) hN
    obtain ⟨L2, Z2, h1, h2, h3, h4, h5, h6, h7, h8, h9, h10⟩ := hQ
    have hn : ((yC Z 6 : Nat) : Int) = M.1 30 := hZ.1.1.2.2.2.2.2.1
    obtain ⟨-, -, e1, e0⟩ := PJ_iv hI hn hJ
    refine ⟨e0, fun _ => ⟨M.1 1 + g, by omega, by rw [e1, show ((g.toNat : Nat) : Int) = g by omega], if_pos ⟨rfl, rfl⟩⟩, L2, Z2, h1.out, zm_pass hZ hI hJ h2 h3 h4 h6 h7 h8 h9 h10, h5⟩
theorem LQ_pass1 {t0 ao mo : Nat} {ad : Nat → Nat} {L : Ly} {X : Mm} {Z : Zs} {Mr M : Mo} {g : Int} {w : Int → Int} (h : CX t0 ao mo ad L X Z Mr) (hZ : ZM Z M) (hg : ¬ (1 ≤ g ∧ g ≤ 120)) : LQ t0 ao mo ad L Mr w (pasP M (yC Z 6) g) (some (iv 1)) X := by
  refine ⟨h.1, 1, rfl, by omega, fun M2 r hP => ?_⟩
  rcases hP with ⟨-, rfl, rfl⟩ | ⟨c, -⟩ | ⟨c, -⟩
  · exact ⟨rfl, fun e => absurd e (by decide), L, Z, h, ZM_0 hZ, rfl⟩
  · exact absurd c hg
  · exact absurd c hg
theorem LQ_pass2 {t0 ao mo : Nat} {ad : Nat → Nat} {L : Ly} {X : Mm} {Z : Zs} {Mr M : Mo} {g : Int} {w : Int → Int} (h : CX t0 ao mo ad L X Z Mr) (hZ : ZM Z M) (hg : 1 ≤ g ∧ g ≤ 120) (hle : 20000 < M.1 1 + g) : LQ t0 ao mo ad L Mr w (pasP M (yC Z 6) g) (some (iv 2)) X := by
  refine ⟨h.1, 2, rfl, by omega, fun M2 r hP => ?_⟩
  rcases hP with ⟨c, -⟩ | ⟨-, -, rfl, rfl⟩ | ⟨-, c, -⟩
  · exact absurd hg c
  · exact ⟨rfl, fun e => absurd e (by decide), L, Z, h, ZM_0 hZ, rfl⟩
  · omega
section LAW2
variable {l : Launch} {D : va_G} {kA : Nat → ClassId} {b t0 ao mo jj : Nat} {ad : Nat → Nat} {L : Ly} {X Y : Mm} {Z : Zs} {Mr M : Mo} {n : Nat}
set_option maxHeartbeats 2000000 in
set_option maxRecDepth 20000 in
theorem c_L_socket (hl : l.stackTraces = false) (h : CX t0 ao mo ad L X Z Mr) (hZ : ZM Z M) (hI : Iv M jj) {p0 p1 : Int} (h0 : rng p0) (h1 : rng p1) : CtH l D kA b t0 yL_socket cL_socket 5 (some FieldType.int) [(0, 10, 13, 13), (0, 10, 17, 15), (0, 10, 21, 17)] 8 203 [rv (some (lA L 11 0)), iv p0, iv p1, rv (some ao)] X 8 2100 (LQ t0 ao mo ad L Mr (fun z => z) (fun M2 r => M2 = (socS M p0 p1).1 ∧ r = (socS M p0 p1).2)) pF := by
  refine CtH_mk hl (by decide) (Nat.le_of_ble_eq_true rfl) rfl ?_
  intro p9 e9 s9 m9 args9 below9 meth9 c9 C hr hx0
  have hKy := (yd_C h hZ.1).1
  refine V_aload_n C dL_socket_0 rfl ?_
  refine V_iconst C dL_socket_1 ?_
  refine V_aload_n C dL_socket_2 rfl ?_
  refine V_iload_n C dL_socket_3 rfl ?_
  refine V_iload_n C dL_socket_4 rfl ?_
  refine V_callV C (As := [_, _]) (c_X9_socket hl h hZ hI h0 h1) kL_7 hKy rfl rfl (Nat.le_of_ble_eq_true rfl) ⟨Nat.le_of_ble_eq_true rfl, Nat.le_of_ble_eq_true rfl⟩ ⟨(by first | exact Nat.le_of_ble_eq_true rfl | (dsimp only; omega)), (by first | exact Nat.le_of_ble_eq_true rfl | (dsimp only; omega))⟩ dL_socket_5 (fun E Y hp => ?_) (fun v Y hp => ?_)
  · obtain ⟨he, hcl⟩ := hp
    rcases he with ⟨rfl, h9⟩ | ⟨rfl, h9⟩ | ⟨rfl, h9⟩
    · refine V_catch C hx0 [] ⟨0, 10, 13, 13⟩ [⟨0, 10, 17, 15⟩, ⟨0, 10, 21, 17⟩] rfl (fun z hz => absurd hz (List.not_mem_nil)) (by decide) (by decide) xL_13 xN_13 (tgt := 13) rfl (fun q => ?_)
      refine V_astore C dL_socket_13 (by decide) rfl ?_
      refine V_iconst C dL_socket_15 ?_
      exact V_iret C (by first | exact Nat.le_of_ble_eq_true rfl | (dsimp only; omega) | omega) (by first | exact Nat.le_of_ble_eq_true rfl | (dsimp only; omega) | omega) (LQ_no (fun M3 r3 g => g) h9 (by decide) hcl) hr dL_socket_16
    · refine V_catch C hx0 [⟨0, 10, 13, 13⟩] ⟨0, 10, 17, 15⟩ [⟨0, 10, 21, 17⟩] rfl (fun z hz => by simp only [List.mem_cons, List.not_mem_nil, or_false] at hz; rcases hz with rfl; exact Or.inr ⟨by decide, _, xL_13, C.n1⟩) (by decide) (by decide) xL_15 xN_15 (tgt := 17) rfl (fun q => ?_)
      refine V_astore C dL_socket_17 (by decide) rfl ?_
      refine V_iconst C dL_socket_19 ?_
      exact V_iret C (by first | exact Nat.le_of_ble_eq_true rfl | (dsimp only; omega) | omega) (by first | exact Nat.le_of_ble_eq_true rfl | (dsimp only; omega) | omega) (LQ_no (fun M3 r3 g => g) h9 (by decide) hcl) hr dL_socket_20
    · refine V_catch C hx0 [⟨0, 10, 13, 13⟩, ⟨0, 10, 17, 15⟩] ⟨0, 10, 21, 17⟩ [] rfl (by intro z hz; simp only [List.mem_cons, List.not_mem_nil, or_false] at hz; rcases hz with rfl | rfl; exact Or.inr ⟨by decide, _, xL_13, C.n2⟩; exact Or.inr ⟨by decide, _, xL_15, C.n3⟩) (by decide) (by decide) xL_17 xN_17 (tgt := 21) rfl (fun q => ?_)
      refine V_astore C dL_socket_21 (by decide) rfl ?_
      refine V_iconst C dL_socket_23 ?_
      exact V_iret C (by first | exact Nat.le_of_ble_eq_true rfl | (dsimp only; omega) | omega) (by first | exact Nat.le_of_ble_eq_true rfl | (dsimp only; omega) | omega) (LQ_no (fun M3 r3 g => g) h9 (by decide) hcl) hr dL_socket_24
  obtain ⟨h9, rfl, hcl⟩ := hp
  have hao := clR_ao hcl
  obtain ⟨zz, hz, ez⟩ := iv_rng ((socS M p0 p1).2)
  rw [← ez]
  refine V_i2l C dL_socket_8 hz ?_
  refine V_last C (j := 0) (n := 1) hao.1 hao.2 (by decide) (by decide) rfl dL_socket_9 ?_
  refine V_goto C dL_socket_10 ?_
  refine V_iconst C dL_socket_25 ?_
  exact V_iret C (by first | exact Nat.le_of_ble_eq_true rfl | (dsimp only; omega) | omega) (by first | exact Nat.le_of_ble_eq_true rfl | (dsimp only; omega) | omega) (LQ_yes2 (fun M3 r3 g => g) h9 hz ez rfl hcl) hr dL_socket_26
set_option maxHeartbeats 2000000 in
set_option maxRecDepth 20000 in
theorem c_L_car (hl : l.stackTraces = false) (h : CX t0 ao mo ad L X Z Mr) (hZ : ZM Z M) (hI : Iv M jj) {p0 p1 p2 : Int} (h0 : rng p0) (h1 : rng p1) (h2 : rng p2) : CtH l D kA b t0 yL_car cL_car 6 (some FieldType.int) [(0, 12, 15, 15), (0, 12, 19, 17)] 8 203 [rv (some (lA L 11 0)), iv p0, iv p1, iv p2, rv (some ao)] X 8 2100 (LQ t0 ao mo ad L Mr (fun z => z) (fun M2 r => M2 = (carS M p0 p1 p2).1 ∧ r = (carS M p0 p1 p2).2)) pF := by
  refine CtH_mk hl (by decide) (Nat.le_of_ble_eq_true rfl) rfl ?_
  intro p9 e9 s9 m9 args9 below9 meth9 c9 C hr hx0
  have hKy := (yd_C h hZ.1).1
  refine V_aload C dL_car_0 rfl ?_
  refine V_iconst C dL_car_2 ?_
  refine V_aload_n C dL_car_3 rfl ?_
  refine V_iload_n C dL_car_4 rfl ?_
  refine V_iload_n C dL_car_5 rfl ?_
  refine V_iload_n C dL_car_6 rfl ?_
  refine V_callV C (As := [_, _, _]) (c_X9_car hl h hZ hI h0 h1 h2) kL_19 hKy rfl rfl (Nat.le_of_ble_eq_true rfl) ⟨Nat.le_of_ble_eq_true rfl, Nat.le_of_ble_eq_true rfl⟩ ⟨(by first | exact Nat.le_of_ble_eq_true rfl | (dsimp only; omega)), (by first | exact Nat.le_of_ble_eq_true rfl | (dsimp only; omega))⟩ dL_car_7 (fun E Y hp => ?_) (fun v Y hp => ?_)
  · obtain ⟨he, hcl⟩ := hp
    rcases he with ⟨rfl, h9⟩ | ⟨rfl, h9⟩
    · refine V_catch C hx0 [] ⟨0, 12, 15, 15⟩ [⟨0, 12, 19, 17⟩] rfl (fun z hz => absurd hz (List.not_mem_nil)) (by decide) (by decide) xL_15 xN_15 (tgt := 15) rfl (fun q => ?_)
      refine V_astore C dL_car_15 (by decide) rfl ?_
      refine V_iconst C dL_car_17 ?_
      exact V_iret C (by first | exact Nat.le_of_ble_eq_true rfl | (dsimp only; omega) | omega) (by first | exact Nat.le_of_ble_eq_true rfl | (dsimp only; omega) | omega) (LQ_no (fun M3 r3 g => g) h9 (by decide) hcl) hr dL_car_18
    · refine V_catch C hx0 [⟨0, 12, 15, 15⟩] ⟨0, 12, 19, 17⟩ [] rfl (fun z hz => by simp only [List.mem_cons, List.not_mem_nil, or_false] at hz; rcases hz with rfl; exact Or.inr ⟨by decide, _, xL_15, C.n3⟩) (by decide) (by decide) xL_17 xN_17 (tgt := 19) rfl (fun q => ?_)
      refine V_astore C dL_car_19 (by decide) rfl ?_
      refine V_iconst C dL_car_21 ?_
      exact V_iret C (by first | exact Nat.le_of_ble_eq_true rfl | (dsimp only; omega) | omega) (by first | exact Nat.le_of_ble_eq_true rfl | (dsimp only; omega) | omega) (LQ_no (fun M3 r3 g => g) h9 (by decide) hcl) hr dL_car_22
  obtain ⟨h9, rfl, hcl⟩ := hp
  have hao := clR_ao hcl
  obtain ⟨zz, hz, ez⟩ := iv_rng ((carS M p0 p1 p2).2)
  rw [← ez]
  refine V_i2l C dL_car_10 hz ?_
  refine V_last C (j := 0) (n := 1) hao.1 hao.2 (by decide) (by decide) rfl dL_car_11 ?_
  refine V_goto C dL_car_12 ?_
  refine V_iconst C dL_car_23 ?_
  exact V_iret C (by first | exact Nat.le_of_ble_eq_true rfl | (dsimp only; omega) | omega) (by first | exact Nat.le_of_ble_eq_true rfl | (dsimp only; omega) | omega) (LQ_yes2 (fun M3 r3 g => g) h9 hz ez rfl hcl) hr dL_car_24
set_option maxHeartbeats 2000000 in
set_option maxRecDepth 20000 in
theorem c_L_card (hl : l.stackTraces = false) (h : CX t0 ao mo ad L X Z Mr) (hZ : ZM Z M) (hI : Iv M jj) {p0 p1 : Int} (h0 : rng p0) (h1 : rng p1) : CtH l D kA b t0 yL_card cL_card 5 (some FieldType.int) [(0, 10, 13, 13), (0, 10, 17, 15), (0, 10, 21, 17)] 8 202 [rv (some (lA L 11 0)), iv p0, iv p1, rv (some ao)] X 8 2100 (LQ t0 ao mo ad L Mr (fun z => z) (fun M2 r => M2 = (cdS M p0 p1).1 ∧ r = (cdS M p0 p1).2)) pF := by
  refine CtH_mk hl (by decide) (Nat.le_of_ble_eq_true rfl) rfl ?_
  intro p9 e9 s9 m9 args9 below9 meth9 c9 C hr hx0
  have hKy := (yd_C h hZ.1).1
  refine V_aload_n C dL_card_0 rfl ?_
  refine V_iconst C dL_card_1 ?_
  refine V_aload_n C dL_card_2 rfl ?_
  refine V_iload_n C dL_card_3 rfl ?_
  refine V_iload_n C dL_card_4 rfl ?_
  refine V_callV C (As := [_, _]) (c_X9_card hl h hZ hI h0 h1) kL_23 hKy rfl rfl (Nat.le_of_ble_eq_true rfl) ⟨Nat.le_of_ble_eq_true rfl, Nat.le_of_ble_eq_true rfl⟩ ⟨(by first | exact Nat.le_of_ble_eq_true rfl | (dsimp only; omega)), (by first | exact Nat.le_of_ble_eq_true rfl | (dsimp only; omega))⟩ dL_card_5 (fun E Y hp => ?_) (fun v Y hp => ?_)
  · obtain ⟨he, hcl⟩ := hp
    rcases he with ⟨rfl, h9⟩ | ⟨rfl, h9⟩ | ⟨rfl, h9⟩
    · refine V_catch C hx0 [] ⟨0, 10, 13, 13⟩ [⟨0, 10, 17, 15⟩, ⟨0, 10, 21, 17⟩] rfl (fun z hz => absurd hz (List.not_mem_nil)) (by decide) (by decide) xL_13 xN_13 (tgt := 13) rfl (fun q => ?_)
      refine V_astore C dL_card_13 (by decide) rfl ?_
      refine V_iconst C dL_card_15 ?_
      exact V_iret C (by first | exact Nat.le_of_ble_eq_true rfl | (dsimp only; omega) | omega) (by first | exact Nat.le_of_ble_eq_true rfl | (dsimp only; omega) | omega) (LQ_no (fun M3 r3 g => g) h9 (by decide) hcl) hr dL_card_16
    · refine V_catch C hx0 [⟨0, 10, 13, 13⟩] ⟨0, 10, 17, 15⟩ [⟨0, 10, 21, 17⟩] rfl (fun z hz => by simp only [List.mem_cons, List.not_mem_nil, or_false] at hz; rcases hz with rfl; exact Or.inr ⟨by decide, _, xL_13, C.n1⟩) (by decide) (by decide) xL_15 xN_15 (tgt := 17) rfl (fun q => ?_)
      refine V_astore C dL_card_17 (by decide) rfl ?_
      refine V_iconst C dL_card_19 ?_
      exact V_iret C (by first | exact Nat.le_of_ble_eq_true rfl | (dsimp only; omega) | omega) (by first | exact Nat.le_of_ble_eq_true rfl | (dsimp only; omega) | omega) (LQ_no (fun M3 r3 g => g) h9 (by decide) hcl) hr dL_card_20
    · refine V_catch C hx0 [⟨0, 10, 13, 13⟩, ⟨0, 10, 17, 15⟩] ⟨0, 10, 21, 17⟩ [] rfl (by intro z hz; simp only [List.mem_cons, List.not_mem_nil, or_false] at hz; rcases hz with rfl | rfl; exact Or.inr ⟨by decide, _, xL_13, C.n2⟩; exact Or.inr ⟨by decide, _, xL_15, C.n3⟩) (by decide) (by decide) xL_17 xN_17 (tgt := 21) rfl (fun q => ?_)
      refine V_astore C dL_card_21 (by decide) rfl ?_
      refine V_iconst C dL_card_23 ?_
      exact V_iret C (by first | exact Nat.le_of_ble_eq_true rfl | (dsimp only; omega) | omega) (by first | exact Nat.le_of_ble_eq_true rfl | (dsimp only; omega) | omega) (LQ_no (fun M3 r3 g => g) h9 (by decide) hcl) hr dL_card_24
  obtain ⟨h9, rfl, hcl⟩ := hp
  have hao := clR_ao hcl
  obtain ⟨zz, hz, ez⟩ := iv_rng ((cdS M p0 p1).2)
  rw [← ez]
  refine V_i2l C dL_card_8 hz ?_
  refine V_last C (j := 0) (n := 1) hao.1 hao.2 (by decide) (by decide) rfl dL_card_9 ?_
  refine V_goto C dL_card_10 ?_
  refine V_iconst C dL_card_25 ?_
  exact V_iret C (by first | exact Nat.le_of_ble_eq_true rfl | (dsimp only; omega) | omega) (by first | exact Nat.le_of_ble_eq_true rfl | (dsimp only; omega) | omega) (LQ_yes2 (fun M3 r3 g => g) h9 hz ez rfl hcl) hr dL_card_26
set_option maxHeartbeats 2000000 in
set_option maxRecDepth 20000 in
theorem c_L_good (hl : l.stackTraces = false) (h : CX t0 ao mo ad L X Z Mr) (hZ : ZM Z M) (hI : Iv M jj) {p0 p1 : Int} (h0 : rng p0) (h1 : p1 = 0 ∨ p1 = 1) : CtH l D kA b t0 yL_good cL_good 5 (some FieldType.int) [(0, 17, 20, 13)] 8 135 [rv (some (lA L 11 0)), iv p0, iv p1, rv (some ao)] X 1 6 (LQ t0 ao mo ad L Mr wB (fun M2 r => M2 = (goodS M p0 p1).1 ∧ r = (goodS M p0 p1).2)) pF := by
  refine CtH_mk hl (by decide) (Nat.le_of_ble_eq_true rfl) rfl ?_
  intro p9 e9 s9 m9 args9 below9 meth9 c9 C hr hx0
  have hKy := (yd_C h hZ.1).1
  refine V_aload_n C dL_good_0 rfl ?_
  refine V_iconst C dL_good_1 ?_
  refine V_aload_n C dL_good_2 rfl ?_
  refine V_iload_n C dL_good_3 rfl ?_
  refine V_iload_n C dL_good_4 rfl ?_
  refine V_callV C (As := [_, _]) (c_X9_good hl h hZ hI h0 h1) kL_26 hKy rfl rfl (Nat.le_of_ble_eq_true rfl) ⟨Nat.le_of_ble_eq_true rfl, Nat.le_of_ble_eq_true rfl⟩ ⟨(by first | exact Nat.le_of_ble_eq_true rfl | (dsimp only; omega)), (by first | exact Nat.le_of_ble_eq_true rfl | (dsimp only; omega))⟩ dL_good_5 (fun E Y hp => ?_) (fun v Y hp => ?_)
  · obtain ⟨he, hcl⟩ := hp
    rcases he with ⟨rfl, h9⟩
    · refine V_catch C hx0 [] ⟨0, 17, 20, 13⟩ [] rfl (fun z hz => absurd hz (List.not_mem_nil)) (by decide) (by decide) xL_13 xN_13 (tgt := 20) rfl (fun q => ?_)
      refine V_astore C dL_good_20 (by decide) rfl ?_
      refine V_iconst C dL_good_22 ?_
      exact V_iret C (by first | exact Nat.le_of_ble_eq_true rfl | (dsimp only; omega) | omega) (by first | exact Nat.le_of_ble_eq_true rfl | (dsimp only; omega) | omega) (LQ_no (fun M3 r3 g => g) h9 (by decide) hcl) hr dL_good_23
  obtain ⟨h9, rfl, hcl⟩ := hp
  have hao := clR_ao hcl
  obtain ⟨zz, hz, ez⟩ := iv_rng ((goodS M p0 p1).2)
  rw [← ez]
  refine V_if_eq C dL_good_8 hz (fun h8 => ?_) (fun h8 => ?_)
  · refine V_lconst C dL_good_15 (z := 0) rfl ?_
    refine V_last C (j := 0) (n := 1) hao.1 hao.2 (by decide) (by decide) rfl dL_good_16 ?_
    refine V_goto C dL_good_17 ?_
    refine V_iconst C dL_good_24 ?_
    exact V_iret C (by first | exact Nat.le_of_ble_eq_true rfl | (dsimp only; omega) | omega) (by first | exact Nat.le_of_ble_eq_true rfl | (dsimp only; omega) | omega) (LQ_yes2 (fun M3 r3 g => g) h9 hz ez (by unfold wB; first | exact if_pos h8 | exact if_neg h8) hcl) hr dL_good_25
  · refine V_lconst C dL_good_11 (z := 1) rfl ?_
    refine V_goto C dL_good_12 ?_
    refine V_last C (j := 0) (n := 1) hao.1 hao.2 (by decide) (by decide) rfl dL_good_16 ?_
    refine V_goto C dL_good_17 ?_
    refine V_iconst C dL_good_24 ?_
    exact V_iret C (by first | exact Nat.le_of_ble_eq_true rfl | (dsimp only; omega) | omega) (by first | exact Nat.le_of_ble_eq_true rfl | (dsimp only; omega) | omega) (LQ_yes2 (fun M3 r3 g => g) h9 hz ez (by unfold wB; first | exact if_pos h8 | exact if_neg h8) hcl) hr dL_good_25
set_option maxHeartbeats 2000000 in
set_option maxRecDepth 20000 in
theorem c_L_set (hl : l.stackTraces = false) (h : CX t0 ao mo ad L X Z Mr) (hZ : ZM Z M) (hI : Iv M jj) {p0 p1 : Int} (h0 : rng p0) (h1 : rng p1) : CtH l D kA b t0 yL_set cL_set 5 (some FieldType.int) [(0, 10, 13, 15)] 9 156 [rv (some (lA L 11 0)), iv p0, iv p1, rv (some ao)] X 2 12 (LQ t0 ao mo ad L Mr (fun z => z) (fun M2 r => M2 = (setSS M p0 p1).1 ∧ r = (setSS M p0 p1).2)) pF := by
  refine CtH_mk hl (by decide) (Nat.le_of_ble_eq_true rfl) rfl ?_
  intro p9 e9 s9 m9 args9 below9 meth9 c9 C hr hx0
  have hKy := (yd_C h hZ.1).1
  refine V_aload_n C dL_set_0 rfl ?_
  refine V_iconst C dL_set_1 ?_
  refine V_aload_n C dL_set_2 rfl ?_
  refine V_iload_n C dL_set_3 rfl ?_
  refine V_iload_n C dL_set_4 rfl ?_
  refine V_callV C (As := [_, _]) (c_X9_set hl h hZ hI h0 h1) kL_30 hKy rfl rfl (Nat.le_of_ble_eq_true rfl) ⟨Nat.le_of_ble_eq_true rfl, Nat.le_of_ble_eq_true rfl⟩ ⟨(by first | exact Nat.le_of_ble_eq_true rfl | (dsimp only; omega)), (by first | exact Nat.le_of_ble_eq_true rfl | (dsimp only; omega))⟩ dL_set_5 (fun E Y hp => ?_) (fun v Y hp => ?_)
  · obtain ⟨he, hcl⟩ := hp
    rcases he with ⟨rfl, h9⟩
    · refine V_catch C hx0 [] ⟨0, 10, 13, 15⟩ [] rfl (fun z hz => absurd hz (List.not_mem_nil)) (by decide) (by decide) xL_15 xN_15 (tgt := 13) rfl (fun q => ?_)
      refine V_astore C dL_set_13 (by decide) rfl ?_
      refine V_iconst C dL_set_15 ?_
      exact V_iret C (by first | exact Nat.le_of_ble_eq_true rfl | (dsimp only; omega) | omega) (by first | exact Nat.le_of_ble_eq_true rfl | (dsimp only; omega) | omega) (LQ_no (fun M3 r3 g => g) h9 (by decide) hcl) hr dL_set_16
  obtain ⟨h9, rfl, hcl⟩ := hp
  have hao := clR_ao hcl
  obtain ⟨zz, hz, ez⟩ := iv_rng ((setSS M p0 p1).2)
  rw [← ez]
  refine V_i2l C dL_set_8 hz ?_
  refine V_last C (j := 0) (n := 1) hao.1 hao.2 (by decide) (by decide) rfl dL_set_9 ?_
  refine V_goto C dL_set_10 ?_
  refine V_iconst C dL_set_17 ?_
  exact V_iret C (by first | exact Nat.le_of_ble_eq_true rfl | (dsimp only; omega) | omega) (by first | exact Nat.le_of_ble_eq_true rfl | (dsimp only; omega) | omega) (LQ_yes2 (fun M3 r3 g => g) h9 hz ez rfl hcl) hr dL_set_18
set_option maxHeartbeats 2000000 in
set_option maxRecDepth 20000 in
theorem c_L_fault (hl : l.stackTraces = false) (h : CX t0 ao mo ad L X Z Mr) (hZ : ZM Z M) (hI : Iv M jj) {p0 p1 : Int} (h0 : rng p0) (h1 : p1 = 0 ∨ p1 = 1) : CtH l D kA b t0 yL_fault cL_fault 5 (some FieldType.int) [(0, 17, 20, 13)] 8 135 [rv (some (lA L 11 0)), iv p0, iv p1, rv (some ao)] X 1 6 (LQ t0 ao mo ad L Mr wB (fun M2 r => M2 = (fauS M p0 p1).1 ∧ r = (fauS M p0 p1).2)) pF := by
  refine CtH_mk hl (by decide) (Nat.le_of_ble_eq_true rfl) rfl ?_
  intro p9 e9 s9 m9 args9 below9 meth9 c9 C hr hx0
  have hKy := (yd_C h hZ.1).1
  refine V_aload_n C dL_fault_0 rfl ?_
  refine V_iconst C dL_fault_1 ?_
  refine V_aload_n C dL_fault_2 rfl ?_
  refine V_iload_n C dL_fault_3 rfl ?_
  refine V_iload_n C dL_fault_4 rfl ?_
  refine V_callV C (As := [_, _]) (c_X9_fault hl h hZ hI h0 h1) kL_33 hKy rfl rfl (Nat.le_of_ble_eq_true rfl) ⟨Nat.le_of_ble_eq_true rfl, Nat.le_of_ble_eq_true rfl⟩ ⟨(by first | exact Nat.le_of_ble_eq_true rfl | (dsimp only; omega)), (by first | exact Nat.le_of_ble_eq_true rfl | (dsimp only; omega))⟩ dL_fault_5 (fun E Y hp => ?_) (fun v Y hp => ?_)
  · obtain ⟨he, hcl⟩ := hp
    rcases he with ⟨rfl, h9⟩
    · refine V_catch C hx0 [] ⟨0, 17, 20, 13⟩ [] rfl (fun z hz => absurd hz (List.not_mem_nil)) (by decide) (by decide) xL_13 xN_13 (tgt := 20) rfl (fun q => ?_)
      refine V_astore C dL_fault_20 (by decide) rfl ?_
      refine V_iconst C dL_fault_22 ?_
      exact V_iret C (by first | exact Nat.le_of_ble_eq_true rfl | (dsimp only; omega) | omega) (by first | exact Nat.le_of_ble_eq_true rfl | (dsimp only; omega) | omega) (LQ_no (fun M3 r3 g => g) h9 (by decide) hcl) hr dL_fault_23
  obtain ⟨h9, rfl, hcl⟩ := hp
  have hao := clR_ao hcl
  obtain ⟨zz, hz, ez⟩ := iv_rng ((fauS M p0 p1).2)
  rw [← ez]
  refine V_if_eq C dL_fault_8 hz (fun h8 => ?_) (fun h8 => ?_)
  · refine V_lconst C dL_fault_15 (z := 0) rfl ?_
    refine V_last C (j := 0) (n := 1) hao.1 hao.2 (by decide) (by decide) rfl dL_fault_16 ?_
    refine V_goto C dL_fault_17 ?_
    refine V_iconst C dL_fault_24 ?_
    exact V_iret C (by first | exact Nat.le_of_ble_eq_true rfl | (dsimp only; omega) | omega) (by first | exact Nat.le_of_ble_eq_true rfl | (dsimp only; omega) | omega) (LQ_yes2 (fun M3 r3 g => g) h9 hz ez (by unfold wB; first | exact if_pos h8 | exact if_neg h8) hcl) hr dL_fault_25
  · refine V_lconst C dL_fault_11 (z := 1) rfl ?_
    refine V_goto C dL_fault_12 ?_
    refine V_last C (j := 0) (n := 1) hao.1 hao.2 (by decide) (by decide) rfl dL_fault_16 ?_
    refine V_goto C dL_fault_17 ?_
    refine V_iconst C dL_fault_24 ?_
    exact V_iret C (by first | exact Nat.le_of_ble_eq_true rfl | (dsimp only; omega) | omega) (by first | exact Nat.le_of_ble_eq_true rfl | (dsimp only; omega) | omega) (LQ_yes2 (fun M3 r3 g => g) h9 hz ez (by unfold wB; first | exact if_pos h8 | exact if_neg h8) hcl) hr dL_fault_25
set_option maxHeartbeats 2000000 in
set_option maxRecDepth 20000 in
theorem c_L_link (hl : l.stackTraces = false) (h : CX t0 ao mo ad L X Z Mr) (hZ : ZM Z M) (hI : Iv M jj) {p0 p1 : Int} (h0 : rng p0) (h1 : p1 = 0 ∨ p1 = 1) : CtH l D kA b t0 yL_link cL_link 5 (some FieldType.int) [(0, 10, 13, 13)] 8 137 [rv (some (lA L 11 0)), iv p0, iv p1, rv (some ao)] X 2 12 (LQ t0 ao mo ad L Mr (fun z => z) (fun M2 r => M2 = (linS M (yC Z 6) p0 p1).1 ∧ r = (linS M (yC Z 6) p0 p1).2)) pF := by
  refine CtH_mk hl (by decide) (Nat.le_of_ble_eq_true rfl) rfl ?_
  intro p9 e9 s9 m9 args9 below9 meth9 c9 C hr hx0
  have hKy := (yd_C h hZ.1).1
  refine V_aload_n C dL_link_0 rfl ?_
  refine V_iconst C dL_link_1 ?_
  refine V_aload_n C dL_link_2 rfl ?_
  refine V_iload_n C dL_link_3 rfl ?_
  refine V_iload_n C dL_link_4 rfl ?_
  refine V_callV C (As := [_, _]) (c_X9_link hl h hZ hI h0 h1 rfl) kL_36 hKy rfl rfl (Nat.le_of_ble_eq_true rfl) ⟨Nat.le_of_ble_eq_true rfl, Nat.le_of_ble_eq_true rfl⟩ ⟨(by first | exact Nat.le_of_ble_eq_true rfl | (dsimp only; omega)), (by first | exact Nat.le_of_ble_eq_true rfl | (dsimp only; omega))⟩ dL_link_5 (fun E Y hp => ?_) (fun v Y hp => ?_)
  · obtain ⟨he, hcl⟩ := hp
    rcases he with ⟨rfl, h9⟩
    · refine V_catch C hx0 [] ⟨0, 10, 13, 13⟩ [] rfl (fun z hz => absurd hz (List.not_mem_nil)) (by decide) (by decide) xL_13 xN_13 (tgt := 13) rfl (fun q => ?_)
      refine V_astore C dL_link_13 (by decide) rfl ?_
      refine V_iconst C dL_link_15 ?_
      exact V_iret C (by first | exact Nat.le_of_ble_eq_true rfl | (dsimp only; omega) | omega) (by first | exact Nat.le_of_ble_eq_true rfl | (dsimp only; omega) | omega) (LQ_no (fun M3 r3 g => g) h9 (by decide) hcl) hr dL_link_16
  obtain ⟨h9, rfl, hcl⟩ := hp
  have hao := clR_ao hcl
  obtain ⟨zz, hz, ez⟩ := iv_rng ((linS M (yC Z 6) p0 p1).2)
  rw [← ez]
  refine V_i2l C dL_link_8 hz ?_
  refine V_last C (j := 0) (n := 1) hao.1 hao.2 (by decide) (by decide) rfl dL_link_9 ?_
  refine V_goto C dL_link_10 ?_
  refine V_iconst C dL_link_17 ?_
  exact V_iret C (by first | exact Nat.le_of_ble_eq_true rfl | (dsimp only; omega) | omega) (by first | exact Nat.le_of_ble_eq_true rfl | (dsimp only; omega) | omega) (LQ_yes2 (fun M3 r3 g => g) h9 hz ez rfl hcl) hr dL_link_18
set_option maxHeartbeats 2000000 in
set_option maxRecDepth 20000 in
theorem c_L_tariff (hl : l.stackTraces = false) (h : CX t0 ao mo ad L X Z Mr) (hZ : ZM Z M) (hI : Iv M jj) {p0 p1 p2 p3 p4 : Int} (h0 : rng p0) (h1 : rng p1) (h2 : rng p2) (h3 : rng p3) (h4 : rng p4) : CtH l D kA b t0 yL_tariff cL_tariff 7 (some FieldType.int) [(0, 11, 14, 13), (0, 11, 18, 15)] 8 138 [rv (some (lA L 11 0)), iv p0, iv p1, iv p2, iv p3, iv p4] X 8 40 (LQ0 t0 ao mo ad L Mr (fun M2 => M2 = tarS M p0 p1 p2 p3 p4)) pF := by
  refine CtH_mk hl (by decide) (Nat.le_of_ble_eq_true rfl) rfl ?_
  intro p9 e9 s9 m9 args9 below9 meth9 c9 C hr hx0
  have hKy := (yd_C h hZ.1).1
  refine V_aload_n C dL_tariff_0 rfl ?_
  refine V_iload_n C dL_tariff_1 rfl ?_
  refine V_iload_n C dL_tariff_2 rfl ?_
  refine V_iload_n C dL_tariff_3 rfl ?_
  refine V_iload C dL_tariff_4 rfl ?_
  refine V_iload C dL_tariff_6 rfl ?_
  refine V_callV C (As := [_, _, _, _, _]) (c_X9_tariff hl h hZ hI h0 h1 h2 h3 h4) kL_40 hKy rfl rfl (Nat.le_of_ble_eq_true rfl) ⟨Nat.le_of_ble_eq_true rfl, Nat.le_of_ble_eq_true rfl⟩ ⟨(by first | exact Nat.le_of_ble_eq_true rfl | (dsimp only; omega)), (by first | exact Nat.le_of_ble_eq_true rfl | (dsimp only; omega))⟩ dL_tariff_8 (fun E Y hp => ?_) (fun v Y hp => ?_)
  · obtain ⟨he, hcl⟩ := hp
    rcases he with ⟨rfl, h9⟩ | ⟨rfl, h9⟩
    · refine V_catch C hx0 [] ⟨0, 11, 14, 13⟩ [⟨0, 11, 18, 15⟩] rfl (fun z hz => absurd hz (List.not_mem_nil)) (by decide) (by decide) xL_13 xN_13 (tgt := 14) rfl (fun q => ?_)
      refine V_astore C dL_tariff_14 (by decide) rfl ?_
      refine V_iconst C dL_tariff_16 ?_
      exact V_iret C (by first | exact Nat.le_of_ble_eq_true rfl | (dsimp only; omega) | omega) (by first | exact Nat.le_of_ble_eq_true rfl | (dsimp only; omega) | omega) (⟨clR_rr hcl, _, rfl, by decide, fun M3 hP => by subst hP; exact ⟨h9, hcl⟩⟩) hr dL_tariff_17
    · refine V_catch C hx0 [⟨0, 11, 14, 13⟩] ⟨0, 11, 18, 15⟩ [] rfl (fun z hz => by simp only [List.mem_cons, List.not_mem_nil, or_false] at hz; rcases hz with rfl; exact Or.inr ⟨by decide, _, xL_13, C.n1⟩) (by decide) (by decide) xL_15 xN_15 (tgt := 18) rfl (fun q => ?_)
      refine V_astore C dL_tariff_18 (by decide) rfl ?_
      refine V_iconst C dL_tariff_20 ?_
      exact V_iret C (by first | exact Nat.le_of_ble_eq_true rfl | (dsimp only; omega) | omega) (by first | exact Nat.le_of_ble_eq_true rfl | (dsimp only; omega) | omega) (⟨clR_rr hcl, _, rfl, by decide, fun M3 hP => by subst hP; exact ⟨h9, hcl⟩⟩) hr dL_tariff_21
  obtain ⟨h9, rfl, hcl⟩ := hp
  refine V_goto C dL_tariff_11 ?_
  refine V_iconst C dL_tariff_22 ?_
  exact V_iret C (by first | exact Nat.le_of_ble_eq_true rfl | (dsimp only; omega) | omega) (by first | exact Nat.le_of_ble_eq_true rfl | (dsimp only; omega) | omega) ⟨clR_rr hcl, _, rfl, by decide, fun M3 hP => by subst hP; exact ⟨h9, hcl⟩⟩ hr dL_tariff_23
set_option maxHeartbeats 2000000 in
set_option maxRecDepth 20000 in
theorem c_L_book (hl : l.stackTraces = false) (h : CX t0 ao mo ad L X Z Mr) (hZ : ZM Z M) (hI : Iv M jj) {p0 p1 p2 p3 : Int} (h0 : rng p0) (h1 : rng p1) (h2 : rng p2) (h3 : rng p3) : CtH l D kA b t0 yL_book cL_book 7 (some FieldType.int) [(0, 14, 17, 13), (0, 14, 21, 15), (0, 14, 25, 17)] 8 206 [rv (some (lA L 11 0)), iv p0, iv p1, iv p2, iv p3, rv (some ao)] X 8 2100 (LQ t0 ao mo ad L Mr (fun z => z) (booP M p0 p1 p2 p3)) pF := by
  refine CtH_mk hl (by decide) (Nat.le_of_ble_eq_true rfl) rfl ?_
  intro p9 e9 s9 m9 args9 below9 meth9 c9 C hr hx0
  have hKy := (yd_C h hZ.1).1
  refine V_aload C dL_book_0 rfl ?_
  refine V_iconst C dL_book_2 ?_
  refine V_aload_n C dL_book_3 rfl ?_
  refine V_iload_n C dL_book_4 rfl ?_
  refine V_iload_n C dL_book_5 rfl ?_
  refine V_iload_n C dL_book_6 rfl ?_
  refine V_iload C dL_book_7 rfl ?_
  refine V_callV C (As := [_, _, _, _]) (c_X9_book hl h hZ hI h0 h1 h2 h3) kL_44 hKy rfl rfl (Nat.le_of_ble_eq_true rfl) ⟨Nat.le_of_ble_eq_true rfl, Nat.le_of_ble_eq_true rfl⟩ ⟨(by first | exact Nat.le_of_ble_eq_true rfl | (dsimp only; omega)), (by first | exact Nat.le_of_ble_eq_true rfl | (dsimp only; omega))⟩ dL_book_9 (fun E Y hp => ?_) (fun v Y hp => ?_)
  · obtain ⟨M2, r, hP, he, hcl⟩ := hp
    rcases he with ⟨rfl, h9⟩ | ⟨rfl, h9⟩ | ⟨rfl, h9⟩
    · refine V_catch C hx0 [] ⟨0, 14, 17, 13⟩ [⟨0, 14, 21, 15⟩, ⟨0, 14, 25, 17⟩] rfl (fun z hz => absurd hz (List.not_mem_nil)) (by decide) (by decide) xL_13 xN_13 (tgt := 17) rfl (fun q => ?_)
      refine V_astore C dL_book_17 (by decide) rfl ?_
      refine V_iconst C dL_book_19 ?_
      exact V_iret C (by first | exact Nat.le_of_ble_eq_true rfl | (dsimp only; omega) | omega) (by first | exact Nat.le_of_ble_eq_true rfl | (dsimp only; omega) | omega) (LQ_no (fun M3 r3 g => booP_uni hP g) h9 (by decide) hcl) hr dL_book_20
    · refine V_catch C hx0 [⟨0, 14, 17, 13⟩] ⟨0, 14, 21, 15⟩ [⟨0, 14, 25, 17⟩] rfl (fun z hz => by simp only [List.mem_cons, List.not_mem_nil, or_false] at hz; rcases hz with rfl; exact Or.inr ⟨by decide, _, xL_13, C.n1⟩) (by decide) (by decide) xL_15 xN_15 (tgt := 21) rfl (fun q => ?_)
      refine V_astore C dL_book_21 (by decide) rfl ?_
      refine V_iconst C dL_book_23 ?_
      exact V_iret C (by first | exact Nat.le_of_ble_eq_true rfl | (dsimp only; omega) | omega) (by first | exact Nat.le_of_ble_eq_true rfl | (dsimp only; omega) | omega) (LQ_no (fun M3 r3 g => booP_uni hP g) h9 (by decide) hcl) hr dL_book_24
    · refine V_catch C hx0 [⟨0, 14, 17, 13⟩, ⟨0, 14, 21, 15⟩] ⟨0, 14, 25, 17⟩ [] rfl (by intro z hz; simp only [List.mem_cons, List.not_mem_nil, or_false] at hz; rcases hz with rfl | rfl; exact Or.inr ⟨by decide, _, xL_13, C.n2⟩; exact Or.inr ⟨by decide, _, xL_15, C.n3⟩) (by decide) (by decide) xL_17 xN_17 (tgt := 25) rfl (fun q => ?_)
      refine V_astore C dL_book_25 (by decide) rfl ?_
      refine V_iconst C dL_book_27 ?_
      exact V_iret C (by first | exact Nat.le_of_ble_eq_true rfl | (dsimp only; omega) | omega) (by first | exact Nat.le_of_ble_eq_true rfl | (dsimp only; omega) | omega) (LQ_no (fun M3 r3 g => booP_uni hP g) h9 (by decide) hcl) hr dL_book_28
  obtain ⟨M2, r, hP, h9, rfl, hcl⟩ := hp
  have hao := clR_ao hcl
  obtain ⟨zz, hz, ez⟩ := iv_rng (r)
  rw [← ez]
  refine V_i2l C dL_book_12 hz ?_
  refine V_last C (j := 0) (n := 1) hao.1 hao.2 (by decide) (by decide) rfl dL_book_13 ?_
  refine V_goto C dL_book_14 ?_
  refine V_iconst C dL_book_29 ?_
  exact V_iret C (by first | exact Nat.le_of_ble_eq_true rfl | (dsimp only; omega) | omega) (by first | exact Nat.le_of_ble_eq_true rfl | (dsimp only; omega) | omega) (LQ_yes2 (fun M3 r3 g => booP_uni hP g) h9 hz ez rfl hcl) hr dL_book_30
set_option maxHeartbeats 2000000 in
set_option maxRecDepth 20000 in
theorem c_L_plug (hl : l.stackTraces = false) (h : CX t0 ao mo ad L X Z Mr) (hZ : ZM Z M) (hI : Iv M jj) {p0 p1 p2 : Int} (h0 : rng p0) (h1 : rng p1) (h2 : rng p2) : CtH l D kA b t0 yL_plug cL_plug 6 (some FieldType.int) [(0, 12, 15, 13), (0, 12, 19, 17)] 9 227 [rv (some (lA L 11 0)), iv p0, iv p1, iv p2, rv (some ao)] X 24 4400 (LQ t0 ao mo ad L Mr (fun z => z) (pluP M (yC Z 6) p0 p1 p2)) pF := by
  refine CtH_mk hl (by decide) (Nat.le_of_ble_eq_true rfl) rfl ?_
  intro p9 e9 s9 m9 args9 below9 meth9 c9 C hr hx0
  have hKy := (yd_C h hZ.1).1
  refine V_aload C dL_plug_0 rfl ?_
  refine V_iconst C dL_plug_2 ?_
  refine V_aload_n C dL_plug_3 rfl ?_
  refine V_iload_n C dL_plug_4 rfl ?_
  refine V_iload_n C dL_plug_5 rfl ?_
  refine V_iload_n C dL_plug_6 rfl ?_
  refine V_callV C (As := [_, _, _]) (c_X9_plug hl h hZ hI h0 h1 h2) kL_48 hKy rfl rfl (Nat.le_of_ble_eq_true rfl) ⟨Nat.le_of_ble_eq_true rfl, Nat.le_of_ble_eq_true rfl⟩ ⟨(by first | exact Nat.le_of_ble_eq_true rfl | (dsimp only; omega)), (by first | exact Nat.le_of_ble_eq_true rfl | (dsimp only; omega))⟩ dL_plug_7 (fun E Y hp => ?_) (fun v Y hp => ?_)
  · obtain ⟨M2, r, hP, he, hcl⟩ := hp
    rcases he with ⟨rfl, h9⟩ | ⟨rfl, h9⟩
    · refine V_catch C hx0 [] ⟨0, 12, 15, 13⟩ [⟨0, 12, 19, 17⟩] rfl (fun z hz => absurd hz (List.not_mem_nil)) (by decide) (by decide) xL_13 xN_13 (tgt := 15) rfl (fun q => ?_)
      refine V_astore C dL_plug_15 (by decide) rfl ?_
      refine V_iconst C dL_plug_17 ?_
      exact V_iret C (by first | exact Nat.le_of_ble_eq_true rfl | (dsimp only; omega) | omega) (by first | exact Nat.le_of_ble_eq_true rfl | (dsimp only; omega) | omega) (LQ_no (fun M3 r3 g => pluP_uni hP g) h9 (by decide) hcl) hr dL_plug_18
    · refine V_catch C hx0 [⟨0, 12, 15, 13⟩] ⟨0, 12, 19, 17⟩ [] rfl (fun z hz => by simp only [List.mem_cons, List.not_mem_nil, or_false] at hz; rcases hz with rfl; exact Or.inr ⟨by decide, _, xL_13, C.n2⟩) (by decide) (by decide) xL_17 xN_17 (tgt := 19) rfl (fun q => ?_)
      refine V_astore C dL_plug_19 (by decide) rfl ?_
      refine V_iconst C dL_plug_21 ?_
      exact V_iret C (by first | exact Nat.le_of_ble_eq_true rfl | (dsimp only; omega) | omega) (by first | exact Nat.le_of_ble_eq_true rfl | (dsimp only; omega) | omega) (LQ_no (fun M3 r3 g => pluP_uni hP g) h9 (by decide) hcl) hr dL_plug_22
  obtain ⟨M2, r, hP, h9, rfl, hcl⟩ := hp
  have hao := clR_ao hcl
  obtain ⟨zz, hz, ez⟩ := iv_rng (r)
  rw [← ez]
  refine V_i2l C dL_plug_10 hz ?_
  refine V_last C (j := 0) (n := 1) hao.1 hao.2 (by decide) (by decide) rfl dL_plug_11 ?_
  refine V_goto C dL_plug_12 ?_
  refine V_iconst C dL_plug_23 ?_
  exact V_iret C (by first | exact Nat.le_of_ble_eq_true rfl | (dsimp only; omega) | omega) (by first | exact Nat.le_of_ble_eq_true rfl | (dsimp only; omega) | omega) (LQ_yes2 (fun M3 r3 g => pluP_uni hP g) h9 hz ez rfl hcl) hr dL_plug_24
set_option maxHeartbeats 2000000 in
set_option maxRecDepth 20000 in
theorem c_L_unplug (hl : l.stackTraces = false) (h : CX t0 ao mo ad L X Z Mr) (hZ : ZM Z M) (hI : Iv M jj) {p0 : Int} (h0 : rng p0) : CtH l D kA b t0 yL_unplug cL_unplug 4 (some FieldType.int) [(0, 9, 12, 13), (0, 9, 15, 17)] 8 138 [rv (some (lA L 11 0)), iv p0, rv (some ao)] X 2 12 (LQ t0 ao mo ad L Mr (fun z => z) (fun M2 r => M2 = (unpS M p0).1 ∧ r = (unpS M p0).2)) pF := by
  refine CtH_mk hl (by decide) (Nat.le_of_ble_eq_true rfl) rfl ?_
  intro p9 e9 s9 m9 args9 below9 meth9 c9 C hr hx0
  have hKy := (yd_C h hZ.1).1
  refine V_aload_n C dL_unplug_0 rfl ?_
  refine V_iconst C dL_unplug_1 ?_
  refine V_aload_n C dL_unplug_2 rfl ?_
  refine V_iload_n C dL_unplug_3 rfl ?_
  refine V_callV C (As := [_]) (c_X9_unplug hl h hZ hI h0) kL_51 hKy rfl rfl (Nat.le_of_ble_eq_true rfl) ⟨Nat.le_of_ble_eq_true rfl, Nat.le_of_ble_eq_true rfl⟩ ⟨(by first | exact Nat.le_of_ble_eq_true rfl | (dsimp only; omega)), (by first | exact Nat.le_of_ble_eq_true rfl | (dsimp only; omega))⟩ dL_unplug_4 (fun E Y hp => ?_) (fun v Y hp => ?_)
  · obtain ⟨he, hcl⟩ := hp
    rcases he with ⟨rfl, h9⟩ | ⟨rfl, h9⟩
    · refine V_catch C hx0 [] ⟨0, 9, 12, 13⟩ [⟨0, 9, 15, 17⟩] rfl (fun z hz => absurd hz (List.not_mem_nil)) (by decide) (by decide) xL_13 xN_13 (tgt := 12) rfl (fun q => ?_)
      refine V_astore_n C dL_unplug_12 (by decide) rfl ?_
      refine V_iconst C dL_unplug_13 ?_
      exact V_iret C (by first | exact Nat.le_of_ble_eq_true rfl | (dsimp only; omega) | omega) (by first | exact Nat.le_of_ble_eq_true rfl | (dsimp only; omega) | omega) (LQ_no (fun M3 r3 g => g) h9 (by decide) hcl) hr dL_unplug_14
    · refine V_catch C hx0 [⟨0, 9, 12, 13⟩] ⟨0, 9, 15, 17⟩ [] rfl (fun z hz => by simp only [List.mem_cons, List.not_mem_nil, or_false] at hz; rcases hz with rfl; exact Or.inr ⟨by decide, _, xL_13, C.n2⟩) (by decide) (by decide) xL_17 xN_17 (tgt := 15) rfl (fun q => ?_)
      refine V_astore_n C dL_unplug_15 (by decide) rfl ?_
      refine V_iconst C dL_unplug_16 ?_
      exact V_iret C (by first | exact Nat.le_of_ble_eq_true rfl | (dsimp only; omega) | omega) (by first | exact Nat.le_of_ble_eq_true rfl | (dsimp only; omega) | omega) (LQ_no (fun M3 r3 g => g) h9 (by decide) hcl) hr dL_unplug_17
  obtain ⟨h9, rfl, hcl⟩ := hp
  have hao := clR_ao hcl
  obtain ⟨zz, hz, ez⟩ := iv_rng ((unpS M p0).2)
  rw [← ez]
  refine V_i2l C dL_unplug_7 hz ?_
  refine V_last C (j := 0) (n := 1) hao.1 hao.2 (by decide) (by decide) rfl dL_unplug_8 ?_
  refine V_goto C dL_unplug_9 ?_
  refine V_iconst C dL_unplug_18 ?_
  exact V_iret C (by first | exact Nat.le_of_ble_eq_true rfl | (dsimp only; omega) | omega) (by first | exact Nat.le_of_ble_eq_true rfl | (dsimp only; omega) | omega) (LQ_yes2 (fun M3 r3 g => g) h9 hz ez rfl hcl) hr dL_unplug_19
set_option maxHeartbeats 2000000 in
set_option maxRecDepth 20000 in
theorem c_L_pass (hl : l.stackTraces = false) (h : CX t0 ao mo ad L X Z Mr) (hZ : ZM Z M) (hI : Iv M jj) {p0 : Int} (h0 : rng p0) : CtH l D kA b t0 yL_pass cL_pass 4 (some FieldType.int) [(0, 9, 12, 15), (0, 9, 15, 17)] 8 161 [rv (some (lA L 11 0)), iv p0, rv (some ao)] X (2 + (phC M (yC Z 6) - phC (pcN M (yC Z 6) p0.toNat) (yC Z 6))) (12 + (phS M (yC Z 6) - phS (pcN M (yC Z 6) p0.toNat) (yC Z 6))) (LQ t0 ao mo ad L Mr (fun z => z) (pasP M (yC Z 6) p0)) pF := by
  refine CtH_mk hl (by decide) (Nat.le_of_ble_eq_true rfl) rfl ?_
  intro p9 e9 s9 m9 args9 below9 meth9 c9 C hr hx0
  have hKy := (yd_C h hZ.1).1
  refine V_aload_n C dL_pass_0 rfl ?_
  refine V_iconst C dL_pass_1 ?_
  refine V_aload_n C dL_pass_2 rfl ?_
  refine V_iload_n C dL_pass_3 rfl ?_
  refine V_callV C (As := [_]) (c_X9_pass hl h hZ hI h0 rfl) kL_55 hKy rfl rfl (Nat.le_of_ble_eq_true rfl) ⟨Nat.le_of_ble_eq_true rfl, Nat.le_of_ble_eq_true rfl⟩ ⟨(by first | exact Nat.le_of_ble_eq_true rfl | (dsimp only; omega)), (by first | exact Nat.le_of_ble_eq_true rfl | (dsimp only; omega))⟩ dL_pass_4 (fun E Y hp => ?_) (fun v Y hp => ?_)
  · obtain ⟨he, rfl⟩ := hp
    rcases he with ⟨rfl, h9⟩ | ⟨rfl, h9⟩
    · refine V_catch C hx0 [] ⟨0, 9, 12, 15⟩ [⟨0, 9, 15, 17⟩] rfl (fun z hz => absurd hz (List.not_mem_nil)) (by decide) (by decide) xL_15 xN_15 (tgt := 12) rfl (fun q => ?_)
      refine V_astore_n C dL_pass_12 (by decide) rfl ?_
      refine V_iconst C dL_pass_13 ?_
      exact V_iret C (by first | exact Nat.le_of_ble_eq_true rfl | (dsimp only; omega) | omega) (by first | exact Nat.le_of_ble_eq_true rfl | (dsimp only; omega) | omega) (LQ_pass1 h hZ h9) hr dL_pass_14
    · refine V_catch C hx0 [⟨0, 9, 12, 15⟩] ⟨0, 9, 15, 17⟩ [] rfl (fun z hz => by simp only [List.mem_cons, List.not_mem_nil, or_false] at hz; rcases hz with rfl; exact Or.inr ⟨by decide, _, xL_15, C.n3⟩) (by decide) (by decide) xL_17 xN_17 (tgt := 15) rfl (fun q => ?_)
      refine V_astore_n C dL_pass_15 (by decide) rfl ?_
      refine V_iconst C dL_pass_16 ?_
      exact V_iret C (by first | exact Nat.le_of_ble_eq_true rfl | (dsimp only; omega) | omega) (by first | exact Nat.le_of_ble_eq_true rfl | (dsimp only; omega) | omega) (LQ_pass2 h hZ h9.1 h9.2) hr dL_pass_17
  obtain ⟨⟨hg, hle⟩, rfl, hQ⟩ := hp
  have hao : gK Y ao = 22 ∧ gN Y ao = 1 := by
    obtain ⟨L2, Z2, h1, -⟩ := hQ
    exact h1.ao
  have o0 := hI.1.1
  unfold okSc at o0
  refine V_i2l C dL_pass_7 (by omega) ?_
  refine V_last C (j := 0) (n := 1) hao.1 hao.2 (by decide) (by decide) rfl dL_pass_8 ?_
  refine V_goto C dL_pass_9 ?_
  refine V_iconst C dL_pass_18 ?_
  exact V_iret C (by first | exact Nat.le_of_ble_eq_true rfl | (dsimp only; omega) | omega) (by first | exact Nat.le_of_ble_eq_true rfl | (dsimp only; omega) | omega) (LQ_pass hZ hI hg hle hQ) hr dL_pass_19
set_option maxHeartbeats 2000000 in
set_option maxRecDepth 20000 in
theorem c_L_of (hl : l.stackTraces = false) (h : CX t0 ao mo ad L X Z Mr) (hZ : ZM Z M) (hI : Iv M jj) {p0 p1 : Int} (h0 : rng p0) (h1 : rng p1) : CtH l D kA b t0 yL_of cL_of 5 (some FieldType.int) [(0, 10, 13, 13), (0, 10, 17, 15)] 8 134 [rv (some (lA L 11 0)), iv p0, iv p1, rv (some ao)] X 2 12 (LQ t0 ao mo ad L Mr (fun z => z) (fun M2 r => M2 = (ofS M p0 p1).1 ∧ r = (ofS M p0 p1).2)) pF := by
  refine CtH_mk hl (by decide) (Nat.le_of_ble_eq_true rfl) rfl ?_
  intro p9 e9 s9 m9 args9 below9 meth9 c9 C hr hx0
  have hKy := (yd_C h hZ.1).1
  refine V_aload_n C dL_of_0 rfl ?_
  refine V_iconst C dL_of_1 ?_
  refine V_aload_n C dL_of_2 rfl ?_
  refine V_iload_n C dL_of_3 rfl ?_
  refine V_iload_n C dL_of_4 rfl ?_
  refine V_callV C (As := [_, _]) (c_X9_of hl h hZ hI h0 h1) kL_58 hKy rfl rfl (Nat.le_of_ble_eq_true rfl) ⟨Nat.le_of_ble_eq_true rfl, Nat.le_of_ble_eq_true rfl⟩ ⟨(by first | exact Nat.le_of_ble_eq_true rfl | (dsimp only; omega)), (by first | exact Nat.le_of_ble_eq_true rfl | (dsimp only; omega))⟩ dL_of_5 (fun E Y hp => ?_) (fun v Y hp => ?_)
  · obtain ⟨he, hcl⟩ := hp
    rcases he with ⟨rfl, h9⟩ | ⟨rfl, h9⟩
    · refine V_catch C hx0 [] ⟨0, 10, 13, 13⟩ [⟨0, 10, 17, 15⟩] rfl (fun z hz => absurd hz (List.not_mem_nil)) (by decide) (by decide) xL_13 xN_13 (tgt := 13) rfl (fun q => ?_)
      refine V_astore C dL_of_13 (by decide) rfl ?_
      refine V_iconst C dL_of_15 ?_
      exact V_iret C (by first | exact Nat.le_of_ble_eq_true rfl | (dsimp only; omega) | omega) (by first | exact Nat.le_of_ble_eq_true rfl | (dsimp only; omega) | omega) (LQ_no (fun M3 r3 g => g) h9 (by decide) hcl) hr dL_of_16
    · refine V_catch C hx0 [⟨0, 10, 13, 13⟩] ⟨0, 10, 17, 15⟩ [] rfl (fun z hz => by simp only [List.mem_cons, List.not_mem_nil, or_false] at hz; rcases hz with rfl; exact Or.inr ⟨by decide, _, xL_13, C.n1⟩) (by decide) (by decide) xL_15 xN_15 (tgt := 17) rfl (fun q => ?_)
      refine V_astore C dL_of_17 (by decide) rfl ?_
      refine V_iconst C dL_of_19 ?_
      exact V_iret C (by first | exact Nat.le_of_ble_eq_true rfl | (dsimp only; omega) | omega) (by first | exact Nat.le_of_ble_eq_true rfl | (dsimp only; omega) | omega) (LQ_no (fun M3 r3 g => g) h9 (by decide) hcl) hr dL_of_20
  obtain ⟨h9, rfl, hcl⟩ := hp
  have hao := clR_ao hcl
  obtain ⟨zz, hz, ez⟩ := iv_rng ((ofS M p0 p1).2)
  rw [← ez]
  refine V_i2l C dL_of_8 hz ?_
  refine V_last C (j := 0) (n := 1) hao.1 hao.2 (by decide) (by decide) rfl dL_of_9 ?_
  refine V_goto C dL_of_10 ?_
  refine V_iconst C dL_of_21 ?_
  exact V_iret C (by first | exact Nat.le_of_ble_eq_true rfl | (dsimp only; omega) | omega) (by first | exact Nat.le_of_ble_eq_true rfl | (dsimp only; omega) | omega) (LQ_yes2 (fun M3 r3 g => g) h9 hz ez rfl hcl) hr dL_of_22
set_option maxHeartbeats 2000000 in
set_option maxRecDepth 20000 in
theorem c_L_charge (hl : l.stackTraces = false) (h : CX t0 ao mo ad L X Z Mr) (hZ : ZM Z M) (hI : Iv M jj) {p0 : Int} (h0 : rng p0) : CtH l D kA b t0 yL_charge cL_charge 4 (some FieldType.int) [(0, 9, 12, 13)] 8 132 [rv (some (lA L 11 0)), iv p0, rv (some ao)] X 1 6 (LQ t0 ao mo ad L Mr (fun z => z) (fun M2 r => M2 = (chaS M p0).1 ∧ r = (chaS M p0).2)) pF := by
  refine CtH_mk hl (by decide) (Nat.le_of_ble_eq_true rfl) rfl ?_
  intro p9 e9 s9 m9 args9 below9 meth9 c9 C hr hx0
  have hKy := (yd_C h hZ.1).1
  refine V_aload_n C dL_charge_0 rfl ?_
  refine V_iconst C dL_charge_1 ?_
  refine V_aload_n C dL_charge_2 rfl ?_
  refine V_iload_n C dL_charge_3 rfl ?_
  refine V_callV C (As := [_]) (c_X9_charge hl h hZ hI h0) kL_61 hKy rfl rfl (Nat.le_of_ble_eq_true rfl) ⟨Nat.le_of_ble_eq_true rfl, Nat.le_of_ble_eq_true rfl⟩ ⟨(by first | exact Nat.le_of_ble_eq_true rfl | (dsimp only; omega)), (by first | exact Nat.le_of_ble_eq_true rfl | (dsimp only; omega))⟩ dL_charge_4 (fun E Y hp => ?_) (fun v Y hp => ?_)
  · obtain ⟨he, hcl⟩ := hp
    rcases he with ⟨rfl, h9⟩
    · refine V_catch C hx0 [] ⟨0, 9, 12, 13⟩ [] rfl (fun z hz => absurd hz (List.not_mem_nil)) (by decide) (by decide) xL_13 xN_13 (tgt := 12) rfl (fun q => ?_)
      refine V_astore_n C dL_charge_12 (by decide) rfl ?_
      refine V_iconst C dL_charge_13 ?_
      exact V_iret C (by first | exact Nat.le_of_ble_eq_true rfl | (dsimp only; omega) | omega) (by first | exact Nat.le_of_ble_eq_true rfl | (dsimp only; omega) | omega) (LQ_no (fun M3 r3 g => g) h9 (by decide) hcl) hr dL_charge_14
  obtain ⟨h9, rfl, hcl⟩ := hp
  have hao := clR_ao hcl
  obtain ⟨zz, hz, ez⟩ := iv_rng ((chaS M p0).2)
  rw [← ez]
  refine V_i2l C dL_charge_7 hz ?_
  refine V_last C (j := 0) (n := 1) hao.1 hao.2 (by decide) (by decide) rfl dL_charge_8 ?_
  refine V_goto C dL_charge_9 ?_
  refine V_iconst C dL_charge_15 ?_
  exact V_iret C (by first | exact Nat.le_of_ble_eq_true rfl | (dsimp only; omega) | omega) (by first | exact Nat.le_of_ble_eq_true rfl | (dsimp only; omega) | omega) (LQ_yes2 (fun M3 r3 g => g) h9 hz ez rfl hcl) hr dL_charge_16
set_option maxHeartbeats 2000000 in
set_option maxRecDepth 20000 in
theorem c_L_power (hl : l.stackTraces = false) (h : CX t0 ao mo ad L X Z Mr) (hZ : ZM Z M) (hI : Iv M jj) {p0 : Int} (h0 : rng p0) : CtH l D kA b t0 yL_power cL_power 4 (some FieldType.int) [(0, 9, 12, 13)] 8 138 [rv (some (lA L 11 0)), iv p0, rv (some ao)] X 1 6 (LQ t0 ao mo ad L Mr (fun z => z) (fun M2 r => M2 = (powS M (yC Z 6) p0).1 ∧ r = (powS M (yC Z 6) p0).2)) pF := by
  refine CtH_mk hl (by decide) (Nat.le_of_ble_eq_true rfl) rfl ?_
  intro p9 e9 s9 m9 args9 below9 meth9 c9 C hr hx0
  have hKy := (yd_C h hZ.1).1
  refine V_aload_n C dL_power_0 rfl ?_
  refine V_iconst C dL_power_1 ?_
  refine V_aload_n C dL_power_2 rfl ?_
  refine V_iload_n C dL_power_3 rfl ?_
  refine V_callV C (As := [_]) (c_X9_power hl h hZ hI h0 rfl) kL_64 hKy rfl rfl (Nat.le_of_ble_eq_true rfl) ⟨Nat.le_of_ble_eq_true rfl, Nat.le_of_ble_eq_true rfl⟩ ⟨(by first | exact Nat.le_of_ble_eq_true rfl | (dsimp only; omega)), (by first | exact Nat.le_of_ble_eq_true rfl | (dsimp only; omega))⟩ dL_power_4 (fun E Y hp => ?_) (fun v Y hp => ?_)
  · obtain ⟨he, hcl⟩ := hp
    rcases he with ⟨rfl, h9⟩
    · refine V_catch C hx0 [] ⟨0, 9, 12, 13⟩ [] rfl (fun z hz => absurd hz (List.not_mem_nil)) (by decide) (by decide) xL_13 xN_13 (tgt := 12) rfl (fun q => ?_)
      refine V_astore_n C dL_power_12 (by decide) rfl ?_
      refine V_iconst C dL_power_13 ?_
      exact V_iret C (by first | exact Nat.le_of_ble_eq_true rfl | (dsimp only; omega) | omega) (by first | exact Nat.le_of_ble_eq_true rfl | (dsimp only; omega) | omega) (LQ_no (fun M3 r3 g => g) h9 (by decide) hcl) hr dL_power_14
  obtain ⟨h9, rfl, hcl⟩ := hp
  have hao := clR_ao hcl
  obtain ⟨zz, hz, ez⟩ := iv_rng ((powS M (yC Z 6) p0).2)
  rw [← ez]
  refine V_i2l C dL_power_7 hz ?_
  refine V_last C (j := 0) (n := 1) hao.1 hao.2 (by decide) (by decide) rfl dL_power_8 ?_
  refine V_goto C dL_power_9 ?_
  refine V_iconst C dL_power_15 ?_
  exact V_iret C (by first | exact Nat.le_of_ble_eq_true rfl | (dsimp only; omega) | omega) (by first | exact Nat.le_of_ble_eq_true rfl | (dsimp only; omega) | omega) (LQ_yes2 (fun M3 r3 g => g) h9 hz ez rfl hcl) hr dL_power_16
set_option maxHeartbeats 2000000 in
set_option maxRecDepth 20000 in
theorem c_L_powerAnew (hl : l.stackTraces = false) (h : CX t0 ao mo ad L X Z Mr) (hZ : ZM Z M) (hI : Iv M jj) {p0 : Int} (h0 : rng p0) : CtH l D kA b t0 yL_powerAnew cL_powerAnew 4 (some FieldType.int) [(0, 9, 12, 13)] 8 137 [rv (some (lA L 11 0)), iv p0, rv (some ao)] X 1 6 (LQ t0 ao mo ad L Mr (fun z => z) (fun M2 r => M2 = (powS M (yC Z 6) p0).1 ∧ r = (powS M (yC Z 6) p0).2)) pF := by
  refine CtH_mk hl (by decide) (Nat.le_of_ble_eq_true rfl) rfl ?_
  intro p9 e9 s9 m9 args9 below9 meth9 c9 C hr hx0
  have hKy := (yd_C h hZ.1).1
  refine V_aload_n C dL_powerAnew_0 rfl ?_
  refine V_iconst C dL_powerAnew_1 ?_
  refine V_aload_n C dL_powerAnew_2 rfl ?_
  refine V_iload_n C dL_powerAnew_3 rfl ?_
  refine V_callV C (As := [_]) (c_X9_powerAnew hl h hZ hI h0 rfl) kL_67 hKy rfl rfl (Nat.le_of_ble_eq_true rfl) ⟨Nat.le_of_ble_eq_true rfl, Nat.le_of_ble_eq_true rfl⟩ ⟨(by first | exact Nat.le_of_ble_eq_true rfl | (dsimp only; omega)), (by first | exact Nat.le_of_ble_eq_true rfl | (dsimp only; omega))⟩ dL_powerAnew_4 (fun E Y hp => ?_) (fun v Y hp => ?_)
  · obtain ⟨he, hcl⟩ := hp
    rcases he with ⟨rfl, h9⟩
    · refine V_catch C hx0 [] ⟨0, 9, 12, 13⟩ [] rfl (fun z hz => absurd hz (List.not_mem_nil)) (by decide) (by decide) xL_13 xN_13 (tgt := 12) rfl (fun q => ?_)
      refine V_astore_n C dL_powerAnew_12 (by decide) rfl ?_
      refine V_iconst C dL_powerAnew_13 ?_
      exact V_iret C (by first | exact Nat.le_of_ble_eq_true rfl | (dsimp only; omega) | omega) (by first | exact Nat.le_of_ble_eq_true rfl | (dsimp only; omega) | omega) (LQ_no (fun M3 r3 g => g) h9 (by decide) hcl) hr dL_powerAnew_14
  obtain ⟨h9, rfl, hcl⟩ := hp
  have hao := clR_ao hcl
  obtain ⟨zz, hz, ez⟩ := iv_rng ((powS M (yC Z 6) p0).2)
  rw [← ez]
  refine V_i2l C dL_powerAnew_7 hz ?_
  refine V_last C (j := 0) (n := 1) hao.1 hao.2 (by decide) (by decide) rfl dL_powerAnew_8 ?_
  refine V_goto C dL_powerAnew_9 ?_
  refine V_iconst C dL_powerAnew_15 ?_
  exact V_iret C (by first | exact Nat.le_of_ble_eq_true rfl | (dsimp only; omega) | omega) (by first | exact Nat.le_of_ble_eq_true rfl | (dsimp only; omega) | omega) (LQ_yes2 (fun M3 r3 g => g) h9 hz ez rfl hcl) hr dL_powerAnew_16
set_option maxHeartbeats 2000000 in
set_option maxRecDepth 20000 in
theorem c_L_bill (hl : l.stackTraces = false) (h : CX t0 ao mo ad L X Z Mr) (hZ : ZM Z M) (hI : Iv M jj) {p0 : Int} (h0 : rng p0) : CtH l D kA b t0 yL_bill cL_bill 4 (some FieldType.int) [(0, 9, 12, 13)] 8 132 [rv (some (lA L 11 0)), iv p0, rv (some ao)] X 1 6 (LQ t0 ao mo ad L Mr (fun z => z) (fun M2 r => M2 = (bilS M p0).1 ∧ r = (bilS M p0).2)) pF := by
  refine CtH_mk hl (by decide) (Nat.le_of_ble_eq_true rfl) rfl ?_
  intro p9 e9 s9 m9 args9 below9 meth9 c9 C hr hx0
  have hKy := (yd_C h hZ.1).1
  refine V_aload_n C dL_bill_0 rfl ?_
  refine V_iconst C dL_bill_1 ?_
  refine V_aload_n C dL_bill_2 rfl ?_
  refine V_iload_n C dL_bill_3 rfl ?_
  refine V_callV C (As := [_]) (c_X9_bill hl h hZ hI h0) kL_70 hKy rfl rfl (Nat.le_of_ble_eq_true rfl) ⟨Nat.le_of_ble_eq_true rfl, Nat.le_of_ble_eq_true rfl⟩ ⟨(by first | exact Nat.le_of_ble_eq_true rfl | (dsimp only; omega)), (by first | exact Nat.le_of_ble_eq_true rfl | (dsimp only; omega))⟩ dL_bill_4 (fun E Y hp => ?_) (fun v Y hp => ?_)
  · obtain ⟨he, hcl⟩ := hp
    rcases he with ⟨rfl, h9⟩
    · refine V_catch C hx0 [] ⟨0, 9, 12, 13⟩ [] rfl (fun z hz => absurd hz (List.not_mem_nil)) (by decide) (by decide) xL_13 xN_13 (tgt := 12) rfl (fun q => ?_)
      refine V_astore_n C dL_bill_12 (by decide) rfl ?_
      refine V_iconst C dL_bill_13 ?_
      exact V_iret C (by first | exact Nat.le_of_ble_eq_true rfl | (dsimp only; omega) | omega) (by first | exact Nat.le_of_ble_eq_true rfl | (dsimp only; omega) | omega) (LQ_no (fun M3 r3 g => g) h9 (by decide) hcl) hr dL_bill_14
  obtain ⟨h9, rfl, hcl⟩ := hp
  have hao := clR_ao hcl
  obtain ⟨zz, hz, ez⟩ := iv_rng ((bilS M p0).2)
  rw [← ez]
  refine V_i2l C dL_bill_7 hz ?_
  refine V_last C (j := 0) (n := 1) hao.1 hao.2 (by decide) (by decide) rfl dL_bill_8 ?_
  refine V_goto C dL_bill_9 ?_
  refine V_iconst C dL_bill_15 ?_
  exact V_iret C (by first | exact Nat.le_of_ble_eq_true rfl | (dsimp only; omega) | omega) (by first | exact Nat.le_of_ble_eq_true rfl | (dsimp only; omega) | omega) (LQ_yes2 (fun M3 r3 g => g) h9 hz ez rfl hcl) hr dL_bill_16
set_option maxHeartbeats 2000000 in
set_option maxRecDepth 20000 in
theorem c_L_billAnew (hl : l.stackTraces = false) (h : CX t0 ao mo ad L X Z Mr) (hZ : ZM Z M) (hI : Iv M jj) {p0 : Int} (h0 : rng p0) : CtH l D kA b t0 yL_billAnew cL_billAnew 4 (some FieldType.int) [(0, 9, 12, 13)] 8 132 [rv (some (lA L 11 0)), iv p0, rv (some ao)] X 2 10 (LQ t0 ao mo ad L Mr (fun z => z) (fun M2 r => M2 = (bilA M p0).1 ∧ r = (bilA M p0).2)) pF := by
  refine CtH_mk hl (by decide) (Nat.le_of_ble_eq_true rfl) rfl ?_
  intro p9 e9 s9 m9 args9 below9 meth9 c9 C hr hx0
  have hKy := (yd_C h hZ.1).1
  refine V_aload_n C dL_billAnew_0 rfl ?_
  refine V_iconst C dL_billAnew_1 ?_
  refine V_aload_n C dL_billAnew_2 rfl ?_
  refine V_iload_n C dL_billAnew_3 rfl ?_
  refine V_callV C (As := [_]) (c_X9_billAnew hl h hZ hI h0) kL_73 hKy rfl rfl (Nat.le_of_ble_eq_true rfl) ⟨Nat.le_of_ble_eq_true rfl, Nat.le_of_ble_eq_true rfl⟩ ⟨(by first | exact Nat.le_of_ble_eq_true rfl | (dsimp only; omega)), (by first | exact Nat.le_of_ble_eq_true rfl | (dsimp only; omega))⟩ dL_billAnew_4 (fun E Y hp => ?_) (fun v Y hp => ?_)
  · obtain ⟨he, hcl⟩ := hp
    rcases he with ⟨rfl, h9⟩
    · refine V_catch C hx0 [] ⟨0, 9, 12, 13⟩ [] rfl (fun z hz => absurd hz (List.not_mem_nil)) (by decide) (by decide) xL_13 xN_13 (tgt := 12) rfl (fun q => ?_)
      refine V_astore_n C dL_billAnew_12 (by decide) rfl ?_
      refine V_iconst C dL_billAnew_13 ?_
      exact V_iret C (by first | exact Nat.le_of_ble_eq_true rfl | (dsimp only; omega) | omega) (by first | exact Nat.le_of_ble_eq_true rfl | (dsimp only; omega) | omega) (LQ_no (fun M3 r3 g => g) h9 (by decide) hcl) hr dL_billAnew_14
  obtain ⟨h9, rfl, hcl⟩ := hp
  have hao := clR_ao hcl
  obtain ⟨zz, hz, ez⟩ := iv_rng ((bilA M p0).2)
  rw [← ez]
  refine V_i2l C dL_billAnew_7 hz ?_
  refine V_last C (j := 0) (n := 1) hao.1 hao.2 (by decide) (by decide) rfl dL_billAnew_8 ?_
  refine V_goto C dL_billAnew_9 ?_
  refine V_iconst C dL_billAnew_15 ?_
  exact V_iret C (by first | exact Nat.le_of_ble_eq_true rfl | (dsimp only; omega) | omega) (by first | exact Nat.le_of_ble_eq_true rfl | (dsimp only; omega) | omega) (LQ_yes2 (fun M3 r3 g => g) h9 hz ez rfl hcl) hr dL_billAnew_16
set_option maxHeartbeats 2000000 in
set_option maxRecDepth 20000 in
theorem c_L_dispute (hl : l.stackTraces = false) (h : CX t0 ao mo ad L X Z Mr) (hZ : ZM Z M) (hI : Iv M jj) {p0 p1 : Int} (h0 : rng p0) (h1 : rng p1) : CtH l D kA b t0 yL_dispute cL_dispute 5 (some FieldType.int) [(0, 10, 13, 13), (0, 10, 17, 15), (0, 10, 21, 17)] 8 136 [rv (some (lA L 11 0)), iv p0, iv p1, rv (some ao)] X 3 18 (LQ t0 ao mo ad L Mr (fun z => z) (fun M2 r => M2 = (disS M p0 p1).1 ∧ r = (disS M p0 p1).2)) pF := by
  refine CtH_mk hl (by decide) (Nat.le_of_ble_eq_true rfl) rfl ?_
  intro p9 e9 s9 m9 args9 below9 meth9 c9 C hr hx0
  have hKy := (yd_C h hZ.1).1
  refine V_aload_n C dL_dispute_0 rfl ?_
  refine V_iconst C dL_dispute_1 ?_
  refine V_aload_n C dL_dispute_2 rfl ?_
  refine V_iload_n C dL_dispute_3 rfl ?_
  refine V_iload_n C dL_dispute_4 rfl ?_
  refine V_callV C (As := [_, _]) (c_X9_dispute hl h hZ hI h0 h1) kL_76 hKy rfl rfl (Nat.le_of_ble_eq_true rfl) ⟨Nat.le_of_ble_eq_true rfl, Nat.le_of_ble_eq_true rfl⟩ ⟨(by first | exact Nat.le_of_ble_eq_true rfl | (dsimp only; omega)), (by first | exact Nat.le_of_ble_eq_true rfl | (dsimp only; omega))⟩ dL_dispute_5 (fun E Y hp => ?_) (fun v Y hp => ?_)
  · obtain ⟨he, hcl⟩ := hp
    rcases he with ⟨rfl, h9⟩ | ⟨rfl, h9⟩ | ⟨rfl, h9⟩
    · refine V_catch C hx0 [] ⟨0, 10, 13, 13⟩ [⟨0, 10, 17, 15⟩, ⟨0, 10, 21, 17⟩] rfl (fun z hz => absurd hz (List.not_mem_nil)) (by decide) (by decide) xL_13 xN_13 (tgt := 13) rfl (fun q => ?_)
      refine V_astore C dL_dispute_13 (by decide) rfl ?_
      refine V_iconst C dL_dispute_15 ?_
      exact V_iret C (by first | exact Nat.le_of_ble_eq_true rfl | (dsimp only; omega) | omega) (by first | exact Nat.le_of_ble_eq_true rfl | (dsimp only; omega) | omega) (LQ_no (fun M3 r3 g => g) h9 (by decide) hcl) hr dL_dispute_16
    · refine V_catch C hx0 [⟨0, 10, 13, 13⟩] ⟨0, 10, 17, 15⟩ [⟨0, 10, 21, 17⟩] rfl (fun z hz => by simp only [List.mem_cons, List.not_mem_nil, or_false] at hz; rcases hz with rfl; exact Or.inr ⟨by decide, _, xL_13, C.n1⟩) (by decide) (by decide) xL_15 xN_15 (tgt := 17) rfl (fun q => ?_)
      refine V_astore C dL_dispute_17 (by decide) rfl ?_
      refine V_iconst C dL_dispute_19 ?_
      exact V_iret C (by first | exact Nat.le_of_ble_eq_true rfl | (dsimp only; omega) | omega) (by first | exact Nat.le_of_ble_eq_true rfl | (dsimp only; omega) | omega) (LQ_no (fun M3 r3 g => g) h9 (by decide) hcl) hr dL_dispute_20
    · refine V_catch C hx0 [⟨0, 10, 13, 13⟩, ⟨0, 10, 17, 15⟩] ⟨0, 10, 21, 17⟩ [] rfl (by intro z hz; simp only [List.mem_cons, List.not_mem_nil, or_false] at hz; rcases hz with rfl | rfl; exact Or.inr ⟨by decide, _, xL_13, C.n2⟩; exact Or.inr ⟨by decide, _, xL_15, C.n3⟩) (by decide) (by decide) xL_17 xN_17 (tgt := 21) rfl (fun q => ?_)
      refine V_astore C dL_dispute_21 (by decide) rfl ?_
      refine V_iconst C dL_dispute_23 ?_
      exact V_iret C (by first | exact Nat.le_of_ble_eq_true rfl | (dsimp only; omega) | omega) (by first | exact Nat.le_of_ble_eq_true rfl | (dsimp only; omega) | omega) (LQ_no (fun M3 r3 g => g) h9 (by decide) hcl) hr dL_dispute_24
  obtain ⟨h9, rfl, hcl⟩ := hp
  have hao := clR_ao hcl
  obtain ⟨zz, hz, ez⟩ := iv_rng ((disS M p0 p1).2)
  rw [← ez]
  refine V_i2l C dL_dispute_8 hz ?_
  refine V_last C (j := 0) (n := 1) hao.1 hao.2 (by decide) (by decide) rfl dL_dispute_9 ?_
  refine V_goto C dL_dispute_10 ?_
  refine V_iconst C dL_dispute_25 ?_
  exact V_iret C (by first | exact Nat.le_of_ble_eq_true rfl | (dsimp only; omega) | omega) (by first | exact Nat.le_of_ble_eq_true rfl | (dsimp only; omega) | omega) (LQ_yes2 (fun M3 r3 g => g) h9 hz ez rfl hcl) hr dL_dispute_26
set_option maxHeartbeats 2000000 in
set_option maxRecDepth 20000 in
theorem c_L_owes (hl : l.stackTraces = false) (h : CX t0 ao mo ad L X Z Mr) (hZ : ZM Z M) (hI : Iv M jj) {p0 : Int} (h0 : rng p0) : CtH l D kA b t0 yL_owes cL_owes 4 (some FieldType.int) [(0, 9, 12, 13)] 8 132 [rv (some (lA L 11 0)), iv p0, rv (some ao)] X 1 6 (LQ t0 ao mo ad L Mr (fun z => z) (fun M2 r => M2 = (oweS M p0).1 ∧ r = (oweS M p0).2)) pF := by
  refine CtH_mk hl (by decide) (Nat.le_of_ble_eq_true rfl) rfl ?_
  intro p9 e9 s9 m9 args9 below9 meth9 c9 C hr hx0
  have hKy := (yd_C h hZ.1).1
  refine V_aload_n C dL_owes_0 rfl ?_
  refine V_iconst C dL_owes_1 ?_
  refine V_aload_n C dL_owes_2 rfl ?_
  refine V_iload_n C dL_owes_3 rfl ?_
  refine V_callV C (As := [_]) (c_X9_owes hl h hZ hI h0) kL_79 hKy rfl rfl (Nat.le_of_ble_eq_true rfl) ⟨Nat.le_of_ble_eq_true rfl, Nat.le_of_ble_eq_true rfl⟩ ⟨(by first | exact Nat.le_of_ble_eq_true rfl | (dsimp only; omega)), (by first | exact Nat.le_of_ble_eq_true rfl | (dsimp only; omega))⟩ dL_owes_4 (fun E Y hp => ?_) (fun v Y hp => ?_)
  · obtain ⟨he, hcl⟩ := hp
    rcases he with ⟨rfl, h9⟩
    · refine V_catch C hx0 [] ⟨0, 9, 12, 13⟩ [] rfl (fun z hz => absurd hz (List.not_mem_nil)) (by decide) (by decide) xL_13 xN_13 (tgt := 12) rfl (fun q => ?_)
      refine V_astore_n C dL_owes_12 (by decide) rfl ?_
      refine V_iconst C dL_owes_13 ?_
      exact V_iret C (by first | exact Nat.le_of_ble_eq_true rfl | (dsimp only; omega) | omega) (by first | exact Nat.le_of_ble_eq_true rfl | (dsimp only; omega) | omega) (LQ_no (fun M3 r3 g => g) h9 (by decide) hcl) hr dL_owes_14
  obtain ⟨h9, rfl, hcl⟩ := hp
  have hao := clR_ao hcl
  obtain ⟨zz, hz, ez⟩ := iv_rng ((oweS M p0).2)
  rw [← ez]
  refine V_i2l C dL_owes_7 hz ?_
  refine V_last C (j := 0) (n := 1) hao.1 hao.2 (by decide) (by decide) rfl dL_owes_8 ?_
  refine V_goto C dL_owes_9 ?_
  refine V_iconst C dL_owes_15 ?_
  exact V_iret C (by first | exact Nat.le_of_ble_eq_true rfl | (dsimp only; omega) | omega) (by first | exact Nat.le_of_ble_eq_true rfl | (dsimp only; omega) | omega) (LQ_yes2 (fun M3 r3 g => g) h9 hz ez rfl hcl) hr dL_owes_16
set_option maxHeartbeats 2000000 in
set_option maxRecDepth 20000 in
theorem c_L_account (hl : l.stackTraces = false) (h : CX t0 ao mo ad L X Z Mr) (hZ : ZM Z M) (hI : Iv M jj) {p0 : Int} (h0 : rng p0) : CtH l D kA b t0 yL_account cL_account 4 (some FieldType.int) [(0, 9, 12, 13)] 8 132 [rv (some (lA L 11 0)), iv p0, rv (some ao)] X 1 6 (LQ t0 ao mo ad L Mr (fun z => z) (fun M2 r => M2 = (accS M p0).1 ∧ r = (accS M p0).2)) pF := by
  refine CtH_mk hl (by decide) (Nat.le_of_ble_eq_true rfl) rfl ?_
  intro p9 e9 s9 m9 args9 below9 meth9 c9 C hr hx0
  have hKy := (yd_C h hZ.1).1
  refine V_aload_n C dL_account_0 rfl ?_
  refine V_iconst C dL_account_1 ?_
  refine V_aload_n C dL_account_2 rfl ?_
  refine V_iload_n C dL_account_3 rfl ?_
  refine V_callV C (As := [_]) (c_X9_account hl h hZ hI h0) kL_82 hKy rfl rfl (Nat.le_of_ble_eq_true rfl) ⟨Nat.le_of_ble_eq_true rfl, Nat.le_of_ble_eq_true rfl⟩ ⟨(by first | exact Nat.le_of_ble_eq_true rfl | (dsimp only; omega)), (by first | exact Nat.le_of_ble_eq_true rfl | (dsimp only; omega))⟩ dL_account_4 (fun E Y hp => ?_) (fun v Y hp => ?_)
  · obtain ⟨he, hcl⟩ := hp
    rcases he with ⟨rfl, h9⟩
    · refine V_catch C hx0 [] ⟨0, 9, 12, 13⟩ [] rfl (fun z hz => absurd hz (List.not_mem_nil)) (by decide) (by decide) xL_13 xN_13 (tgt := 12) rfl (fun q => ?_)
      refine V_astore_n C dL_account_12 (by decide) rfl ?_
      refine V_iconst C dL_account_13 ?_
      exact V_iret C (by first | exact Nat.le_of_ble_eq_true rfl | (dsimp only; omega) | omega) (by first | exact Nat.le_of_ble_eq_true rfl | (dsimp only; omega) | omega) (LQ_no (fun M3 r3 g => g) h9 (by decide) hcl) hr dL_account_14
  obtain ⟨h9, rfl, hcl⟩ := hp
  have hao := clR_ao hcl
  obtain ⟨zz, hz, ez⟩ := iv_rng ((accS M p0).2)
  rw [← ez]
  refine V_i2l C dL_account_7 hz ?_
  refine V_last C (j := 0) (n := 1) hao.1 hao.2 (by decide) (by decide) rfl dL_account_8 ?_
  refine V_goto C dL_account_9 ?_
  refine V_iconst C dL_account_15 ?_
  exact V_iret C (by first | exact Nat.le_of_ble_eq_true rfl | (dsimp only; omega) | omega) (by first | exact Nat.le_of_ble_eq_true rfl | (dsimp only; omega) | omega) (LQ_yes2 (fun M3 r3 g => g) h9 hz ez rfl hcl) hr dL_account_16
end LAW2
