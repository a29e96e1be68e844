/-! the class: values heard and made, bills -/
section CLS4
variable {l : Launch} {D : va_G} {kA : Nat → ClassId} {b t0 : Nat} {X : Mm}
set_option maxHeartbeats 2000000 in
set_option maxRecDepth 20000 in
theorem c_X8_takeInto (hl : l.stackTraces = false) {s : Nat} {t : Ta} {a r q cap md : Nat} {fm : Int} (hKa : gK X a = 10) (hfm : gI X 576 a = fm) (hq : gP X 577 a = some q) (hKq : gK X q = 20) (hN : gN X q = cap) (hmd : gI X 578 a = (md : Int)) (hmc : md ≤ cap) (hc9 : cap ≤ 20000) (hrow : ∀ i, i < md → 0 ≤ gA X q i ∧ gA X q i ≤ 12000001) (hm : 0 ≤ fm ∧ fm + md ≤ 20000) (hKr : gK X r = 8) (ht : tlI X r t) (h1 : 0 ≤ t.1 ∧ t.1 ≤ 6000000) (hs : s ≤ md) : Ct l D kA b t0 yX8_takeInto cX8_takeInto 4 none 1 25 [rv (some a), rv (some r), iv (s : Int)] X 0 0 (pD none (tlM X r (tkF (gA X q) fm s (md - s) t))) (pF) := by
  refine Ct_mk hl (by decide) (Nat.le_of_ble_eq_true rfl) rfl ?_
  intro p9 e9 s9 m9 args9 below9 meth9 c9 C hr hx0
  refine V_iconst C dX8_takeInto_0 ?_
  refine V_iload_n C dX8_takeInto_1 rfl ?_
  refine V_mmax C (by decide) (by omega) kX8_48 (Nat.le_of_ble_eq_true rfl) (Nat.le_of_ble_eq_true rfl) (by first | (dsimp only; omega) | exact Nat.le_of_ble_eq_true rfl) (by first | (dsimp only; omega) | exact Nat.le_of_ble_eq_true rfl) dX8_takeInto_2 ?_
  rw [show (if (0 : Int) < (s : Int) then (s : Int) else 0) = (s : Int) by split <;> omega]
  refine V_istore_n C dX8_takeInto_5 (by decide) rfl ?_
  refine V_while C (St := Nat) (f := fun n => tlM X r (tkF (gA X q) fm s n t)) (g := fun n => [some (rv (some a)), some (rv (some r)), some (iv (s : Int)), some (iv ((s + n : Nat) : Int))]) (cs := fun _ => 0) (ss := fun _ => 0) (μ := fun n => md + 1 - n) (I := fun n => s + n ≤ md ∧ 0 ≤ (tkF (gA X q) fm s n t).1 ∧ (tkF (gA X q) fm s n t).1 ≤ 6000000) (x0 := 0) (tlM_self ht) rfl rfl rfl ⟨hs, h1⟩ ?_
  rintro n ⟨hn, hT⟩ ih
  try dsimp only at hn hT ih ⊢
  refine V_iload_n C dX8_takeInto_6 rfl ?_
  refine V_aload_n C dX8_takeInto_7 rfl ?_
  refine V_getIx C cl9 fX8_15 (x := (md : Int)) hKa hmd dX8_takeInto_8 ?_
  refine V_icmp_ge C dX8_takeInto_11 (by omega) (by omega) (fun h11 => ?_) (fun h11 => ?_)
  · have en : md - s = n := by omega
    exact V_vret C (by omega) (by omega) ⟨rfl, by rw [en]⟩ hr dX8_takeInto_64
  · have hr9 := hrow (s + n) (by omega)
    refine V_iload_n C dX8_takeInto_14 rfl ?_
    refine V_aload_n C dX8_takeInto_15 rfl ?_
    refine V_getP C cl9 fX8_9 (r := some q) hKa hq dX8_takeInto_16 ?_
    refine V_alen C (Or.inl hKq) hN dX8_takeInto_19 ?_
    refine V_icmp_ge C dX8_takeInto_20 (by omega) (by omega) (fun h20 => ?_) (fun h20 => ?_)
    · exact absurd h20 (by omega)
    · refine V_aload_n C dX8_takeInto_23 rfl ?_
      refine V_aload_n C dX8_takeInto_24 rfl ?_
      refine V_getIx C cl9 fX8_29 (x := fm) hKa hfm dX8_takeInto_25 ?_
      refine V_iload_n C dX8_takeInto_28 rfl ?_
      refine V_iadd C dX8_takeInto_29 ?_
      refine V_aload_n C dX8_takeInto_30 rfl ?_
      refine V_getP C cl9 fX8_9 (r := some q) hKa hq dX8_takeInto_31 ?_
      refine V_iload_n C dX8_takeInto_34 rfl ?_
      refine V_ialdx C hKq hN (show (s + n) < cap by omega) (by omega) rfl (x := gA X q ((s + n))) rfl dX8_takeInto_35 ?_
      refine V_iconst C dX8_takeInto_36 ?_
      refine V_idivN C dX8_takeInto_37 (by omega) (by decide) (by omega) (by first | decide | omega) ?_
      refine V_join C (pcm := 55) (P := fun z => z = (if gA X q (s + n) % 2 = 1 then 1 else 0)) (fun hj => ?_) (fun z1 hz1 => ?_)
      · refine V_aload_n C dX8_takeInto_38 rfl ?_
        refine V_getP C cl9 fX8_9 (r := some q) hKa hq dX8_takeInto_39 ?_
        refine V_iload_n C dX8_takeInto_42 rfl ?_
        refine V_ialdx C hKq hN (show (s + n) < cap by omega) (by omega) rfl (x := gA X q ((s + n))) rfl dX8_takeInto_43 ?_
        refine V_iconst C dX8_takeInto_44 ?_
        refine V_iremN C dX8_takeInto_45 (by omega) (by decide) (by omega) (by first | decide | omega) ?_
        refine V_iconst C dX8_takeInto_46 ?_
        refine V_icmp_ne C dX8_takeInto_47 (by omega) (by decide) (fun h47 => ?_) (fun h47 => ?_)
        · refine V_iconst C dX8_takeInto_54 ?_
          exact hj _ (by split <;> omega)
        · refine V_iconst C dX8_takeInto_50 ?_
          refine V_goto C dX8_takeInto_51 ?_
          exact hj _ (by split <;> omega)
      subst hz1
      refine V_callV0 C (As := [_, _, _]) (c_X6_take hl (X := tlM X r (tkF (gA X q) fm s n t)) (t := tkF (gA X q) fm s n t) hKr (tlI_tlM _ _ _) (by omega) (by omega) hT (by split <;> omega)) kX8_51 hKr rfl rfl (Nat.le_of_ble_eq_true rfl) ⟨Nat.le_of_ble_eq_true rfl, Nat.le_of_ble_eq_true rfl⟩ ⟨(by first | exact Nat.le_of_ble_eq_true rfl | (dsimp only; omega)), (by first | exact Nat.le_of_ble_eq_true rfl | (dsimp only; omega))⟩ dX8_takeInto_55 ?_
      rw [tlM_tlM]
      refine V_iinc C dX8_takeInto_58 (by decide) rfl rfl ?_
      refine V_goto C dX8_takeInto_61 ?_
      exact ih (n + 1) ⟨by omega, by rw [tkF_1]; omega⟩ (by omega)
set_option maxHeartbeats 2000000 in
set_option maxRecDepth 20000 in
theorem c_X8_hearAll (hl : l.stackTraces = false) {s : Nat} {t : Ta} {a r q cap md : Nat} {fm : Int} (hKa : gK X a = 10) (hfm : gI X 576 a = fm) (hq : gP X 577 a = some q) (hKq : gK X q = 20) (hN : gN X q = cap) (hmd : gI X 578 a = (md : Int)) (hmc : md ≤ cap) (hc9 : cap ≤ 20000) (hrow : ∀ i, i < md → 0 ≤ gA X q i ∧ gA X q i ≤ 12000001) (hm : 0 ≤ fm ∧ fm + md ≤ 20000) (hKr : gK X r = 8) (ht : tlI X r t) (h1 : 0 ≤ t.1 ∧ t.1 ≤ 6000000) (hs : s ≤ md) (hr0 : gP X 580 a = some r) (hh : gI X 579 a = (s : Int)) : Ct l D kA b t0 yX8_hearAll cX8_hearAll 2 (some FieldType.int) 2 48 [rv (some a)] X 0 0 (pD (some (iv ((md : Int) - s))) (sI (tlM X r (tkF (gA X q) fm s (md - s) t)) 579 a md)) (pF) := by
  refine Ct_mk hl (by decide) (Nat.le_of_ble_eq_true rfl) rfl ?_
  intro p9 e9 s9 m9 args9 below9 meth9 c9 C hr hx0
  refine V_aload_n C dX8_hearAll_0 rfl ?_
  refine V_getIx C cl9 fX8_15 (x := (md : Int)) hKa hmd dX8_hearAll_1 ?_
  refine V_aload_n C dX8_hearAll_4 rfl ?_
  refine V_getIx C cl9 fX8_19 (x := (s : Int)) hKa hh dX8_hearAll_5 ?_
  refine V_isub C dX8_hearAll_8 ?_
  refine V_istore_n C dX8_hearAll_9 (by decide) rfl ?_
  refine V_aload_n C dX8_hearAll_10 rfl ?_
  refine V_aload_n C dX8_hearAll_11 rfl ?_
  refine V_getP C cl9 fX8_25 (r := some r) hKa hr0 dX8_hearAll_12 ?_
  refine V_aload_n C dX8_hearAll_15 rfl ?_
  refine V_getIx C cl9 fX8_19 (x := (s : Int)) hKa hh dX8_hearAll_16 ?_
  refine V_callV0 C (As := [_, _]) (c_X8_takeInto hl hKa hfm hq hKq hN hmd hmc hc9 hrow hm hKr ht h1 hs) kX8_44 hKa rfl rfl (Nat.le_of_ble_eq_true rfl) ⟨Nat.le_of_ble_eq_true rfl, Nat.le_of_ble_eq_true rfl⟩ ⟨Nat.le_of_ble_eq_true rfl, Nat.le_of_ble_eq_true rfl⟩ dX8_hearAll_19 ?_
  refine V_aload_n C dX8_hearAll_22 rfl ?_
  refine V_aload_n C dX8_hearAll_23 rfl ?_
  refine V_getIx C cl9 fX8_15 (x := (md : Int)) hKa hmd dX8_hearAll_24 ?_
  refine V_putI C cl9 fX8_19 (Or.inl rfl) rfl hKa dX8_hearAll_27 ?_
  refine V_iload_n C dX8_hearAll_30 rfl ?_
  exact V_iret C (by omega) (by omega) ⟨rfl, rfl⟩ hr dX8_hearAll_31
set_option maxHeartbeats 2000000 in
set_option maxRecDepth 20000 in
theorem c_X8_ofAll (hl : l.stackTraces = false) {a q cap md : Nat} {fm : Int} (hKa : gK X a = 10) (hfm : gI X 576 a = fm) (hq : gP X 577 a = some q) (hKq : gK X q = 20) (hN : gN X q = cap) (hmd : gI X 578 a = (md : Int)) (hmc : md ≤ cap) (hc9 : cap ≤ 20000) (hrow : ∀ i, i < md → 0 ≤ gA X q i ∧ gA X q i ≤ 12000001) (hm : 0 ≤ fm ∧ fm + md ≤ 20000) : Ct l D kA b t0 yX8_ofAll cX8_ofAll 2 (some (FieldType.object "ChargeYard$Tally")) 2 48 [rv (some a)] X 1 4 (fun v Y => ∃ r, gK X r = 0 ∧ b ≤ r ∧ v = some (rv (some r)) ∧ Y = tlM (alO X r 8) r (tkF (gA X q) fm 0 md (0, 0, 0, 0))) (pF) := by
  refine Ct_mk hl (by decide) (Nat.le_of_ble_eq_true rfl) rfl ?_
  intro p9 e9 s9 m9 args9 below9 meth9 c9 C hr hx0
  refine V_new C cl7 nX8_22 rfl (by first | exact Nat.le_of_ble_eq_true rfl | (dsimp only; omega)) (by first | exact Nat.le_of_ble_eq_true rfl | (dsimp only; omega)) dX8_ofAll_0 (fun r hr1 hbr => ?_)
  have hra : a ≠ r := ne_of_0 hr1 (by omega)
  have hrq : q ≠ r := ne_of_0 hr1 (by omega)
  refine V_dup C dX8_ofAll_3 rfl ?_
  refine V_callM0 C (As := []) (c_X6_init hl (if_pos rfl)) kX8_24 rfl rfl (Nat.le_of_ble_eq_true rfl) ⟨Nat.le_of_ble_eq_true rfl, Nat.le_of_ble_eq_true rfl⟩ ⟨(by first | exact Nat.le_of_ble_eq_true rfl | (dsimp only; omega)), (by first | exact Nat.le_of_ble_eq_true rfl | (dsimp only; omega))⟩ dX8_ofAll_4 ?_
  refine V_astore_n C dX8_ofAll_7 (by decide) rfl ?_
  refine V_aload_n C dX8_ofAll_8 rfl ?_
  refine V_aload_n C dX8_ofAll_9 rfl ?_
  refine V_iconst C dX8_ofAll_10 ?_
  refine V_callV0 C (As := [_, _]) (c_X8_takeInto hl (X := tlM (alO X r 8) r (0, 0, 0, 0)) (s := 0) (t := (0, 0, 0, 0)) (r := r) (q := q) (fm := fm) (md := md) (cap := cap) ((if_neg hra).trans hKa) ((if_neg hra).trans hfm) ((if_neg hra).trans hq) ((if_neg hrq).trans hKq) hN ((if_neg hra).trans hmd) hmc hc9 hrow hm (if_pos rfl) (tlI_tlM _ _ _) (by decide) (Nat.zero_le _)) kX8_44 ((if_neg hra).trans hKa) rfl rfl (Nat.le_of_ble_eq_true rfl) ⟨Nat.le_of_ble_eq_true rfl, Nat.le_of_ble_eq_true rfl⟩ ⟨Nat.le_of_ble_eq_true rfl, Nat.le_of_ble_eq_true rfl⟩ dX8_ofAll_11 ?_
  refine V_aload_n C dX8_ofAll_14 rfl ?_
  exact V_aret C (by omega) (by omega) ⟨r, hr1, hbr, rfl, tlM_tlM _ _ _ _⟩ hr (Or.inl ⟨_, rfl⟩) dX8_ofAll_15
set_option maxHeartbeats 2000000 in
set_option maxRecDepth 20000 in
theorem c_X8_make0 (hl : l.stackTraces = false) {a q cap md : Nat} {e u : Int} (hKa : gK X a = 10) (hq : gP X 577 a = some q) (hKq : gK X q = 20) (hN : gN X q = cap) (hmd : gI X 578 a = (md : Int)) (hc9 : cap ≤ 20000) (he : 0 ≤ e ∧ e ≤ 6000000) (hu : u = 0 ∨ u = 1) (hmc : md < cap) : Ct l D kA b t0 yX8_make cX8_make 3 none 2 70 [rv (some a), iv e, iv u] X 0 0 (pD none (sI (sA X q md (2 * e + u)) 578 a ((md : Int) + 1))) (pF) := by
  refine Ct_mk hl (by decide) (Nat.le_of_ble_eq_true rfl) rfl ?_
  intro p9 e9 s9 m9 args9 below9 meth9 c9 C hr hx0
  refine V_aload_n C dX8_make_0 rfl ?_
  refine V_getIx C cl9 fX8_15 (x := (md : Int)) hKa hmd dX8_make_1 ?_
  refine V_aload_n C dX8_make_4 rfl ?_
  refine V_getP C cl9 fX8_9 (r := some q) hKa hq dX8_make_5 ?_
  refine V_alen C (Or.inl hKq) hN dX8_make_8 ?_
  refine V_icmp_lt C dX8_make_9 (by omega) (by omega) (fun h9 => ?_) (fun h9 => ?_)
  · refine V_aload_n C dX8_make_36 rfl ?_
    refine V_getIx C cl9 fX8_15 (x := (md : Int)) hKa hmd dX8_make_37 ?_
    refine V_aload_n C dX8_make_40 rfl ?_
    refine V_getP C cl9 fX8_9 (r := some q) hKa hq dX8_make_41 ?_
    refine V_alen C (Or.inl hKq) hN dX8_make_44 ?_
    refine V_icmp_ge C dX8_make_45 (by omega) (by omega) (fun h45 => ?_) (fun h45 => ?_)
    · exact V_vret C (by omega) (by omega) ⟨rfl, by first | rfl | (exfalso; omega)⟩ hr dX8_make_80
    · refine V_aload_n C dX8_make_48 rfl ?_
      refine V_getP C cl9 fX8_9 (r := some q) hKa hq dX8_make_49 ?_
      refine V_aload_n C dX8_make_52 rfl ?_
      refine V_getIx C cl9 fX8_15 (x := (md : Int)) hKa hmd dX8_make_53 ?_
      refine V_iconst C dX8_make_56 ?_
      refine V_iload_n C dX8_make_57 rfl ?_
      refine V_imul C dX8_make_58 ?_
      refine V_join C (pcm := 68) (P := fun z => z = u) (fun hj => ?_) (fun z1 hz1 => ?_)
      · refine V_iload_n C dX8_make_59 rfl ?_
        refine V_if_eq C dX8_make_60 (by omega) (fun h60 => ?_) (fun h60 => ?_)
        · refine V_iconst C dX8_make_67 ?_
          exact hj _ (by omega)
        · refine V_iconst C dX8_make_63 ?_
          refine V_goto C dX8_make_64 ?_
          exact hj _ (by omega)
      subst hz1
      refine V_iadd C dX8_make_68 ?_
      refine V_iast C hKq hN (show md < cap by omega) (by omega) rfl dX8_make_69 ?_
      refine V_aload_n C dX8_make_70 rfl ?_
      refine V_dup C dX8_make_71 rfl ?_
      refine V_getIx C cl9 fX8_15 (x := (md : Int)) hKa hmd dX8_make_72 ?_
      refine V_iconst C dX8_make_75 ?_
      refine V_iadd C dX8_make_76 ?_
      refine V_putI C cl9 fX8_15 (Or.inl rfl) rfl hKa dX8_make_77 ?_
      exact V_vret C (by omega) (by omega) ⟨rfl, by first | rfl | (exfalso; omega)⟩ hr dX8_make_80
  · exfalso; omega
set_option maxHeartbeats 2000000 in
set_option maxRecDepth 20000 in
theorem c_X8_make1 (hl : l.stackTraces = false) {a q cap n2 : Nat} {e u : Int} (hKa : gK X a = 10) (hq : gP X 577 a = some q) (hKq : gK X q = 20) (hN : gN X q = cap) (hmd : gI X 578 a = (cap : Int)) (hc9 : cap ≤ 20000) (he : 0 ≤ e ∧ e ≤ 6000000) (hu : u = 0 ∨ u = 1) (hmc : 1 ≤ cap ∧ cap < 20000) (hn2 : n2 = if 2 * cap < 20000 then 2 * cap else 20000) : Ct l D kA b t0 yX8_make cX8_make 3 none 2 70 [rv (some a), iv e, iv u] X 1 n2 (fun v Y => v = none ∧ ∃ q2, gK X q2 = 0 ∧ b ≤ q2 ∧ Y = sI (sA (sP (sAr (alA X q2 20 n2) q2 (va_cpy (gA (alA X q2 20 n2) q) (gA (alA X q2 20 n2) q2) 0 0 cap)) 577 a (some q2)) q2 cap (2 * e + u)) 578 a ((cap : Int) + 1)) (pF) := by
  refine Ct_mk hl (by decide) (Nat.le_of_ble_eq_true rfl) rfl ?_
  intro p9 e9 s9 m9 args9 below9 meth9 c9 C hr hx0
  refine V_aload_n C dX8_make_0 rfl ?_
  refine V_getIx C cl9 fX8_15 (x := (cap : Int)) hKa hmd dX8_make_1 ?_
  refine V_aload_n C dX8_make_4 rfl ?_
  refine V_getP C cl9 fX8_9 (r := some q) hKa hq dX8_make_5 ?_
  refine V_alen C (Or.inl hKq) hN dX8_make_8 ?_
  refine V_icmp_lt C dX8_make_9 (by omega) (by omega) (fun h9 => ?_) (fun h9 => ?_)
  · exfalso; omega
  · refine V_aload_n C dX8_make_12 rfl ?_
    refine V_aload_n C dX8_make_13 rfl ?_
    refine V_getP C cl9 fX8_9 (r := some q) hKa hq dX8_make_14 ?_
    refine V_sipush C dX8_make_17 (by decide) ?_
    refine V_iconst C dX8_make_20 ?_
    refine V_aload_n C dX8_make_21 rfl ?_
    refine V_getP C cl9 fX8_9 (r := some q) hKa hq dX8_make_22 ?_
    refine V_alen C (Or.inl hKq) hN dX8_make_25 ?_
    refine V_imul C dX8_make_26 ?_
    refine V_mmin C (by decide) (by omega) kX8_32 (Nat.le_of_ble_eq_true rfl) (Nat.le_of_ble_eq_true rfl) (by first | (dsimp only; omega) | exact Nat.le_of_ble_eq_true rfl) (by first | (dsimp only; omega) | exact Nat.le_of_ble_eq_true rfl) dX8_make_27 ?_
    rw [show (if (2 : Int) * (cap : Int) < 20000 then (2 : Int) * (cap : Int) else 20000) = (n2 : Int) by rw [hn2]; split <;> (split <;> omega)]
    refine V_callS C (As := [_, _]) (c_J7_copyOf_59c91 hl hKq hN (show cap < n2 by rw [hn2]; split <;> omega) (by rw [hn2]; split <;> omega)) kX8_38 rfl rfl (Nat.le_of_ble_eq_true rfl) ⟨Nat.le_of_ble_eq_true rfl, Nat.le_of_ble_eq_true rfl⟩ ⟨(by first | exact Nat.le_of_ble_eq_true rfl | (dsimp only; omega)), (by first | exact Nat.le_of_ble_eq_true rfl | (dsimp only; omega))⟩ dX8_make_30 (fun _ _ h => h.elim) (fun v9 Y hp => ?_)
    obtain ⟨q2, hq2, hb2, rfl, rfl⟩ := hp
    have hqa : a ≠ q2 := ne_of_0 hq2 (by omega)
    have hn3 : cap < n2 ∧ n2 ≤ 20000 := by rw [hn2]; split <;> omega
    refine V_putP C cl9 fX8_9 (Or.inl rfl) (Or.inr ⟨_, rfl⟩) ((if_neg hqa).trans hKa) dX8_make_33 ?_
    refine V_aload_n C dX8_make_36 rfl ?_
    refine V_getIx C cl9 fX8_15 (x := (cap : Int)) ((if_neg hqa).trans hKa) hmd dX8_make_37 ?_
    refine V_aload_n C dX8_make_40 rfl ?_
    refine V_getP C cl9 fX8_9 (r := some q2) ((if_neg hqa).trans hKa) (if_pos ⟨rfl, rfl⟩) dX8_make_41 ?_
    refine V_alen C (Or.inl (if_pos rfl)) (if_pos rfl) dX8_make_44 ?_
    refine V_icmp_ge C dX8_make_45 (by omega) (by omega) (fun h45 => ?_) (fun h45 => ?_)
    · first | exact V_vret C (by omega) (by omega) ⟨rfl, q2, hq2, hb2, rfl⟩ hr dX8_make_80 | (exfalso; omega)
    · refine V_aload_n C dX8_make_48 rfl ?_
      refine V_getP C cl9 fX8_9 (r := some q2) ((if_neg hqa).trans hKa) (if_pos ⟨rfl, rfl⟩) dX8_make_49 ?_
      refine V_aload_n C dX8_make_52 rfl ?_
      refine V_getIx C cl9 fX8_15 (x := (cap : Int)) ((if_neg hqa).trans hKa) hmd dX8_make_53 ?_
      refine V_iconst C dX8_make_56 ?_
      refine V_iload_n C dX8_make_57 rfl ?_
      refine V_imul C dX8_make_58 ?_
      refine V_join C (pcm := 68) (P := fun z => z = u) (fun hj => ?_) (fun z1 hz1 => ?_)
      · refine V_iload_n C dX8_make_59 rfl ?_
        refine V_if_eq C dX8_make_60 (by omega) (fun h60 => ?_) (fun h60 => ?_)
        · refine V_iconst C dX8_make_67 ?_
          exact hj _ (by omega)
        · refine V_iconst C dX8_make_63 ?_
          refine V_goto C dX8_make_64 ?_
          exact hj _ (by omega)
      subst hz1
      refine V_iadd C dX8_make_68 ?_
      refine V_iast C (if_pos rfl) (if_pos rfl) (show cap < n2 by omega) (by omega) rfl dX8_make_69 ?_
      refine V_aload_n C dX8_make_70 rfl ?_
      refine V_dup C dX8_make_71 rfl ?_
      refine V_getIx C cl9 fX8_15 (x := (cap : Int)) ((if_neg hqa).trans hKa) hmd dX8_make_72 ?_
      refine V_iconst C dX8_make_75 ?_
      refine V_iadd C dX8_make_76 ?_
      refine V_putI C cl9 fX8_15 (Or.inl rfl) rfl ((if_neg hqa).trans hKa) dX8_make_77 ?_
      first | exact V_vret C (by omega) (by omega) ⟨rfl, q2, hq2, hb2, rfl⟩ hr dX8_make_80 | (exfalso; omega)
set_option maxHeartbeats 2000000 in
set_option maxRecDepth 20000 in
theorem c_X4_billHeard (hl : l.stackTraces = false)  {s v r p : Nat} {t : Ta} {p0 p1 p2 p3 : Int} (hKs : gK X s = 6) (hKv : gK X v = 10) (hKr : gK X r = 8) (hKp : gK X p = 9) (hv : gP X 324 s = some v) (hr0 : gP X 580 v = some r) (hp : gP X 323 s = some p) (ht : tlI X r t) (hp0 : gI X 512 p = p0) (hp1 : gI X 513 p = p1) (hp2 : gI X 514 p = p2) (hp3 : gI X 515 p = p3) (hd : 0 ≤ t.2.1 ∧ t.2.1 ≤ 6000000) (hn : 0 ≤ t.2.2.1 ∧ t.2.2.1 ≤ 6000000) (hi : 0 ≤ t.2.2.2 ∧ t.2.2.2 ≤ 20000) (g0 : 0 ≤ p0 ∧ p0 ≤ 1000) (g1 : 0 ≤ p1 ∧ p1 ≤ 1000) (g2 : 0 ≤ p2 ∧ p2 ≤ 1000) (g3 : 0 ≤ p3 ∧ p3 ≤ 1000) : Ct l D kA b t0 yX4_billHeard cX4_billHeard 1 (some FieldType.int) 2 48 [rv (some s)] X 0 0 (pD (some (iv (ceS t.2.1 t.2.2.1 t.2.2.2 p1 p2 p3 p0))) X) (pF) := by
  refine Ct_mk hl (by decide) (Nat.le_of_ble_eq_true rfl) rfl ?_
  intro p9 e9 s9 m9 args9 below9 meth9 c9 C hr hx0
  refine V_aload_n C dX4_billHeard_0 rfl ?_
  refine V_getP C cl5 fX4_67 (r := some v) hKs hv dX4_billHeard_1 ?_
  refine V_getP C cl9 fX4_101 (r := some r) hKv hr0 dX4_billHeard_4 ?_
  refine V_aload_n C dX4_billHeard_7 rfl ?_
  refine V_getP C cl5 fX4_61 (r := some p) hKs hp dX4_billHeard_8 ?_
  refine V_callV1 C (As := [_]) (c_X6_cents hl hKr hKp ht hp0 hp1 hp2 hp3 hd hn hi g0 g1 g2 g3) kX4_105 hKr rfl rfl (Nat.le_of_ble_eq_true rfl) ⟨Nat.le_of_ble_eq_true rfl, Nat.le_of_ble_eq_true rfl⟩ ⟨Nat.le_of_ble_eq_true rfl, Nat.le_of_ble_eq_true rfl⟩ dX4_billHeard_11 ?_
  exact V_iret C (by omega) (by omega) ⟨rfl, rfl⟩ hr dX4_billHeard_14
set_option maxHeartbeats 2000000 in
set_option maxRecDepth 20000 in
theorem c_X4_boundIn (hl : l.stackTraces = false) {a s k : Nat} {fa mx h cp mo dg : Int} (hKa : gK X a = 6) (hKs : gK X s = 7) (hKk : gK X k = 3) (hs : gP X 320 a = some s) (hk : gP X 321 a = some k) (hfa : gI X 387 s = fa) (hfa1 : fa = 0 ∨ fa = 1) (hmx : gI X 386 s = mx) (hmx1 : 0 ≤ mx ∧ mx ≤ 50000) (hh : gI X 131 k = h) (hc : gI X 129 k = cp) (hm : gI X 130 k = mo) (h1 : 0 ≤ h ∧ h ≤ cp) (h2 : cp ≤ 6000000) (h3 : 0 ≤ mo ∧ mo ≤ 50000) (h4 : -50 ≤ dg ∧ dg ≤ 50) : Ct l D kA b t0 yX4_boundIn cX4_boundIn 2 (some FieldType.int) 2 44 [rv (some a), iv dg] X 0 0 (pD (some (iv (if fa = 1 then 0 else if mx < wantV h cp mo dg then mx else wantV h cp mo dg))) X) (pF) := by
  refine Ct_mk hl (by decide) (Nat.le_of_ble_eq_true rfl) rfl ?_
  intro p9 e9 s9 m9 args9 below9 meth9 c9 C hr hx0
  have hw := wantV_in h1 h3 h4
  refine V_join C (pcm := 32) (P := fun z => z = (if fa = 1 then 0 else if mx < wantV h cp mo dg then mx else wantV h cp mo dg)) (fun hj => ?_) (fun z1 hz1 => ?_)
  · refine V_aload_n C dX4_boundIn_0 rfl ?_
    refine V_getP C cl5 fX4_37 (r := some s) hKa hs dX4_boundIn_1 ?_
    refine V_getIx C cl6 fX4_77 (x := fa) hKs hfa dX4_boundIn_4 ?_
    refine V_if_eq C dX4_boundIn_7 (by omega) (fun h7 => ?_) (fun h7 => ?_)
    · refine V_aload_n C dX4_boundIn_14 rfl ?_
      refine V_getP C cl5 fX4_41 (r := some k) hKa hk dX4_boundIn_15 ?_
      refine V_iload_n C dX4_boundIn_18 rfl ?_
      refine V_callV1 C (As := [_]) (c_X1_wants hl hKk hh hc hm h1 h2 h3 h4) kX4_80 hKk rfl rfl (Nat.le_of_ble_eq_true rfl) ⟨Nat.le_of_ble_eq_true rfl, Nat.le_of_ble_eq_true rfl⟩ ⟨Nat.le_of_ble_eq_true rfl, Nat.le_of_ble_eq_true rfl⟩ dX4_boundIn_19 ?_
      refine V_aload_n C dX4_boundIn_22 rfl ?_
      refine V_getP C cl5 fX4_37 (r := some s) hKa hs dX4_boundIn_23 ?_
      refine V_getIx C cl6 fX4_86 (x := mx) hKs hmx dX4_boundIn_26 ?_
      refine V_mmin C (by omega) (by omega) kX4_89 (Nat.le_of_ble_eq_true rfl) (Nat.le_of_ble_eq_true rfl) (by first | (dsimp only; omega) | exact Nat.le_of_ble_eq_true rfl) (by first | (dsimp only; omega) | exact Nat.le_of_ble_eq_true rfl) dX4_boundIn_29 ?_
      exact hj _ (by first | (rw [if_pos (show fa = 1 by omega)]; done) | (rw [if_neg (show ¬ fa = 1 by omega)]; done))
    · refine V_iconst C dX4_boundIn_10 ?_
      refine V_goto C dX4_boundIn_11 ?_
      exact hj _ (by first | (rw [if_pos (show fa = 1 by omega)]; done) | (rw [if_neg (show ¬ fa = 1 by omega)]; done))
  exact V_iret C (by omega) (by omega) ⟨ivc hz1, rfl⟩ hr dX4_boundIn_32
end CLS4
