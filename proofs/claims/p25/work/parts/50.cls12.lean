/-! the class: serving by ranks -/
def ruK (X : Mm) (rs : List Nat) (K : Nat → Nat) (RK : Nat → Int) : Prop := ∀ q ∈ rs, gP X 322 q = some (K q) ∧ gK X (K q) = 4 ∧ gI X 193 (K q) = RK q ∧ (0 ≤ RK q ∧ RK q ≤ 3)
def ndV (BD : Nat → Int) (q : Nat) : Int := if 1400 < BD q then 1400 else BD q
def svS (U BD RK : Nat → Int) (g r : Int) (q : Nat) (s : Int × (Nat → Int)) : Int × (Nat → Int) := if (RK q = r ∧ (if 1400 ≤ BD q then (1 : Int) else 0) = g) ∧ U q = 1 ∧ ndV BD q ≤ s.1 then (s.1 - ndV BD q, fun x => if x = q then ndV BD q else s.2 x) else s
def svF (U BD RK : Nat → Int) (g r : Int) (rs : List Nat) : Nat → Int × (Nat → Int) → Int × (Nat → Int)
  | 0, s => s
  | n + 1, s => svS U BD RK g r (rs.getD n 0) (svF U BD RK g r rs n s)
def svR (U BD RK : Nat → Int) (g : Int) (rs : List Nat) : Nat → Int × (Nat → Int) → Int × (Nat → Int)
  | 0, s => s
  | k + 1, s => svF U BD RK g (3 - k) rs rs.length (svR U BD RK g rs k s)
theorem svF_in (U BD RK : Nat → Int) (g r : Int) (rs : List Nat) (hB : ∀ q ∈ rs, 0 ≤ BD q ∧ BD q ≤ 50000) (s : Int × (Nat → Int)) (n : Nat) (hn : n ≤ rs.length) : (svF U BD RK g r rs n s).1 ≤ s.1 ∧ ((svF U BD RK g r rs n s).1 = s.1 ∨ 0 ≤ (svF U BD RK g r rs n s).1) := by
  induction n with
  | zero => exact ⟨Int.le_refl _, Or.inl rfl⟩
  | succ n ih =>
    have ih := ih (by omega)
    have hb := hB (rs.getD n 0) (by rw [List.getD_eq_getElem?_getD, List.getElem?_eq_getElem (by omega)]; exact List.getElem_mem _)
    show (svS U BD RK g r _ (svF U BD RK g r rs n s)).1 ≤ _ ∧ ((svS U BD RK g r _ (svF U BD RK g r rs n s)).1 = _ ∨ 0 ≤ (svS U BD RK g r _ (svF U BD RK g r rs n s)).1)
    have hnd : 0 ≤ ndV BD (rs.getD n 0) := by unfold ndV; split <;> omega
    unfold svS
    by_cases cc : (RK (rs.getD n 0) = r ∧ (if 1400 ≤ BD (rs.getD n 0) then (1 : Int) else 0) = g) ∧ U (rs.getD n 0) = 1 ∧ ndV BD (rs.getD n 0) ≤ (svF U BD RK g r rs n s).1
    · rw [if_pos cc]
      have := cc.2.2
      dsimp only
      omega
    · rw [if_neg cc]
      exact ih
theorem svR_in (U BD RK : Nat → Int) (g : Int) (rs : List Nat) (hB : ∀ q ∈ rs, 0 ≤ BD q ∧ BD q ≤ 50000) (s : Int × (Nat → Int)) (k : Nat) : (svR U BD RK g rs k s).1 ≤ s.1 ∧ ((svR U BD RK g rs k s).1 = s.1 ∨ 0 ≤ (svR U BD RK g rs k s).1) := by
  induction k with
  | zero => exact ⟨Int.le_refl _, Or.inl rfl⟩
  | succ k ih =>
    have h := svF_in U BD RK g (3 - k) rs hB (svR U BD RK g rs k s) rs.length (Nat.le_refl _)
    show (svF U BD RK g (3 - k) rs rs.length (svR U BD RK g rs k s)).1 ≤ _ ∧ _
    refine ⟨by omega, ?_⟩
    show (svF U BD RK g (3 - k) rs rs.length (svR U BD RK g rs k s)).1 = _ ∨ 0 ≤ (svF U BD RK g (3 - k) rs rs.length (svR U BD RK g rs k s)).1
    omega
section CLS12
variable {l : Launch} {D : va_G} {kA : Nat → ClassId} {b t0 : Nat} {X : Mm}
set_option maxHeartbeats 2000000 in
set_option maxRecDepth 20000 in
theorem c_X9_serveRanks (hl : l.stackTraces = false) {y a d c : Nat} {rs : List Nat} {S K : Nat → Nat} {U BD RK : Nat → Int} {lf g : Int} (hKy : gK X y = 11) (ha : gP X 645 y = some a) (h : LI t0 X a rs d c) (hr9 : ruI X rs S U BD) (hrk : ruK X rs K RK) (hlf : -2000000 ≤ lf ∧ lf ≤ 300000) (hg : g = 0 ∨ g = 1) : Ct l D kA b t0 yX9_serveRanks cX9_serveRanks 9 (some FieldType.int) 3 64 [rv (some y), iv lf, iv g] X 0 0 (pD (some (iv (svR U BD RK g rs 4 (lf, gI X 333)).1)) (sIf X 333 (svR U BD RK g rs 4 (lf, gI X 333)).2)) (pF) := by
  refine Ct_mk hl (by decide) (Nat.le_of_ble_eq_true rfl) rfl ?_
  intro p9 e9 s9 m9 args9 below9 meth9 c9 C hr hx0
  have hle : rs.length ≤ 1000 := Nat.le_trans h.2.2.2.2.2.1 h.2.2.2.2.2.2.1
  have hB : ∀ q ∈ rs, 0 ≤ BD q ∧ BD q ≤ 50000 := fun q hq => (hr9 q hq).2.2.2.2.2.2
  refine V_iload_n C dX9_serveRanks_0 rfl ?_
  refine V_istore_n C dX9_serveRanks_1 (by decide) rfl ?_
  refine V_iconst C dX9_serveRanks_2 ?_
  refine V_istore C dX9_serveRanks_3 (by decide) rfl ?_
  refine V_while C (St := Nat × Option Value × Option Value × Option Value × Option Value) (f := fun z => sIf X 333 (svR U BD RK g rs z.1 (lf, gI X 333)).2) (g := fun z => [some (rv (some y)), some (iv lf), some (iv g), some (iv (svR U BD RK g rs z.1 (lf, gI X 333)).1), some (iv (3 - (z.1 : Int))), z.2.1, z.2.2.1, z.2.2.2.1, z.2.2.2.2]) (cs := fun _ => 0) (ss := fun _ => 0) (μ := fun z => 5 - z.1) (I := fun z => z.1 ≤ 4) (x0 := (0, none, none, none, none)) (sIf_self X 333) rfl rfl rfl (Nat.zero_le _) ?_
  rintro ⟨k, u1, u2, u3, u4⟩ hk ih
  dsimp only at hk ih ⊢
  have hin := svR_in U BD RK g rs hB (lf, gI X 333) k
  dsimp only at hin
  refine V_iload C dX9_serveRanks_5 rfl ?_
  refine V_if_lt C dX9_serveRanks_7 (by omega) (fun h7 => ?_) (fun h7 => ?_)
  · obtain rfl : k = 4 := by omega
    refine V_iload_n C dX9_serveRanks_138 rfl ?_
    exact V_iret C (by omega) (by omega) ⟨rfl, rfl⟩ hr dX9_serveRanks_139
  · refine V_iconst C dX9_serveRanks_10 ?_
    refine V_istore C dX9_serveRanks_11 (by decide) rfl ?_
    refine V_while C (St := Nat × Option Value × Option Value × Option Value) (f := fun z => sIf X 333 (svF U BD RK g (3 - k) rs z.1 (svR U BD RK g rs k (lf, gI X 333))).2) (g := fun z => [some (rv (some y)), some (iv lf), some (iv g), some (iv (svF U BD RK g (3 - k) rs z.1 (svR U BD RK g rs k (lf, gI X 333))).1), some (iv (3 - (k : Int))), some (iv (z.1 : Int)), z.2.1, z.2.2.1, z.2.2.2]) (cs := fun _ => 0) (ss := fun _ => 0) (μ := fun z => rs.length + 1 - z.1) (I := fun z => z.1 ≤ rs.length) (x0 := (0, u2, u3, u4)) rfl rfl rfl rfl (Nat.zero_le _) ?_
    rintro ⟨i, u5, u6, u7⟩ hi ih2
    dsimp only at hi ih2 ⊢
    have hin2 := svF_in U BD RK g (3 - k) rs hB (svR U BD RK g rs k (lf, gI X 333)) i hi
    refine V_iload C dX9_serveRanks_13 rfl ?_
    refine V_aload_n C dX9_serveRanks_15 rfl ?_
    refine V_getP C cl10 fX9_28 (r := some a) hKy ha dX9_serveRanks_16 ?_
    refine V_callV1 C (As := []) (L_size hl (LI.same (Y := sIf X 333 (svF U BD RK g (3 - k) rs i (svR U BD RK g rs k (lf, gI X 333))).2) h rfl rfl rfl rfl rfl)) kX9_63 h.1 rfl rfl (Nat.le_of_ble_eq_true rfl) ⟨Nat.le_of_ble_eq_true rfl, Nat.le_of_ble_eq_true rfl⟩ ⟨Nat.le_of_ble_eq_true rfl, Nat.le_of_ble_eq_true rfl⟩ dX9_serveRanks_19 ?_
    refine V_icmp_ge C dX9_serveRanks_22 (by omega) (by omega) (fun h22 => ?_) (fun h22 => ?_)
    · obtain rfl : i = rs.length := by omega
      refine V_iinc C dX9_serveRanks_132 (by decide) rfl rfl ?_
      refine V_goto C dX9_serveRanks_135 ?_
      have h8 := fun w1 w2 w3 w4 => ih (k + 1, w1, w2, w3, w4) (by show k + 1 ≤ 4; omega) (by show 5 - (k + 1) < 5 - k; omega)
      dsimp only at h8
      rw [show (3 : Int) - ((k + 1 : Nat) : Int) = 3 - (k : Int) + -1 by omega] at h8
      exact h8 _ _ _ _
    · obtain ⟨q, hq⟩ : ∃ q, rs[i]? = some q := ⟨rs[i]'(by omega), List.getElem?_eq_getElem (by omega)⟩
      have hqi := hr9 q (List.mem_of_getElem? hq)
      have hqk := hrk q (List.mem_of_getElem? hq)
      have eq : rs.getD i 0 = q := by rw [List.getD_eq_getElem?_getD, hq]; rfl
      refine V_aload_n C dX9_serveRanks_25 rfl ?_
      refine V_getP C cl10 fX9_28 (r := some a) hKy ha dX9_serveRanks_26 ?_
      refine V_iload C dX9_serveRanks_29 rfl ?_
      refine V_callV1 C (As := [_]) (L_get hl (LI.same (Y := sIf X 333 (svF U BD RK g (3 - k) rs i (svR U BD RK g rs k (lf, gI X 333))).2) h rfl rfl rfl rfl rfl) hq rfl) kX9_283 h.1 rfl rfl (Nat.le_of_ble_eq_true rfl) ⟨Nat.le_of_ble_eq_true rfl, Nat.le_of_ble_eq_true rfl⟩ ⟨Nat.le_of_ble_eq_true rfl, Nat.le_of_ble_eq_true rfl⟩ dX9_serveRanks_31 ?_
      refine V_cast C cl5 cc_RX9_161 hqi.1 dX9_serveRanks_34 ?_
      refine V_astore C dX9_serveRanks_37 (by decide) rfl ?_
      refine V_aload C dX9_serveRanks_39 rfl ?_
      refine V_getIx C cl5 fX9_350 (x := BD q) hqi.1 hqi.2.2.2.2.2.1 dX9_serveRanks_41 ?_
      refine V_sipush C dX9_serveRanks_44 (by decide) ?_
      refine V_mmin C (by omega) (by decide) kX9_356 (Nat.le_of_ble_eq_true rfl) (Nat.le_of_ble_eq_true rfl) (by first | (dsimp only; omega) | exact Nat.le_of_ble_eq_true rfl) (by first | (dsimp only; omega) | exact Nat.le_of_ble_eq_true rfl) dX9_serveRanks_47 ?_
      refine V_istore C dX9_serveRanks_50 (by decide) rfl ?_
      refine V_join C (pcm := 90) (P := fun z => z = (if RK q = 3 - (k : Int) ∧ (if 1400 ≤ BD q then (1 : Int) else 0) = g then 1 else 0)) (fun hj => ?_) (fun z1 hz1 => ?_)
      · refine V_aload C dX9_serveRanks_52 rfl ?_
        refine V_getP C cl5 fX9_340 (r := some ((K q))) hqi.1 hqk.1 dX9_serveRanks_54 ?_
        refine V_getIx C cl3 fX9_365 (x := RK q) hqk.2.1 hqk.2.2.1 dX9_serveRanks_57 ?_
        refine V_iload C dX9_serveRanks_60 rfl ?_
        refine V_icmp_ne C dX9_serveRanks_62 (by omega) (by omega) (fun h62 => ?_) (fun h62 => ?_)
        · refine V_iconst C dX9_serveRanks_89 ?_
          exact hj _ (by first | (rw [if_pos (show RK q = 3 - (k : Int) ∧ (if 1400 ≤ BD q then (1 : Int) else 0) = g from ⟨by omega, by rw [← hz2]; omega⟩)]; done) | (rw [if_neg (show ¬ (RK q = 3 - (k : Int) ∧ (if 1400 ≤ BD q then (1 : Int) else 0) = g) from fun z => by have g1 := z.1; have g2 := z.2; first | omega | (rw [← hz2] at g2; omega))]; done))
        · refine V_join C (pcm := 81) (P := fun z => z = (if 1400 ≤ BD q then 1 else 0)) (fun hj => ?_) (fun z2 hz2 => ?_)
          · refine V_aload C dX9_serveRanks_65 rfl ?_
            refine V_getIx C cl5 fX9_350 (x := BD q) hqi.1 hqi.2.2.2.2.2.1 dX9_serveRanks_67 ?_
            refine V_sipush C dX9_serveRanks_70 (by decide) ?_
            refine V_icmp_lt C dX9_serveRanks_73 (by omega) (by decide) (fun h73 => ?_) (fun h73 => ?_)
            · refine V_iconst C dX9_serveRanks_80 ?_
              exact hj _ (by split <;> omega)
            · refine V_iconst C dX9_serveRanks_76 ?_
              refine V_goto C dX9_serveRanks_77 ?_
              exact hj _ (by split <;> omega)
          refine V_iload_n C dX9_serveRanks_81 rfl ?_
          refine V_icmp_ne C dX9_serveRanks_82 (by split at hz2 <;> omega) (by omega) (fun h82 => ?_) (fun h82 => ?_)
          · refine V_iconst C dX9_serveRanks_89 ?_
            exact hj _ (by first | (rw [if_pos (show RK q = 3 - (k : Int) ∧ (if 1400 ≤ BD q then (1 : Int) else 0) = g from ⟨by omega, by rw [← hz2]; omega⟩)]; done) | (rw [if_neg (show ¬ (RK q = 3 - (k : Int) ∧ (if 1400 ≤ BD q then (1 : Int) else 0) = g) from fun z => by have g1 := z.1; have g2 := z.2; first | omega | (rw [← hz2] at g2; omega))]; done))
          · refine V_iconst C dX9_serveRanks_85 ?_
            refine V_goto C dX9_serveRanks_86 ?_
            exact hj _ (by first | (rw [if_pos (show RK q = 3 - (k : Int) ∧ (if 1400 ≤ BD q then (1 : Int) else 0) = g from ⟨by omega, by rw [← hz2]; omega⟩)]; done) | (rw [if_neg (show ¬ (RK q = 3 - (k : Int) ∧ (if 1400 ≤ BD q then (1 : Int) else 0) = g) from fun z => by have g1 := z.1; have g2 := z.2; first | omega | (rw [← hz2] at g2; omega))]; done))
      refine V_istore C dX9_serveRanks_90 (by decide) rfl ?_
      refine V_iload C dX9_serveRanks_92 rfl ?_
      refine V_if_eq C dX9_serveRanks_94 (by split at hz1 <;> omega) (fun h94 => ?_) (fun h94 => ?_)
      · refine V_iinc C dX9_serveRanks_126 (by decide) rfl rfl ?_
        refine V_goto C dX9_serveRanks_129 ?_
        have h8 := fun w1 w2 w3 => ih2 (i + 1, w1, w2, w3) (by show i + 1 ≤ rs.length; omega) (by show rs.length + 1 - (i + 1) < rs.length + 1 - i; omega)
        have e8 : svF U BD RK g (3 - k) rs (i + 1) (svR U BD RK g rs k (lf, gI X 333)) = svS U BD RK g (3 - k) q (svF U BD RK g (3 - k) rs i (svR U BD RK g rs k (lf, gI X 333))) := by show svS U BD RK g (3 - k) (rs.getD i 0) _ = _; rw [eq]
        dsimp only at h8
        rw [e8] at h8
        unfold svS at h8
        first | (rw [if_pos (show (RK q = 3 - (k : Int) ∧ (if 1400 ≤ BD q then (1 : Int) else 0) = g) ∧ U q = 1 ∧ ndV BD q ≤ (svF U BD RK g (3 - k) rs i (svR U BD RK g rs k (lf, gI X 333))).1 from ⟨Classical.byContradiction fun z => by rw [if_neg z] at hz1; omega, by omega, by unfold ndV; first | exact h111 | exact Int.not_lt.mp h111 | omega⟩)] at h8; rw [sI_sIf]; exact h8 _ _ _) | (rw [if_neg (show ¬ ((RK q = 3 - (k : Int) ∧ (if 1400 ≤ BD q then (1 : Int) else 0) = g) ∧ U q = 1 ∧ ndV BD q ≤ (svF U BD RK g (3 - k) rs i (svR U BD RK g rs k (lf, gI X 333))).1) from fun z => by first | (rw [if_pos z.1] at hz1; omega) | (have := z.2.1; omega) | (have := z.2.2; unfold ndV at this; omega))] at h8; exact h8 _ _ _)
      · refine V_aload C dX9_serveRanks_97 rfl ?_
        refine V_getP C cl5 fX9_186 (r := some ((S q))) hqi.1 hqi.2.1 dX9_serveRanks_99 ?_
        refine V_getIx C cl6 fX9_116 (x := U q) hqi.2.2.1 hqi.2.2.2.1 dX9_serveRanks_102 ?_
        refine V_if_eq C dX9_serveRanks_105 (by omega) (fun h105 => ?_) (fun h105 => ?_)
        · refine V_iinc C dX9_serveRanks_126 (by decide) rfl rfl ?_
          refine V_goto C dX9_serveRanks_129 ?_
          have h8 := fun w1 w2 w3 => ih2 (i + 1, w1, w2, w3) (by show i + 1 ≤ rs.length; omega) (by show rs.length + 1 - (i + 1) < rs.length + 1 - i; omega)
          have e8 : svF U BD RK g (3 - k) rs (i + 1) (svR U BD RK g rs k (lf, gI X 333)) = svS U BD RK g (3 - k) q (svF U BD RK g (3 - k) rs i (svR U BD RK g rs k (lf, gI X 333))) := by show svS U BD RK g (3 - k) (rs.getD i 0) _ = _; rw [eq]
          dsimp only at h8
          rw [e8] at h8
          unfold svS at h8
          first | (rw [if_pos (show (RK q = 3 - (k : Int) ∧ (if 1400 ≤ BD q then (1 : Int) else 0) = g) ∧ U q = 1 ∧ ndV BD q ≤ (svF U BD RK g (3 - k) rs i (svR U BD RK g rs k (lf, gI X 333))).1 from ⟨Classical.byContradiction fun z => by rw [if_neg z] at hz1; omega, by omega, by unfold ndV; first | exact h111 | exact Int.not_lt.mp h111 | omega⟩)] at h8; rw [sI_sIf]; exact h8 _ _ _) | (rw [if_neg (show ¬ ((RK q = 3 - (k : Int) ∧ (if 1400 ≤ BD q then (1 : Int) else 0) = g) ∧ U q = 1 ∧ ndV BD q ≤ (svF U BD RK g (3 - k) rs i (svR U BD RK g rs k (lf, gI X 333))).1) from fun z => by first | (rw [if_pos z.1] at hz1; omega) | (have := z.2.1; omega) | (have := z.2.2; unfold ndV at this; omega))] at h8; exact h8 _ _ _)
        · refine V_iload C dX9_serveRanks_108 rfl ?_
          refine V_iload_n C dX9_serveRanks_110 rfl ?_
          refine V_icmp_gt C dX9_serveRanks_111 (by split <;> omega) (by omega) (fun h111 => ?_) (fun h111 => ?_)
          · refine V_iinc C dX9_serveRanks_126 (by decide) rfl rfl ?_
            refine V_goto C dX9_serveRanks_129 ?_
            have h8 := fun w1 w2 w3 => ih2 (i + 1, w1, w2, w3) (by show i + 1 ≤ rs.length; omega) (by show rs.length + 1 - (i + 1) < rs.length + 1 - i; omega)
            have e8 : svF U BD RK g (3 - k) rs (i + 1) (svR U BD RK g rs k (lf, gI X 333)) = svS U BD RK g (3 - k) q (svF U BD RK g (3 - k) rs i (svR U BD RK g rs k (lf, gI X 333))) := by show svS U BD RK g (3 - k) (rs.getD i 0) _ = _; rw [eq]
            dsimp only at h8
            rw [e8] at h8
            unfold svS at h8
            first | (rw [if_pos (show (RK q = 3 - (k : Int) ∧ (if 1400 ≤ BD q then (1 : Int) else 0) = g) ∧ U q = 1 ∧ ndV BD q ≤ (svF U BD RK g (3 - k) rs i (svR U BD RK g rs k (lf, gI X 333))).1 from ⟨Classical.byContradiction fun z => by rw [if_neg z] at hz1; omega, by omega, by unfold ndV; first | exact h111 | exact Int.not_lt.mp h111 | omega⟩)] at h8; rw [sI_sIf]; exact h8 _ _ _) | (rw [if_neg (show ¬ ((RK q = 3 - (k : Int) ∧ (if 1400 ≤ BD q then (1 : Int) else 0) = g) ∧ U q = 1 ∧ ndV BD q ≤ (svF U BD RK g (3 - k) rs i (svR U BD RK g rs k (lf, gI X 333))).1) from fun z => by first | (rw [if_pos z.1] at hz1; omega) | (have := z.2.1; omega) | (have := z.2.2; unfold ndV at this; omega))] at h8; exact h8 _ _ _)
          · refine V_aload C dX9_serveRanks_114 rfl ?_
            refine V_iload C dX9_serveRanks_116 rfl ?_
            refine V_putI C cl5 fX9_244 (Or.inl rfl) rfl hqi.1 dX9_serveRanks_118 ?_
            refine V_iload_n C dX9_serveRanks_121 rfl ?_
            refine V_iload C dX9_serveRanks_122 rfl ?_
            refine V_isub C dX9_serveRanks_124 ?_
            refine V_istore_n C dX9_serveRanks_125 (by decide) rfl ?_
            refine V_iinc C dX9_serveRanks_126 (by decide) rfl rfl ?_
            refine V_goto C dX9_serveRanks_129 ?_
            have h8 := fun w1 w2 w3 => ih2 (i + 1, w1, w2, w3) (by show i + 1 ≤ rs.length; omega) (by show rs.length + 1 - (i + 1) < rs.length + 1 - i; omega)
            have e8 : svF U BD RK g (3 - k) rs (i + 1) (svR U BD RK g rs k (lf, gI X 333)) = svS U BD RK g (3 - k) q (svF U BD RK g (3 - k) rs i (svR U BD RK g rs k (lf, gI X 333))) := by show svS U BD RK g (3 - k) (rs.getD i 0) _ = _; rw [eq]
            dsimp only at h8
            rw [e8] at h8
            unfold svS at h8
            first | (rw [if_pos (show (RK q = 3 - (k : Int) ∧ (if 1400 ≤ BD q then (1 : Int) else 0) = g) ∧ U q = 1 ∧ ndV BD q ≤ (svF U BD RK g (3 - k) rs i (svR U BD RK g rs k (lf, gI X 333))).1 from ⟨Classical.byContradiction fun z => by rw [if_neg z] at hz1; omega, by omega, by unfold ndV; first | exact h111 | exact Int.not_lt.mp h111 | omega⟩)] at h8; rw [sI_sIf]; exact h8 _ _ _) | (rw [if_neg (show ¬ ((RK q = 3 - (k : Int) ∧ (if 1400 ≤ BD q then (1 : Int) else 0) = g) ∧ U q = 1 ∧ ndV BD q ≤ (svF U BD RK g (3 - k) rs i (svR U BD RK g rs k (lf, gI X 333))).1) from fun z => by first | (rw [if_pos z.1] at hz1; omega) | (have := z.2.1; omega) | (have := z.2.2; unfold ndV at this; omega))] at h8; exact h8 _ _ _)
end CLS12
