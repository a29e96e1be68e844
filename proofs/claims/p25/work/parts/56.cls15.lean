/-! the class: sharing watt by watt -/
section WW
variable {n : Nat} {p : Nat → Bool} {a : Nat → Nat} {U BD : Nat → Int} {tb : Nat → Bool} {B P : Nat → Int} {lf h r : Int} {g : Nat → Int}
/-- the level's facts, or all is given -/
def waI (n : Nat) (p : Nat → Bool) (a : Nat → Nat) (tb : Nat → Bool) (B P : Nat → Int) (lf h r : Int) (g : Nat → Int) : Prop := (1400 ≤ h ∧ h ≤ 50000) ∧ ((r ≤ 0 ∧ (∀ k, k < n → p k = true → g (a k) = shF tb B P n (posI lf) k)) ∨ lvI n p a tb B P lf h r g)
theorem wa_end (hF : flH n p a U BD tb B P) (hi : waI n p a tb B P lf h r g) (hr : r ≤ 0 ∨ 50000 ≤ h ∨ cntF tb B h n = 0) (hB : ∀ k, k < n → B k ≤ 50000) : ∀ k, k < n → p k = true → g (a k) = shF tb B P n (posI lf) k := by
  rcases hi.2 with z | z
  · exact z.2
  · refine lv_end hF z ?_
    rcases hr with y | y | y
    · exact Or.inl y
    · exact Or.inr (cntF_0.mpr (fun k hk hz => by have := hB k hk; omega))
    · exact Or.inr y
theorem ra_cnt (hF : flH n p a U BD tb B P) (hi : lvI n p a tb B P lf h r g) (hr : 0 < r) {rs : List Nat} (hrs : rs = ((List.range n).filter p).map a) : (raF U BD 1 rs rs.length (r, g)).1 = r - (if cntF tb B h n < r then cntF tb B h n else r) := by
  rw [fold_all hrs (raS U BD 1) (raF U BD 1 rs) (fun _ => rfl) (fun _ _ => rfl)]
  exact (ra_lv hF hi.2.1 hi.1.1 (by omega) n (Nat.le_refl _)).1
theorem wa_next (hF : flH n p a U BD tb B P) (hi : lvI n p a tb B P lf h r g) (hh : h < 50000) (hr : 0 < r) (hc : 0 < cntF tb B h n) (hB : ∀ k, k < n → B k ≤ 50000) {rs : List Nat} (hrs : rs = ((List.range n).filter p).map a) : waI n p a tb B P lf (h + 1) (raF U BD 1 rs rs.length (r, g)).1 (raF U BD 1 rs rs.length (r, g)).2 := by
  have e := ra_cnt hF hi hr hrs
  have h0 := hi.1
  refine ⟨by omega, ?_⟩
  by_cases c : cntF tb B h n ≤ r
  · right
    have e2 : (raF U BD 1 rs rs.length (r, g)).1 = r - 1 * cntF tb B h n := by
      rw [e]
      split <;> omega
    have hnx := lv_next hF hi hr (ri := 1) (by omega) hc (by omega) (fun k hk ht hb => by omega) hB hrs
    rw [e2]
    obtain ⟨q1, q2, q3⟩ := hnx
    have e3 : flA n p a tb B P (h + 1) (raF U BD 1 rs rs.length (r, g)).2 := by
      intro k hk hp
      rw [fold_all hrs (raS U BD 1) (raF U BD 1 rs) (fun _ => rfl) (fun _ _ => rfl), (ra_lv hF hi.2.1 hi.1.1 (by omega) n (Nat.le_refl _)).2 k hk hp]
      rw [fold_all hrs (raS U BD 1) (raF U BD 1 rs) (fun _ => rfl) (fun _ _ => rfl)] at q2
      have := q2 k hk hp
      rw [(ra_lv hF hi.2.1 hi.1.1 (by omega) n (Nat.le_refl _)).2 k hk hp] at this
      rw [← this]
      have e4 : (k < n ∧ tb k = true ∧ h < B k ∧ cntF tb B h k < r) ↔ (k < n ∧ tb k = true ∧ h < B k ∧ cntF tb B h k < cntF tb B h n) := by
        constructor
        · rintro ⟨z1, z2, z3, z4⟩
          exact ⟨z1, z2, z3, cntF_lt z1 ⟨z2, z3⟩⟩
        · rintro ⟨z1, z2, z3, z4⟩
          exact ⟨z1, z2, z3, by omega⟩
      simp only [e4]
    exact ⟨q1, e3, q3⟩
  · left
    refine ⟨by rw [e, if_neg (by omega)]; omega, lv_few hF hi hr (by omega) hrs⟩
/-- who takes more is at the level -/
theorem wa_lev (hF : flH n p a U BD tb B P) (hi : lvI n p a tb B P lf h r g) {q : Nat} (hq : q ∈ ((List.range n).filter p).map a) (ht : U q = 1 ∧ 1400 ≤ g q ∧ g q < BD q) : g q = h := by
  obtain ⟨k, hk, hp, rfl⟩ := rs_mem hq
  rw [hi.2.1 k hk hp] at ht ⊢
  have := (tk_lv hF hi.1.1 hk hp).mp ht
  unfold lvF
  rw [if_pos this.1, if_neg (by omega)]
end WW
section CLS15
variable {l : Launch} {D : va_G} {kA : Nat → ClassId} {b t0 : Nat} {X : Mm}
set_option maxHeartbeats 2000000 in
set_option maxRecDepth 20000 in
theorem c_X9_shareWattByWatt (hl : l.stackTraces = false) {y aa d c n : Nat} {rs : List Nat} {S : Nat → Nat} {U BD B P : Nat → Int} {p : Nat → Bool} {a : Nat → Nat} {tb : Nat → Bool} {lf : Int} (hKy : gK X y = 11) (ha : gP X 645 y = some aa) (h : LI t0 X aa rs d c) (hr9 : ruI X rs S U BD) (hrs : rs = ((List.range n).filter p).map a) (hF : flH n p a U BD tb B P) (hB9 : ∀ k, k < n → p k = true → 0 ≤ B k ∧ B k ≤ 50000) (hB8 : ∀ k, k < n → B k ≤ 50000) (hP9 : ∀ k, k < n → p k = true → 0 ≤ P k ∧ P k ≤ 50000) (h0 : flA n p a tb B P 1400 (gI X 333)) (hc8 : cntF tb B 1400 n ≤ 8) (hn40 : n ≤ 40) (hlf : -2000000 ≤ lf ∧ lf ≤ 300000) : Ct l D kA b t0 yX9_shareWattByWatt cX9_shareWattByWatt 7 none 3 64 [rv (some y), iv lf] X 0 0 (fun v Y => v = none ∧ ∃ F : Nat → Int, Y = sIf X 333 F ∧ ∀ k, k < n → p k = true → F (a k) = shF tb B P n (posI lf) k) (pF) := by
  refine Ct_mk hl (by decide) (Nat.le_of_ble_eq_true rfl) rfl ?_
  intro p9 e9 s9 m9 args9 below9 meth9 c9 C hr hx0
  have hnd : rs.Nodup := by rw [hrs]; exact rs_nodup hF.1
  have hle : rs.length ≤ 1000 := Nat.le_trans h.2.2.2.2.2.1 h.2.2.2.2.2.2.1
  refine V_iload_n C dX9_shareWattByWatt_0 rfl ?_
  refine V_istore_n C dX9_shareWattByWatt_1 (by decide) rfl ?_
  refine V_sipush C dX9_shareWattByWatt_2 (by decide) ?_
  refine V_istore_n C dX9_shareWattByWatt_5 (by decide) rfl ?_
  refine V_while C (St := Nat × Int × (Nat → Int) × Option Value × Option Value × Option Value) (f := fun z => sIf X 333 z.2.2.1) (g := fun z => [some (rv (some y)), some (iv lf), some (iv z.2.1), some (iv (1400 + (z.1 : Int))), z.2.2.2.1, z.2.2.2.2.1, z.2.2.2.2.2]) (cs := fun _ => 0) (ss := fun _ => 0) (μ := fun z => 48601 - z.1) (I := fun z => (-2000000 ≤ z.2.1 ∧ z.2.1 ≤ 300000) ∧ waI n p a tb B P lf (1400 + (z.1 : Int)) z.2.1 z.2.2.1) (x0 := (0, lf, gI X 333, none, none, none)) (sIf_self X 333) rfl rfl rfl ⟨hlf, by show waI n p a tb B P lf (1400 + ((0 : Nat) : Int)) lf (gI X 333); rw [show (1400 : Int) + ((0 : Nat) : Int) = 1400 by omega]; exact ⟨by omega, Or.inr ⟨by omega, h0, rfl⟩⟩⟩ ?_
  rintro ⟨lv, re, G, u4, u5, u6⟩ ⟨hre, hI⟩ ih
  dsimp only at hre hI ih ⊢
  have hI0 := hI.1
  refine V_iload_n C dX9_shareWattByWatt_6 rfl ?_
  refine V_ldc C dX9_shareWattByWatt_7 qX9_58 ?_
  refine V_icmp_ge C dX9_shareWattByWatt_9 (by omega) (by decide) (fun h9 => ?_) (fun h9 => ?_)
  · exact V_vret C (by omega) (by omega) ⟨rfl, G, rfl, by first | exact wa_end hF hI (Or.inl (by omega)) hB8 | exact wa_end hF hI (Or.inr (Or.inl (by omega))) hB8⟩ hr dX9_shareWattByWatt_104
  · refine V_iload_n C dX9_shareWattByWatt_12 rfl ?_
    refine V_if_le C dX9_shareWattByWatt_13 (by omega) (fun h13 => ?_) (fun h13 => ?_)
    · exact V_vret C (by omega) (by omega) ⟨rfl, G, rfl, by first | exact wa_end hF hI (Or.inl (by omega)) hB8 | exact wa_end hF hI (Or.inr (Or.inl (by omega))) hB8⟩ hr dX9_shareWattByWatt_104
    · have hI2 : lvI n p a tb B P lf (1400 + (lv : Int)) re G := hI.2.resolve_left (fun z => by omega)
      have hrg : ∀ q ∈ rs, rng (G q) := fun q hq => by have := lv_rng hI2.1 hI2.2.1 hB9 hP9 (hrs ▸ hq); omega
      refine V_iconst C dX9_shareWattByWatt_16 ?_
      refine V_istore C dX9_shareWattByWatt_17 (by decide) rfl ?_
      refine V_iconst C dX9_shareWattByWatt_19 ?_
      refine V_istore C dX9_shareWattByWatt_20 (by decide) rfl ?_
      refine V_while C (St := Nat × Option Value) (f := fun z => sIf X 333 (raF U BD 1 rs z.1 (re, G)).2) (g := fun z => [some (rv (some y)), some (iv lf), some (iv (raF U BD 1 rs z.1 (re, G)).1), some (iv (1400 + (lv : Int))), some (iv (if (raF U BD 1 rs z.1 (re, G)).1 < re then 1 else 0)), some (iv (z.1 : Int)), z.2]) (cs := fun _ => 0) (ss := fun _ => 0) (μ := fun z => rs.length + 1 - z.1) (I := fun z => z.1 ≤ rs.length) (x0 := (0, u6)) rfl (by show [_, _, _, _, some (iv (if re < re then 1 else 0)), _, _] = _; rw [if_neg (by omega)]; rfl) rfl rfl (Nat.zero_le _) ?_
      rintro ⟨i, u8⟩ hi ih2
      dsimp only at hi ih2 ⊢
      have hin := raF_in U BD 1 rs (re, G) i
      dsimp only at hin
      refine V_iload C dX9_shareWattByWatt_22 rfl ?_
      refine V_aload_n C dX9_shareWattByWatt_24 rfl ?_
      refine V_getP C cl10 fX9_28 (r := some aa) hKy ha dX9_shareWattByWatt_25 ?_
      refine V_callV1 C (As := []) (L_size hl (LI.same (Y := sIf X 333 (raF U BD 1 rs i (re, G)).2) h rfl rfl rfl rfl rfl)) kX9_63 h.1 rfl rfl (Nat.le_of_ble_eq_true rfl) ⟨Nat.le_of_ble_eq_true rfl, Nat.le_of_ble_eq_true rfl⟩ ⟨Nat.le_of_ble_eq_true rfl, Nat.le_of_ble_eq_true rfl⟩ dX9_shareWattByWatt_28 ?_
      refine V_icmp_ge C dX9_shareWattByWatt_31 (by omega) (by omega) (fun h31 => ?_) (fun h31 => ?_)
      · have eL : raF U BD 1 rs rs.length (re, G) = (raF U BD 1 rs i (re, G)) := by first | (rw [show rs.length = i by omega]; done) | (rw [show rs.length = i + (rs.length - i) by omega, raF_stop U BD 1 rs (re, G) i (rs.length - i) (by omega)]; done)
        have hra := ra_cnt hF hI2 (by omega) hrs
        have hc0 := cntF_in tb B (1400 + (lv : Int)) n
        rw [eL] at hra
        refine V_iload C dX9_shareWattByWatt_92 rfl ?_
        refine V_if_ne C dX9_shareWattByWatt_94 (by split <;> decide) (fun h94 => ?_) (fun h94 => ?_)
        · refine V_iinc C dX9_shareWattByWatt_98 (by decide) rfl rfl ?_
          refine V_goto C dX9_shareWattByWatt_101 ?_
          have hcp : 0 < cntF tb B (1400 + (lv : Int)) n := by first | (rw [if_pos (by split at hra <;> omega)] at h94; split at hra <;> omega) | (split at h94 <;> split at hra <;> omega)
          have hnx := wa_next hF hI2 (by omega) (by omega) hcp hB8 hrs
          rw [eL] at hnx
          have h8 := ih (lv + 1, (raF U BD 1 rs i (re, G)).1, (raF U BD 1 rs i (re, G)).2, some (iv (if (raF U BD 1 rs i (re, G)).1 < re then 1 else 0)), some (iv (i : Int)), u8) ⟨by dsimp only; omega, by dsimp only; rw [show (1400 : Int) + ((lv + 1 : Nat) : Int) = 1400 + (lv : Int) + 1 by omega]; exact hnx⟩ (by show 48601 - (lv + 1) < 48601 - lv; omega)
          dsimp only at h8
          rw [show (1400 : Int) + ((lv + 1 : Nat) : Int) = 1400 + (lv : Int) + 1 by omega] at h8
          exact h8
        · have hz : cntF tb B (1400 + (lv : Int)) n = 0 := by (split at h94 <;> split at hra <;> omega)
          have hz2 : ∀ k, k < n → p k = true → (raF U BD 1 rs rs.length (re, G)).2 (a k) = shF tb B P n (posI lf) k := fun k hk hp => by
            rw [fold_all hrs (raS U BD 1) (raF U BD 1 rs) (fun _ => rfl) (fun _ _ => rfl), (ra_lv hF hI2.2.1 hI2.1.1 (by omega) n (Nat.le_refl _)).2 k hk hp, if_neg (fun z => cntF_0.mp hz k hk ⟨z.2.1, z.2.2.1⟩), ← hI2.2.1 k hk hp]
            exact lv_end hF hI2 (Or.inr hz) k hk hp
          rw [eL] at hz2
          exact V_vret C (by omega) (by omega) ⟨rfl, _, rfl, hz2⟩ hr dX9_shareWattByWatt_97
      · refine V_iload_n C dX9_shareWattByWatt_34 rfl ?_
        refine V_if_le C dX9_shareWattByWatt_35 (by omega) (fun h35 => ?_) (fun h35 => ?_)
        · have eL : raF U BD 1 rs rs.length (re, G) = (raF U BD 1 rs i (re, G)) := by first | (rw [show rs.length = i by omega]; done) | (rw [show rs.length = i + (rs.length - i) by omega, raF_stop U BD 1 rs (re, G) i (rs.length - i) (by omega)]; done)
          have hra := ra_cnt hF hI2 (by omega) hrs
          have hc0 := cntF_in tb B (1400 + (lv : Int)) n
          rw [eL] at hra
          refine V_iload C dX9_shareWattByWatt_92 rfl ?_
          refine V_if_ne C dX9_shareWattByWatt_94 (by split <;> decide) (fun h94 => ?_) (fun h94 => ?_)
          · refine V_iinc C dX9_shareWattByWatt_98 (by decide) rfl rfl ?_
            refine V_goto C dX9_shareWattByWatt_101 ?_
            have hcp : 0 < cntF tb B (1400 + (lv : Int)) n := by first | (rw [if_pos (by split at hra <;> omega)] at h94; split at hra <;> omega) | (split at h94 <;> split at hra <;> omega)
            have hnx := wa_next hF hI2 (by omega) (by omega) hcp hB8 hrs
            rw [eL] at hnx
            have h8 := ih (lv + 1, (raF U BD 1 rs i (re, G)).1, (raF U BD 1 rs i (re, G)).2, some (iv (if (raF U BD 1 rs i (re, G)).1 < re then 1 else 0)), some (iv (i : Int)), u8) ⟨by dsimp only; omega, by dsimp only; rw [show (1400 : Int) + ((lv + 1 : Nat) : Int) = 1400 + (lv : Int) + 1 by omega]; exact hnx⟩ (by show 48601 - (lv + 1) < 48601 - lv; omega)
            dsimp only at h8
            rw [show (1400 : Int) + ((lv + 1 : Nat) : Int) = 1400 + (lv : Int) + 1 by omega] at h8
            exact h8
          · have hz : cntF tb B (1400 + (lv : Int)) n = 0 := by (split at h94 <;> split at hra <;> omega)
            have hz2 : ∀ k, k < n → p k = true → (raF U BD 1 rs rs.length (re, G)).2 (a k) = shF tb B P n (posI lf) k := fun k hk hp => by
              rw [fold_all hrs (raS U BD 1) (raF U BD 1 rs) (fun _ => rfl) (fun _ _ => rfl), (ra_lv hF hI2.2.1 hI2.1.1 (by omega) n (Nat.le_refl _)).2 k hk hp, if_neg (fun z => cntF_0.mp hz k hk ⟨z.2.1, z.2.2.1⟩), ← hI2.2.1 k hk hp]
              exact lv_end hF hI2 (Or.inr hz) k hk hp
            rw [eL] at hz2
            exact V_vret C (by omega) (by omega) ⟨rfl, _, rfl, hz2⟩ hr dX9_shareWattByWatt_97
        · obtain ⟨q, hq⟩ : ∃ q, rs[i]? = some q := ⟨rs[i]'(by omega), List.getElem?_eq_getElem (by omega)⟩
          have hqi := hr9 q (List.mem_of_getElem? hq)
          have hqg := hrg q (List.mem_of_getElem? hq)
          have eq : rs.getD i 0 = q := by rw [List.getD_eq_getElem?_getD, hq]; rfl
          have hgq : gI (sIf X 333 (raF U BD 1 rs i (re, G)).2) 333 q = G q := raF_far U BD 1 rs hnd (re, G) i i q (Nat.le_refl _) hq
          have hlev := fun ht => wa_lev hF hI2 (hrs ▸ List.mem_of_getElem? hq) (q := q) ht
          have h8 := ih2 (i + 1, some (rv (some q))) (by show i + 1 ≤ rs.length; omega) (by show rs.length + 1 - (i + 1) < rs.length + 1 - i; omega)
          have e8 : raF U BD 1 rs (i + 1) (re, G) = raS U BD 1 q (raF U BD 1 rs i (re, G)) := by show raS U BD 1 (rs.getD i 0) _ = _; rw [eq]
          dsimp only at h8
          rw [e8] at h8
          unfold raS at h8
          rw [show (raF U BD 1 rs i (re, G)).2 q = G q from hgq] at h8
          refine V_aload_n C dX9_shareWattByWatt_38 rfl ?_
          refine V_getP C cl10 fX9_28 (r := some aa) hKy ha dX9_shareWattByWatt_39 ?_
          refine V_iload C dX9_shareWattByWatt_42 rfl ?_
          refine V_callV1 C (As := [_]) (L_get hl (LI.same (Y := sIf X 333 (raF U BD 1 rs i (re, G)).2) h rfl rfl rfl rfl rfl) hq rfl) kX9_283 h.1 rfl rfl (Nat.le_of_ble_eq_true rfl) ⟨Nat.le_of_ble_eq_true rfl, Nat.le_of_ble_eq_true rfl⟩ ⟨Nat.le_of_ble_eq_true rfl, Nat.le_of_ble_eq_true rfl⟩ dX9_shareWattByWatt_44 ?_
          refine V_cast C cl5 cc_RX9_161 hqi.1 dX9_shareWattByWatt_47 ?_
          refine V_astore C dX9_shareWattByWatt_50 (by decide) rfl ?_
          refine V_aload C dX9_shareWattByWatt_52 rfl ?_
          refine V_getIx C cl5 fX9_244 (x := G q) hqi.1 hgq dX9_shareWattByWatt_54 ?_
          refine V_iload_n C dX9_shareWattByWatt_57 rfl ?_
          refine V_icmp_ne C dX9_shareWattByWatt_58 (by omega) (by omega) (fun h58 => ?_) (fun h58 => ?_)
          · refine V_iinc C dX9_shareWattByWatt_86 (by decide) rfl rfl ?_
            refine V_goto C dX9_shareWattByWatt_89 ?_
            first | (rw [if_pos (show 0 < (raF U BD 1 rs i (re, G)).1 ∧ (U q = 1 ∧ 1400 ≤ G q ∧ G q < BD q) from ⟨by omega, by split at h66; assumption; omega⟩)] at h8; rw [sI_sIf]; dsimp only at h8; rw [if_pos (show (raF U BD 1 rs i (re, G)).1 - 1 < re by omega)] at h8; exact h8) | (rw [if_neg (show ¬ (0 < (raF U BD 1 rs i (re, G)).1 ∧ (U q = 1 ∧ 1400 ≤ G q ∧ G q < BD q)) from fun z => by first | (have := hlev z.2; omega) | (rw [if_pos z.2] at h66; omega))] at h8; exact h8)
          · refine V_aload C dX9_shareWattByWatt_61 rfl ?_
            refine V_callV1 C (As := []) (c_X4_takesMore hl (X := sIf X 333 (raF U BD 1 rs i (re, G)).2) (s := S q) (u := U q) (fl := G q) (bd := BD q) hqi.1 hqi.2.2.1 hqi.2.1 hqi.2.2.2.1 hgq hqi.2.2.2.2.2.1 hqi.2.2.2.2.1 (by omega) (by omega)) kX9_368 hqi.1 rfl rfl (Nat.le_of_ble_eq_true rfl) ⟨Nat.le_of_ble_eq_true rfl, Nat.le_of_ble_eq_true rfl⟩ ⟨Nat.le_of_ble_eq_true rfl, Nat.le_of_ble_eq_true rfl⟩ dX9_shareWattByWatt_63 ?_
            refine V_if_eq C dX9_shareWattByWatt_66 (by split <;> decide) (fun h66 => ?_) (fun h66 => ?_)
            · refine V_iinc C dX9_shareWattByWatt_86 (by decide) rfl rfl ?_
              refine V_goto C dX9_shareWattByWatt_89 ?_
              first | (rw [if_pos (show 0 < (raF U BD 1 rs i (re, G)).1 ∧ (U q = 1 ∧ 1400 ≤ G q ∧ G q < BD q) from ⟨by omega, by split at h66; assumption; omega⟩)] at h8; rw [sI_sIf]; dsimp only at h8; rw [if_pos (show (raF U BD 1 rs i (re, G)).1 - 1 < re by omega)] at h8; exact h8) | (rw [if_neg (show ¬ (0 < (raF U BD 1 rs i (re, G)).1 ∧ (U q = 1 ∧ 1400 ≤ G q ∧ G q < BD q)) from fun z => by first | (have := hlev z.2; omega) | (rw [if_pos z.2] at h66; omega))] at h8; exact h8)
            · refine V_aload C dX9_shareWattByWatt_69 rfl ?_
              refine V_dup C dX9_shareWattByWatt_71 rfl ?_
              refine V_getIx C cl5 fX9_244 (x := G q) hqi.1 hgq dX9_shareWattByWatt_72 ?_
              refine V_iconst C dX9_shareWattByWatt_75 ?_
              refine V_iadd C dX9_shareWattByWatt_76 ?_
              refine V_putI C cl5 fX9_244 (Or.inl rfl) rfl hqi.1 dX9_shareWattByWatt_77 ?_
              refine V_iinc C dX9_shareWattByWatt_80 (by decide) rfl rfl ?_
              refine V_iconst C dX9_shareWattByWatt_83 ?_
              refine V_istore C dX9_shareWattByWatt_84 (by decide) rfl ?_
              refine V_iinc C dX9_shareWattByWatt_86 (by decide) rfl rfl ?_
              refine V_goto C dX9_shareWattByWatt_89 ?_
              first | (rw [if_pos (show 0 < (raF U BD 1 rs i (re, G)).1 ∧ (U q = 1 ∧ 1400 ≤ G q ∧ G q < BD q) from ⟨by omega, by split at h66; assumption; omega⟩)] at h8; rw [sI_sIf]; dsimp only at h8; rw [if_pos (show (raF U BD 1 rs i (re, G)).1 - 1 < re by omega)] at h8; exact h8) | (rw [if_neg (show ¬ (0 < (raF U BD 1 rs i (re, G)).1 ∧ (U q = 1 ∧ 1400 ≤ G q ∧ G q < BD q)) from fun z => by first | (have := hlev z.2; omega) | (rw [if_pos z.2] at h66; omega))] at h8; exact h8)
end CLS15
