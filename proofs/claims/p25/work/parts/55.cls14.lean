/-! the class: sharing by levels, and watt by watt -/
theorem cntF_drop {tb : Nat → Bool} {B : Nat → Int} {h g : Int} {n k : Nat} (hg : h ≤ g) (hk : k < n) (ht : tb k = true) (h1 : h < B k) (h2 : B k ≤ g) : cntF tb B g n < cntF tb B h n := by
  have le : ∀ n, cntF tb B g n ≤ cntF tb B h n := by
    intro n
    induction n with
    | zero => exact Int.le_refl _
    | succ n ih =>
      show cntF tb B g n + (if tb n = true ∧ g < B n then 1 else 0) ≤ cntF tb B h n + (if tb n = true ∧ h < B n then 1 else 0)
      by_cases e : tb n = true ∧ g < B n
      · rw [if_pos e, if_pos ⟨e.1, by omega⟩]
        omega
      · rw [if_neg e]
        split <;> omega
  have ge : ∀ n, k < n → cntF tb B g n < cntF tb B h n := by
    intro n
    induction n with
    | zero => exact fun z => absurd z (Nat.not_lt_zero k)
    | succ n ih =>
      intro hk
      show cntF tb B g n + (if tb n = true ∧ g < B n then 1 else 0) < cntF tb B h n + (if tb n = true ∧ h < B n then 1 else 0)
      rcases Nat.lt_succ_iff_lt_or_eq.mp hk with z | rfl
      · have := ih z
        by_cases e : tb n = true ∧ g < B n
        · rw [if_pos e, if_pos ⟨e.1, by omega⟩]
          omega
        · rw [if_neg e]
          split <;> omega
      · have := le k
        rw [if_neg (fun z => by omega), if_pos ⟨ht, h1⟩]
        omega
  exact ge n hk
theorem cntF_le {tb : Nat → Bool} {B : Nat → Int} {h g : Int} {n : Nat} (hg : h ≤ g) : cntF tb B g n ≤ cntF tb B h n := by
  induction n with
  | zero => exact Int.le_refl _
  | succ n ih =>
    show cntF tb B g n + (if tb n = true ∧ g < B n then 1 else 0) ≤ cntF tb B h n + (if tb n = true ∧ h < B n then 1 else 0)
    by_cases e : tb n = true ∧ g < B n
    · rw [if_pos e, if_pos ⟨e.1, by omega⟩]
      omega
    · rw [if_neg e]
      split <;> omega
theorem mnF_in (U BD g : Nat → Int) (rs : List Nat) (r : Int) (hr : 0 < r) : ∀ i : Nat, 0 ≤ (mnF U BD g rs i (0, r)).1 ∧ (mnF U BD g rs i (0, r)).1 ≤ i ∧ 0 < (mnF U BD g rs i (0, r)).2 ∧ (mnF U BD g rs i (0, r)).2 ≤ r := by
  intro i
  induction i with
  | zero => exact ⟨Int.le_refl _, Int.le_refl _, hr, Int.le_refl _⟩
  | succ i ih =>
    show 0 ≤ (mnS U BD g (rs.getD i 0) (mnF U BD g rs i (0, r))).1 ∧ (mnS U BD g (rs.getD i 0) (mnF U BD g rs i (0, r))).1 ≤ ((i + 1 : Nat) : Int) ∧ 0 < (mnS U BD g (rs.getD i 0) (mnF U BD g rs i (0, r))).2 ∧ (mnS U BD g (rs.getD i 0) (mnF U BD g rs i (0, r))).2 ≤ r
    unfold mnS
    split
    · rename_i c
      have := c.2.2
      dsimp only
      refine ⟨by omega, by omega, ?_, ?_⟩ <;> split <;> omega
    · omega
def posI (r : Int) : Int := if 0 < r then r else 0
theorem fin_lv {n : Nat} {tb : Nat → Bool} {B P : Nat → Int} {h r l : Int} (hh : h ≤ 50000) (hw : wfF tb B n (50000 - h).toNat r = wfF tb B n 48600 l) (hc : r < cntF tb B h n ∨ cntF tb B h n = 0) : shF tb B P n l = fnF tb B P h r := by
  have e : (50000 : Int) - ((50000 - h).toNat : Int) = h := by omega
  funext k
  unfold shF
  rw [← hw, wfF_end (Or.inr (by rw [e]; exact hc)), e]
/-- the round's facts -/
def lvI (n : Nat) (p : Nat → Bool) (a : Nat → Nat) (tb : Nat → Bool) (B P : Nat → Int) (lf h r : Int) (g : Nat → Int) : Prop := (1400 ≤ h ∧ h ≤ 50000) ∧ flA n p a tb B P h g ∧ wfF tb B n (50000 - h).toNat (posI r) = wfF tb B n 48600 (posI lf)
section LV
variable {n : Nat} {p : Nat → Bool} {a : Nat → Nat} {U BD : Nat → Int} {tb : Nat → Bool} {B P : Nat → Int} {lf h r : Int} {g : Nat → Int}
theorem lv_end (hF : flH n p a U BD tb B P) (hi : lvI n p a tb B P lf h r g) (hr : r ≤ 0 ∨ cntF tb B h n = 0) : ∀ k, k < n → p k = true → g (a k) = shF tb B P n (posI lf) k := by
  obtain ⟨h1, h2, h3⟩ := hi
  intro k hk hp
  have hc := cntF_in tb B h n
  have h0 : posI r ≤ 0 ∨ cntF tb B h n = 0 := by
    rcases hr with z | z
    · left
      unfold posI
      rw [if_neg (by omega)]
      exact Int.le_refl _
    · exact Or.inr z
  rw [h2 k hk hp, fin_lv h1.2 h3 (by omega), fnF_lv (n := n) (fun k z => (hF.2.1 k z).1) h0]
theorem lv_few (hF : flH n p a U BD tb B P) (hi : lvI n p a tb B P lf h r g) (hr : 0 < r) (hc : r < cntF tb B h n) {rs : List Nat} (hrs : rs = ((List.range n).filter p).map a) : ∀ k, k < n → p k = true → (raF U BD 1 rs rs.length (r, g)).2 (a k) = shF tb B P n (posI lf) k := by
  obtain ⟨h1, h2, h3⟩ := hi
  have e : posI r = r := if_pos hr
  rw [e] at h3
  intro k hk hp
  rw [fold_all hrs (raS U BD 1) (raF U BD 1 rs) (fun _ => rfl) (fun _ _ => rfl), ra_few hF h2 h1.1 (by omega) k hk hp, fin_lv h1.2 h3 (Or.inl hc)]
theorem lv_next (hF : flH n p a U BD tb B P) (hi : lvI n p a tb B P lf h r g) (hr : 0 < r) {ri : Int} (h1 : 0 < ri) (hc0 : 0 < cntF tb B h n) (hc : ri * cntF tb B h n ≤ r) (hB : ∀ k, k < n → tb k = true → h < B k → ri ≤ B k - h) (hB9 : ∀ k, k < n → B k ≤ 50000) {rs : List Nat} (hrs : rs = ((List.range n).filter p).map a) : lvI n p a tb B P lf (h + ri) (r - ri * cntF tb B h n) (raF U BD ri rs rs.length (cntF tb B h n, g)).2 := by
  obtain ⟨q1, q2, q3⟩ := hi
  obtain ⟨k, hk, ht, hb⟩ : ∃ k, k < n ∧ tb k = true ∧ h < B k := Classical.byContradiction fun z => by
    have := cntF_0.mpr (fun k hk hz => z ⟨k, hk, hz.1, hz.2⟩ : ∀ k, k < n → ¬ (tb k = true ∧ h < B k))
    omega
  have hbk := hB k hk ht hb
  have hb9 := hB9 k hk
  refine ⟨by omega, ?_, ?_⟩
  · rw [fold_all hrs (raS U BD ri) (raF U BD ri rs) (fun _ => rfl) (fun _ _ => rfl)]
    exact ra_all hF q2 q1.1 (by omega) (fun k hk ht hb => by have := hB k hk ht hb; omega)
  · rw [← q3, show posI r = r from if_pos hr]
    have e1 : (50000 - h).toNat = (50000 - (h + ri)).toNat + ri.toNat := by omega
    have e2 : (ri.toNat : Int) = ri := by omega
    have e3 : posI (r - ri * cntF tb B h n) = r - ri * cntF tb B h n := by
      unfold posI
      split <;> omega
    rw [e1, wfF_jump hc0 ri.toNat (fun i hi => ?_) (by rw [e2]; exact hc), e2, e3]
    refine (cntF_eq (fun j hj tj => ?_)).trans rfl
    have e4 : (50000 : Int) - (((50000 - (h + ri)).toNat + ri.toNat : Nat) : Int) + (i : Int) = h + i := by omega
    rw [e4]
    constructor
    · intro z
      omega
    · intro z
      have := hB j hj tj z
      omega
end LV
theorem rs_nodup {n : Nat} {p : Nat → Bool} {a : Nat → Nat} (h : ∀ i j, i < n → j < n → a i = a j → i = j) : (((List.range n).filter p).map a).Nodup := by
  have h1 : ((List.range n).filter p).Nodup := List.Pairwise.filter p List.nodup_range
  refine List.pairwise_map.mpr (List.Pairwise.imp_of_mem (fun {x y} hx hy hxy e => ?_) h1)
  exact hxy (h x y (List.mem_range.mp (List.mem_filter.mp hx).1) (List.mem_range.mp (List.mem_filter.mp hy).1) e)
theorem rs_mem {n : Nat} {p : Nat → Bool} {a : Nat → Nat} {q : Nat} (h : q ∈ ((List.range n).filter p).map a) : ∃ k, k < n ∧ p k = true ∧ a k = q := by
  obtain ⟨k, hk, e⟩ := List.mem_map.mp h
  exact ⟨k, List.mem_range.mp (List.mem_filter.mp hk).1, (List.mem_filter.mp hk).2, e⟩
theorem lv_rng {n : Nat} {p : Nat → Bool} {a : Nat → Nat} {tb : Nat → Bool} {B P : Nat → Int} {h : Int} {g : Nat → Int} (hh : 1400 ≤ h ∧ h ≤ 50000) (hg : flA n p a tb B P h g) (hB : ∀ k, k < n → p k = true → 0 ≤ B k ∧ B k ≤ 50000) (hP : ∀ k, k < n → p k = true → 0 ≤ P k ∧ P k ≤ 50000) {q : Nat} (hq : q ∈ ((List.range n).filter p).map a) : 0 ≤ g q ∧ g q ≤ 50000 := by
  obtain ⟨k, hk, hp, rfl⟩ := rs_mem hq
  have h1 := hB k hk hp
  have h2 := hP k hk hp
  rw [hg k hk hp]
  unfold lvF
  split
  · split <;> omega
  · exact h2
section CLS14
variable {l : Launch} {D : va_G} {kA : Nat → ClassId} {b t0 : Nat} {X : Mm}
set_option maxHeartbeats 2000000 in
set_option maxRecDepth 20000 in
theorem c_X9_shareByLevels (hl : l.stackTraces = false) {y aa d c n : Nat} {rs : List Nat} {S : Nat → Nat} {U BD B P : Nat → Int} {p : Nat → Bool} {a : Nat → Nat} {tb : Nat → Bool} {lf : Int} (hKy : gK X y = 11) (ha : gP X 645 y = some aa) (h : LI t0 X aa rs d c) (hr9 : ruI X rs S U BD) (hrs : rs = ((List.range n).filter p).map a) (hF : flH n p a U BD tb B P) (hB9 : ∀ k, k < n → p k = true → 0 ≤ B k ∧ B k ≤ 50000) (hB8 : ∀ k, k < n → B k ≤ 50000) (hP9 : ∀ k, k < n → p k = true → 0 ≤ P k ∧ P k ≤ 50000) (h0 : flA n p a tb B P 1400 (gI X 333)) (hc8 : cntF tb B 1400 n ≤ 8) (hn40 : n ≤ 40) (hlf : -2000000 ≤ lf ∧ lf ≤ 300000) : Ct l D kA b t0 yX9_shareByLevels cX9_shareByLevels 8 none 4 89 [rv (some y), iv lf] X 0 0 (fun v Y => v = none ∧ ∃ F : Nat → Int, Y = sIf X 333 F ∧ ∀ k, k < n → p k = true → F (a k) = shF tb B P n (posI lf) k) (pF) := by
  refine Ct_mk hl (by decide) (Nat.le_of_ble_eq_true rfl) rfl ?_
  intro p9 e9 s9 m9 args9 below9 meth9 c9 C hr hx0
  have hnd : rs.Nodup := by rw [hrs]; exact rs_nodup hF.1
  have hle : rs.length ≤ 1000 := Nat.le_trans h.2.2.2.2.2.1 h.2.2.2.2.2.2.1
  refine V_iload_n C dX9_shareByLevels_0 rfl ?_
  refine V_istore_n C dX9_shareByLevels_1 (by decide) rfl ?_
  refine V_iconst C dX9_shareByLevels_2 ?_
  refine V_istore_n C dX9_shareByLevels_3 (by decide) rfl ?_
  refine V_while C (St := Nat × Int × (Nat → Int) × Option Value × Option Value × Option Value × Option Value) (f := fun z => sIf X 333 z.2.2.1) (g := fun z => [some (rv (some y)), some (iv lf), some (iv z.2.1), some (iv (z.1 : Int)), z.2.2.2.1, z.2.2.2.2.1, z.2.2.2.2.2.1, z.2.2.2.2.2.2]) (cs := fun _ => 0) (ss := fun _ => 0) (μ := fun z => 11 - z.1) (I := fun z => (-2000000 ≤ z.2.1 ∧ z.2.1 ≤ 300000) ∧ ∃ h1, lvI n p a tb B P lf h1 z.2.1 z.2.2.1 ∧ ((z.1 : Int) + cntF tb B h1 n ≤ 8 ∨ (z.1 ≤ 9 ∧ z.2.1 < cntF tb B h1 n))) (x0 := (0, lf, gI X 333, none, none, none, none)) (sIf_self X 333) rfl rfl rfl ⟨hlf, 1400, ⟨by omega, h0, rfl⟩, Or.inl (by show ((0 : Nat) : Int) + _ ≤ 8; omega)⟩ ?_
  rintro ⟨ro, re, G, u4, u5, u6, u7⟩ ⟨hre, h1, hI, hD⟩ ih
  dsimp only at hre hI hD ih ⊢
  have hc0 := cntF_in tb B h1 n
  have hrg : ∀ q ∈ rs, rng (G q) := fun q hq => by have := lv_rng hI.1 hI.2.1 hB9 hP9 (hrs ▸ hq); omega
  refine V_iload_n C dX9_shareByLevels_4 rfl ?_
  refine V_bipush C dX9_shareByLevels_5 (by decide) ?_
  refine V_icmp_ge C dX9_shareByLevels_7 (by omega) (by decide) (fun h7 => ?_) (fun h7 => ?_)
  · first | exact V_vret C (by omega) (by omega) ⟨rfl, G, rfl, lv_end hF hI (Or.inl (by omega))⟩ hr dX9_shareByLevels_136 | (exfalso; omega)
  · refine V_iload_n C dX9_shareByLevels_10 rfl ?_
    refine V_if_le C dX9_shareByLevels_11 (by omega) (fun h11 => ?_) (fun h11 => ?_)
    · first | exact V_vret C (by omega) (by omega) ⟨rfl, G, rfl, lv_end hF hI (Or.inl (by omega))⟩ hr dX9_shareByLevels_136 | (exfalso; omega)
    · refine V_iconst C dX9_shareByLevels_14 ?_
      refine V_istore C dX9_shareByLevels_15 (by decide) rfl ?_
      refine V_iload_n C dX9_shareByLevels_17 rfl ?_
      refine V_istore C dX9_shareByLevels_18 (by decide) rfl ?_
      refine V_iconst C dX9_shareByLevels_20 ?_
      refine V_istore C dX9_shareByLevels_21 (by decide) rfl ?_
      refine V_while C (St := Nat × Option Value) (f := fun _ => sIf X 333 G) (g := fun z => [some (rv (some y)), some (iv lf), some (iv re), some (iv (ro : Int)), some (iv (mnF U BD G rs z.1 (0, re)).1), some (iv (mnF U BD G rs z.1 (0, re)).2), some (iv (z.1 : Int)), z.2]) (cs := fun _ => 0) (ss := fun _ => 0) (μ := fun z => rs.length + 1 - z.1) (I := fun z => z.1 ≤ rs.length) (x0 := (0, u7)) rfl rfl rfl rfl (Nat.zero_le _) ?_
      rintro ⟨i, u8⟩ hi ih2
      dsimp only at hi ih2 ⊢
      have hmn := mnF_in U BD G rs re (by omega) i
      refine V_iload C dX9_shareByLevels_23 rfl ?_
      refine V_aload_n C dX9_shareByLevels_25 rfl ?_
      refine V_getP C cl10 fX9_28 (r := some aa) hKy ha dX9_shareByLevels_26 ?_
      refine V_callV1 C (As := []) (L_size hl (LI.same (Y := sIf X 333 G) h rfl rfl rfl rfl rfl)) kX9_63 h.1 rfl rfl (Nat.le_of_ble_eq_true rfl) ⟨Nat.le_of_ble_eq_true rfl, Nat.le_of_ble_eq_true rfl⟩ ⟨Nat.le_of_ble_eq_true rfl, Nat.le_of_ble_eq_true rfl⟩ dX9_shareByLevels_29 ?_
      refine V_icmp_ge C dX9_shareByLevels_32 (by omega) (by omega) (fun h32 => ?_) (fun h32 => ?_)
      · obtain rfl : i = rs.length := by omega
        have hml := mn_lv hF hI.2.1 hI.1.1 (r := re) n (Nat.le_refl _)
        rw [← fold_all hrs (mnS U BD G) (mnF U BD G rs) (fun _ => rfl) (fun _ _ => rfl)] at hml
        obtain ⟨hm1, hm2, hm3, hm4⟩ := hml
        generalize (mnF U BD G rs rs.length (0, re)) = mn at *
        obtain ⟨tk, mi⟩ := mn
        dsimp only at hm1 hm2 hm3 hm4 hmn ⊢
        subst hm1
        refine V_iload C dX9_shareByLevels_84 rfl ?_
        refine V_if_ne C dX9_shareByLevels_86 (by omega) (fun h86 => ?_) (fun h86 => ?_)
        · refine V_iload_n C dX9_shareByLevels_90 rfl ?_
          refine V_iload C dX9_shareByLevels_91 rfl ?_
          refine V_icmp_ge C dX9_shareByLevels_93 (by omega) (by omega) (fun h93 => ?_) (fun h93 => ?_)
          · have hdv : re / cntF tb B h1 n * cntF tb B h1 n ≤ re := Int.ediv_mul_le _ (by omega)
            have hd1 : 1 ≤ re / cntF tb B h1 n := Int.le_ediv_of_mul_le (by omega) (by omega)
            have hd2 : re < (re / cntF tb B h1 n + 1) * cntF tb B h1 n := Int.lt_ediv_add_one_mul_self _ (by omega)
            have hd3 : re / cntF tb B h1 n ≤ re := Int.le_trans (by have := Int.mul_le_mul_of_nonneg_left (show 1 ≤ cntF tb B h1 n by omega) (show 0 ≤ re / cntF tb B h1 n by omega); omega) hdv
            refine V_iload C dX9_shareByLevels_103 rfl ?_
            refine V_iload_n C dX9_shareByLevels_105 rfl ?_
            refine V_iload C dX9_shareByLevels_106 rfl ?_
            refine V_idivN C dX9_shareByLevels_108 (by omega) (by omega) (by omega) (by first | decide | omega) ?_
            refine V_mmin C (by omega) (by omega) kX9_356 (Nat.le_of_ble_eq_true rfl) (Nat.le_of_ble_eq_true rfl) (by first | (dsimp only; omega) | exact Nat.le_of_ble_eq_true rfl) (by first | (dsimp only; omega) | exact Nat.le_of_ble_eq_true rfl) dX9_shareByLevels_109 ?_
            refine V_istore C dX9_shareByLevels_112 (by decide) rfl ?_
            obtain ⟨ri, hri⟩ : ∃ ri, ri = (if re / cntF tb B h1 n < mi then re / cntF tb B h1 n else mi) := ⟨_, rfl⟩
            rw [← hri]
            have hr1 : 0 < ri ∧ ri ≤ re ∧ ri ≤ mi ∧ ri ≤ re / cntF tb B h1 n := by rw [hri]; split <;> omega
            have hr2 : ri * cntF tb B h1 n ≤ re := Int.le_trans (Int.mul_le_mul_of_nonneg_right hr1.2.2.2 (by omega)) hdv
            have hr3 : 0 ≤ ri * cntF tb B h1 n := Int.mul_nonneg (by omega) (by omega)
            refine V_aload_n C dX9_shareByLevels_114 rfl ?_
            refine V_iload C dX9_shareByLevels_115 rfl ?_
            refine V_iload C dX9_shareByLevels_117 rfl ?_
            refine V_callV0 C (As := [_, _]) (c_X9_raise hl (X := sIf X 333 G) (hm := cntF tb B h1 n) (ri := ri) hKy ha (LI.same (Y := sIf X 333 G) h rfl rfl rfl rfl rfl) hr9 hnd (fun q hq => hrg q hq) (by omega) (by omega)) kX9_372 hKy rfl rfl (Nat.le_of_ble_eq_true rfl) ⟨Nat.le_of_ble_eq_true rfl, Nat.le_of_ble_eq_true rfl⟩ ⟨Nat.le_of_ble_eq_true rfl, Nat.le_of_ble_eq_true rfl⟩ dX9_shareByLevels_119 ?_
            refine V_iload_n C dX9_shareByLevels_122 rfl ?_
            refine V_iload C dX9_shareByLevels_123 rfl ?_
            refine V_iload C dX9_shareByLevels_125 rfl ?_
            refine V_imul C dX9_shareByLevels_127 ?_
            refine V_isub C dX9_shareByLevels_128 ?_
            refine V_istore_n C dX9_shareByLevels_129 (by decide) rfl ?_
            refine V_iinc C dX9_shareByLevels_130 (by decide) rfl rfl ?_
            refine V_goto C dX9_shareByLevels_133 ?_
            rw [sIf_sIf, show re - cntF tb B h1 n * ri = re - ri * cntF tb B h1 n by rw [Int.mul_comm]]
            have hnx := lv_next hF hI (by omega) hr1.1 (by omega) hr2 (fun k hk ht hb => by have := hm3 k hk ht hb; omega) hB8 hrs
            have hcl := cntF_le (tb := tb) (B := B) (n := n) (show h1 ≤ h1 + ri by omega)
            have hro : (ro : Int) + cntF tb B h1 n ≤ 8 := hD.resolve_right (fun z => by omega)
            have h8 := fun w4 w5 w6 w7 => ih (ro + 1, re - ri * cntF tb B h1 n, (raF U BD ri rs rs.length (cntF tb B h1 n, G)).2, w4, w5, w6, w7) ⟨by dsimp only; omega, h1 + ri, hnx, ?_⟩ (by show 11 - (ro + 1) < 11 - ro; omega)
            · exact h8 _ _ _ _
            · dsimp only
              by_cases hlt : cntF tb B (h1 + ri) n < cntF tb B h1 n
              · left; omega
              · right
                refine ⟨by omega, ?_⟩
                have hrq : ri = re / cntF tb B h1 n := by
                  refine Classical.byContradiction fun z => hlt ?_
                  have hrm : ri = mi := by rw [hri] at z ⊢; split <;> split at z <;> first | rfl | omega
                  rcases hm4 with e | ⟨k, hk, ht, hb, e⟩
                  · have : re / cntF tb B h1 n ≤ mi := by omega
                    exact absurd (show ri = re / cntF tb B h1 n by omega) z
                  · exact cntF_drop (by omega) hk ht hb (by omega)
                rw [hrq]
                have : (re / cntF tb B h1 n + 1) * cntF tb B h1 n = re / cntF tb B h1 n * cntF tb B h1 n + cntF tb B h1 n := by rw [Int.add_mul, Int.one_mul]
                rw [hrq] at hcl hlt
                omega
          · refine V_aload_n C dX9_shareByLevels_96 rfl ?_
            refine V_iload_n C dX9_shareByLevels_97 rfl ?_
            refine V_iconst C dX9_shareByLevels_98 ?_
            refine V_callV0 C (As := [_, _]) (c_X9_raise hl (X := sIf X 333 G) (hm := re) (ri := 1) hKy ha (LI.same (Y := sIf X 333 G) h rfl rfl rfl rfl rfl) hr9 hnd (fun q hq => hrg q hq) (by omega) (by omega)) kX9_372 hKy rfl rfl (Nat.le_of_ble_eq_true rfl) ⟨Nat.le_of_ble_eq_true rfl, Nat.le_of_ble_eq_true rfl⟩ ⟨Nat.le_of_ble_eq_true rfl, Nat.le_of_ble_eq_true rfl⟩ dX9_shareByLevels_99 ?_
            exact V_vret C (by omega) (by omega) ⟨rfl, _, sIf_sIf X 333 G _, lv_few hF hI (by omega) (by omega) hrs⟩ hr dX9_shareByLevels_102
        · exact V_vret C (by omega) (by omega) ⟨rfl, G, rfl, lv_end hF hI (Or.inr (by omega))⟩ hr dX9_shareByLevels_89
      · obtain ⟨q, hq⟩ : ∃ q, rs[i]? = some q := ⟨rs[i]'(by omega), List.getElem?_eq_getElem (by omega)⟩
        have hqi := hr9 q (List.mem_of_getElem? hq)
        have hqg := hrg q (List.mem_of_getElem? hq)
        have eq : rs.getD i 0 = q := by rw [List.getD_eq_getElem?_getD, hq]; rfl
        have h8 := ih2 (i + 1, some (rv (some q))) (by show i + 1 ≤ rs.length; omega) (by show rs.length + 1 - (i + 1) < rs.length + 1 - i; omega)
        have e8 : mnF U BD G rs (i + 1) (0, re) = mnS U BD G q (mnF U BD G rs i (0, re)) := by show mnS U BD G (rs.getD i 0) _ = _; rw [eq]
        dsimp only at h8
        rw [e8] at h8
        unfold mnS at h8
        refine V_aload_n C dX9_shareByLevels_35 rfl ?_
        refine V_getP C cl10 fX9_28 (r := some aa) hKy ha dX9_shareByLevels_36 ?_
        refine V_iload C dX9_shareByLevels_39 rfl ?_
        refine V_callV1 C (As := [_]) (L_get hl (LI.same (Y := sIf X 333 G) h rfl rfl rfl rfl rfl) hq rfl) kX9_283 h.1 rfl rfl (Nat.le_of_ble_eq_true rfl) ⟨Nat.le_of_ble_eq_true rfl, Nat.le_of_ble_eq_true rfl⟩ ⟨Nat.le_of_ble_eq_true rfl, Nat.le_of_ble_eq_true rfl⟩ dX9_shareByLevels_41 ?_
        refine V_cast C cl5 cc_RX9_161 hqi.1 dX9_shareByLevels_44 ?_
        refine V_astore C dX9_shareByLevels_47 (by decide) rfl ?_
        refine V_aload C dX9_shareByLevels_49 rfl ?_
        refine V_callV1 C (As := []) (c_X4_takesMore hl (X := sIf X 333 G) (s := S q) (u := U q) (fl := G q) (bd := BD q) hqi.1 hqi.2.2.1 hqi.2.1 hqi.2.2.2.1 rfl hqi.2.2.2.2.2.1 hqi.2.2.2.2.1 (by omega) (by omega)) kX9_368 hqi.1 rfl rfl (Nat.le_of_ble_eq_true rfl) ⟨Nat.le_of_ble_eq_true rfl, Nat.le_of_ble_eq_true rfl⟩ ⟨Nat.le_of_ble_eq_true rfl, Nat.le_of_ble_eq_true rfl⟩ dX9_shareByLevels_51 ?_
        refine V_if_eq C dX9_shareByLevels_54 (by split <;> decide) (fun h54 => ?_) (fun h54 => ?_)
        · refine V_iinc C dX9_shareByLevels_78 (by decide) rfl rfl ?_
          refine V_goto C dX9_shareByLevels_81 ?_
          first | (rw [if_pos (by split at h54; assumption; omega)] at h8; exact h8) | (rw [if_neg (fun z => by rw [if_pos z] at h54; omega)] at h8; exact h8)
        · refine V_iinc C dX9_shareByLevels_57 (by decide) rfl rfl ?_
          refine V_iload C dX9_shareByLevels_60 rfl ?_
          refine V_aload C dX9_shareByLevels_62 rfl ?_
          refine V_getIx C cl5 fX9_350 (x := BD q) hqi.1 hqi.2.2.2.2.2.1 dX9_shareByLevels_64 ?_
          refine V_aload C dX9_shareByLevels_67 rfl ?_
          refine V_getIx C cl5 fX9_244 (x := G q) hqi.1 rfl dX9_shareByLevels_69 ?_
          refine V_isub C dX9_shareByLevels_72 ?_
          refine V_mmin C (by omega) (by omega) kX9_356 (Nat.le_of_ble_eq_true rfl) (Nat.le_of_ble_eq_true rfl) (by first | (dsimp only; omega) | exact Nat.le_of_ble_eq_true rfl) (by first | (dsimp only; omega) | exact Nat.le_of_ble_eq_true rfl) dX9_shareByLevels_73 ?_
          refine V_istore C dX9_shareByLevels_76 (by decide) rfl ?_
          refine V_iinc C dX9_shareByLevels_78 (by decide) rfl rfl ?_
          refine V_goto C dX9_shareByLevels_81 ?_
          first | (rw [if_pos (by split at h54; assumption; omega)] at h8; exact h8) | (rw [if_neg (fun z => by rw [if_pos z] at h54; omega)] at h8; exact h8)
end CLS14
