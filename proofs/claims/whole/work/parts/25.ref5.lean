/-! the reference: giving by levels -/
/-- who takes: it is served, it has its 1400 -/
def okTb (M : Mo) (n : Nat) (B P : Nat → Int) (tb : Nat → Bool) : Prop := (∀ k, tb k = true → k < n ∧ svd M k ∧ P k = 1400 ∧ 1400 ≤ B k) ∧ ∀ k, k < n → svd M k → 1400 ≤ P k → tb k = true
theorem open_lv {M : Mo} {n : Nat} {B P : Nat → Int} {tb : Nat → Bool} {h : Int} {k : Nat} (ht : okTb M n B P tb) (hh : 1400 ≤ h) (hk : k < n) : (svd M k ∧ 1400 ≤ lvF tb B P h k ∧ lvF tb B P h k < B k) ↔ (tb k = true ∧ h < B k) := by
  unfold lvF
  by_cases hb : tb k = true
  · obtain ⟨-, h2, -, h4⟩ := ht.1 k hb
    rw [if_pos hb]
    constructor
    · rintro ⟨-, h5, h6⟩
      refine ⟨hb, ?_⟩
      split at h6 <;> omega
    · rintro ⟨-, h5⟩
      rw [if_neg (by omega)]
      exact ⟨h2, hh, h5⟩
  · rw [if_neg hb]
    constructor
    · rintro ⟨h5, h6, -⟩
      exact absurd (ht.2 k hk h5 h6) hb
    · exact fun z => absurd z.1 hb
theorem lv_open {tb : Nat → Bool} {B P : Nat → Int} {h : Int} {k : Nat} (ho : tb k = true ∧ h < B k) : lvF tb B P h k = h := by
  unfold lvF
  rw [if_pos ho.1, if_neg (by omega)]
theorem lv_shut {tb : Nat → Bool} {B P : Nat → Int} {h g : Int} {k : Nat} (ho : ¬ (tb k = true ∧ h < B k)) (hg : h ≤ g) : lvF tb B P g k = lvF tb B P h k := by
  unfold lvF
  by_cases hb : tb k = true
  · rw [if_pos hb, if_pos hb]
    have : B k ≤ h := Int.not_lt.mp fun z => ho ⟨hb, z⟩
    split <;> split <;> omega
  · rw [if_neg hb, if_neg hb]
theorem lv_in {M : Mo} {n : Nat} {B P : Nat → Int} {tb : Nat → Bool} {h : Int} {k : Nat} (ht : okTb M n B P tb) (hh : 1400 ≤ h ∧ h ≤ 50000) (hB : 0 ≤ B k ∧ B k ≤ 50000) (hP : 0 ≤ P k ∧ P k ≤ 50000) : 0 ≤ lvF tb B P h k ∧ lvF tb B P h k ≤ 50000 := by
  unfold lvF
  split
  · split <;> omega
  · exact hP
/-- the least of those that are open, among those below k -/
def lsI (tb : Nat → Bool) (B : Nat → Int) (h : Int) (k : Nat) (z : Int) : Prop := (z = -1 ∧ ∀ j, j < k → ¬ (tb j = true ∧ h < B j)) ∨ (z = h ∧ ∃ j, j < k ∧ tb j = true ∧ h < B j)
theorem lsI_up {tb : Nat → Bool} {B : Nat → Int} {h : Int} {k : Nat} {z w : Int} (hi : lsI tb B h k z) (hh : 1400 ≤ h) (hw : ((tb k = true ∧ h < B k) ∧ (z = -1 ∨ h < z) ∧ w = h) ∨ (¬ ((tb k = true ∧ h < B k) ∧ (z = -1 ∨ h < z)) ∧ w = z)) : lsI tb B h (k + 1) w := by
  rcases hw with ⟨h1, h2, rfl⟩ | ⟨h1, rfl⟩
  · exact Or.inr ⟨rfl, k, Nat.lt_succ_self k, h1⟩
  · rcases hi with ⟨h2, h3⟩ | ⟨h2, j, h3, h4⟩
    · refine Or.inl ⟨h2, fun j hj => ?_⟩
      rcases Nat.lt_succ_iff_lt_or_eq.mp hj with z | rfl
      · exact h3 j z
      · exact fun z => h1 ⟨z, Or.inl h2⟩
    · exact Or.inr ⟨h2, j, Nat.lt_succ_of_lt h3, h4⟩
/-- the next bound -/
def nxI (tb : Nat → Bool) (B : Nat → Int) (h : Int) (k : Nat) (z : Int) : Prop := h < z ∧ z ≤ 1000000 ∧ (∀ j, j < k → tb j = true → h < B j → z ≤ B j) ∧ ((∃ j, j < k ∧ tb j = true ∧ h < B j) → z ≤ 50000)
theorem nxI_1 {tb : Nat → Bool} {B : Nat → Int} {h : Int} {k : Nat} {z w : Int} (hi : nxI tb B h k z) (ho : h < B k) (hB : B k ≤ 50000) (hw : w = (if B k < z then B k else z)) : nxI tb B h (k + 1) w := by
  obtain ⟨h1, h2, h3, h4⟩ := hi
  subst hw
  refine ⟨by split <;> omega, by split <;> omega, fun j hj ht hb => ?_, fun _ => by split <;> omega⟩
  rcases Nat.lt_succ_iff_lt_or_eq.mp hj with z | rfl
  · have := h3 j z ht hb
    split <;> omega
  · split <;> omega
theorem nxI_0 {tb : Nat → Bool} {B : Nat → Int} {h : Int} {k : Nat} {z : Int} (hi : nxI tb B h k z) (ho : ¬ (tb k = true ∧ h < B k)) : nxI tb B h (k + 1) z := by
  obtain ⟨h1, h2, h3, h4⟩ := hi
  refine ⟨h1, h2, fun j hj ht hb => ?_, fun ⟨j, hj, ht⟩ => ?_⟩
  · rcases Nat.lt_succ_iff_lt_or_eq.mp hj with z | rfl
    · exact h3 j z ht hb
    · exact absurd ⟨ht, hb⟩ ho
  · rcases Nat.lt_succ_iff_lt_or_eq.mp hj with z | rfl
    · exact h4 ⟨j, z, ht⟩
    · exact absurd ht ho
/-- powers of which those below k have got theirs: by each, or one while there are -/
def gvF (tb : Nat → Bool) (B P : Nat → Int) (h w q : Int) (k j : Nat) : Int := if j < k then (if 0 < w then lvF tb B P (h + w) j else fnF tb B P h q j) else lvF tb B P h j
theorem gv_1 {tb : Nat → Bool} {B P : Nat → Int} {h w q : Int} {k : Nat} (ho : tb k = true ∧ h < B k) (hw : 0 ≤ w) (hn : h + w ≤ B k) : (fun i => if i = k then h + (if 0 < w then w else if 0 < q - cntF tb B h k then 1 else 0) else gvF tb B P h w q k i) = gvF tb B P h w q (k + 1) := by
  funext i
  unfold gvF
  by_cases e : i = k
  · subst e
    rw [if_pos rfl, if_pos (Nat.lt_succ_self i)]
    by_cases h0 : 0 < w
    · rw [if_pos h0, if_pos h0]
      unfold lvF
      rw [if_pos ho.1]
      split <;> omega
    · rw [if_neg h0, if_neg h0]
      unfold fnF
      by_cases h1 : cntF tb B h i < q
      · rw [if_pos (show 0 < q - cntF tb B h i by omega), if_pos ⟨ho.1, ho.2, h1⟩]
      · rw [if_neg (show ¬ 0 < q - cntF tb B h i by omega), if_neg (fun z => h1 z.2.2), lv_open ho]
        omega
  · rw [if_neg e]
    have e2 : i < k + 1 ↔ i < k := by omega
    simp only [e2]
theorem gv_0 {tb : Nat → Bool} {B P : Nat → Int} {h w q : Int} {k : Nat} (ho : ¬ (tb k = true ∧ h < B k)) (hw : 0 ≤ w) : gvF tb B P h w q k = gvF tb B P h w q (k + 1) := by
  funext i
  unfold gvF
  by_cases e : i = k
  · subst e
    rw [if_neg (Nat.lt_irrefl i), if_pos (Nat.lt_succ_self i)]
    split
    · exact (lv_shut ho (by omega)).symm
    · unfold fnF
      rw [if_neg (fun z => ho ⟨z.1, z.2.1⟩)]
  · have e2 : i < k + 1 ↔ i < k := by omega
    simp only [e2]
theorem gv_all {tb : Nat → Bool} {B P : Nat → Int} {h w q : Int} {n : Nat} (ht : ∀ k, tb k = true → k < n) : gvF tb B P h w q n = if 0 < w then lvF tb B P (h + w) else fnF tb B P h q := by
  funext i
  unfold gvF
  by_cases e : i < n
  · rw [if_pos e]
    split <;> rfl
  · have h1 : ¬ tb i = true := fun z => e (ht i z)
    rw [if_neg e]
    split
    · unfold lvF
      rw [if_neg h1, if_neg h1]
    · unfold fnF
      rw [if_neg (fun z => h1 z.1)]
section REF5
variable {l : Launch} {D : va_G} {kA : Nat → ClassId} {b t0 mo : Nat} {ad : Nat → Nat} {M : Mo}

set_option maxRecDepth 20000 in
theorem c_X10_share (hl : l.stackTraces = false) {B P : Nat → Int} {tb : Nat → Bool} {q0 : Int} {n : Nat} (hO : OkM M) (hn : (n : Int) = M.1 30) (hB : ∀ k, k < n → 0 ≤ B k ∧ B k ≤ 50000) (hP : ∀ k, k < n → 0 ≤ P k ∧ P k ≤ 50000) (ht : okTb M n B P tb) (hq : 0 ≤ q0 ∧ q0 ≤ 300000) : Cr l D kA b t0 mo ad yX10_share cX10_share 9 none 2 42 [rv (some mo), iv q0] (bp M B P) (fun v M2 => M2 = bp M B (shF tb B P n q0) ∧ v = none) := by
  refine Cr_mk hl (by decide) (Nat.le_of_ble_eq_true rfl) rfl ?_
  intro X0 p e s m args below meth c C hr
  have h0 := hO.1
  unfold okSc at h0
  have hP0 : P = lvF tb B P (50000 - ((48600 : Nat) : Int)) := by
    funext k
    unfold lvF
    split
    · rename_i hb
      obtain ⟨-, -, h3, h4⟩ := ht.1 k hb
      rw [h3]
      split <;> omega
    · rfl
  refine R_iload_n C dX10_share_0 rfl ?_
  refine R_istore_n C dX10_share_1 (by decide) rfl ?_
  refine R_while C (St := Int × (Nat → Int) × Option Value × Option Value × Option Value × Option Value × Option Value × Option Value) (f := fun x => bp M B x.2.1) (g := fun x => [some (rv (some mo)), some (iv q0), some (iv x.1), x.2.2.1, x.2.2.2.1, x.2.2.2.2.1, x.2.2.2.2.2.1, x.2.2.2.2.2.2.1, x.2.2.2.2.2.2.2]) (μ := fun x => x.1.toNat) (I := fun x => (∃ f : Nat, f ≤ 48600 ∧ x.2.1 = lvF tb B P (50000 - (f : Int)) ∧ wfF tb B n f x.1 = wfF tb B n 48600 q0 ∧ 0 ≤ x.1 ∧ x.1 ≤ 300000) ∨ (x.2.1 = shF tb B P n q0 ∧ x.1 = 0)) (x0 := (q0, P, none, none, none, none, none, none)) rfl rfl (Or.inl ⟨48600, Nat.le_refl _, hP0, rfl, hq⟩) ?_
  rintro ⟨q, Q9, u3, u4, u5, u6, u7, u8⟩ hI ih
  dsimp only at hI ih ⊢
  have hqr : 0 ≤ q ∧ q ≤ 300000 := by
    rcases hI with ⟨f, -, -, -, h1, h2⟩ | ⟨-, h1⟩ <;> omega
  refine R_iload_n C dX10_share_2 rfl ?_
  refine R_if_le C dX10_share_3 (by omega) (fun h3 => ?_) (fun h3 => ?_)
  · have hfin : Q9 = shF tb B P n q0 := by
      rcases hI with ⟨f, hf, h1, h2, h3, h4⟩ | ⟨h1, -⟩
      · rw [h1]
        have e := wfF_end (tb := tb) (B := B) (n := n) (f := f) (left := q) (by
          have := (cntF_in tb B (50000 - (f : Int)) n).1
          omega)
        funext j
        unfold shF
        rw [← h2, e]
        dsimp only
        rw [fnF_lv (fun k hk => (ht.1 k hk).1) (Or.inl (by omega))]
      · exact h1
    exact R_vret C ⟨by rw [hfin], rfl⟩ hr dX10_share_299
  · rcases hI with ⟨f, hf, rfl, hwf, -, -⟩ | ⟨-, hz⟩
    rotate_left
    · omega
    obtain ⟨h, hh⟩ : ∃ h : Int, h = 50000 - (f : Int) := ⟨_, rfl⟩
    rw [← hh]
    have hh1 : 1400 ≤ h := by omega
    have hh2 : h ≤ 50000 := by omega
    refine R_iconst C dX10_share_6 ?_
    refine R_istore_n C dX10_share_7 (by decide) rfl ?_
    refine R_iconst C dX10_share_8 ?_
    refine R_istore C dX10_share_9 (by decide) rfl ?_
    refine R_while C (St := Nat × Int) (f := fun _ => bp M B (lvF tb B P h)) (g := fun x => [some (rv (some mo)), some (iv q0), some (iv q), some (iv x.2), some (iv (x.1 : Int)), u5, u6, u7, u8]) (μ := fun x => 41 - x.1) (I := fun x => x.1 ≤ n ∧ lsI tb B h x.1 x.2) (x0 := (0, -1)) rfl rfl ⟨Nat.zero_le _, Or.inl ⟨rfl, fun j hj => absurd hj (Nat.not_lt_zero j)⟩⟩ ?_
    rintro ⟨k, y⟩ ⟨hkn, hls⟩ ih1
    dsimp only at hkn hls ih1 ⊢
    have hy : y = -1 ∨ y = h := hls.imp (fun z => z.1) (fun z => z.1)
    refine R_iload C dX10_share_11 rfl ?_
    refine R_aload_n C dX10_share_13 rfl ?_
    refine R_getS C cl11 fX10_151 (x := M.1 30) rfl (by decide) dX10_share_14 ?_
    refine R_icmp_ge C dX10_share_17 (by omega) (by omega) (fun h17 => ?_) (fun h17 => ?_)
    · have ekn : n = k := by omega
      subst ekn
      refine R_iload_n C dX10_share_63 rfl ?_
      refine R_iconst C dX10_share_64 ?_
      refine R_icmp_ne C dX10_share_65 (by omega) (by decide) (fun h65 => ?_) (fun h65 => ?_)
      · rcases hls with z | ⟨hyh, j0, hj0, hj1⟩
        · omega
        have hyh2 : h = y := hyh.symm
        subst hyh2
        have hcn := (cntF_in tb B h n)
        have hcp : 0 < cntF tb B h n := by
          rcases Int.lt_or_le 0 (cntF tb B h n) with z | z
          · exact z
          · exact absurd hj1 (cntF_0.mp (by omega) j0 hj0)
        refine R_iconst C dX10_share_69 ?_
        refine R_istore C dX10_share_70 (by decide) rfl ?_
        refine R_ldc C dX10_share_72 qX10_234 ?_
        refine R_istore C dX10_share_74 (by decide) rfl ?_
        refine R_iconst C dX10_share_76 ?_
        refine R_istore C dX10_share_77 (by decide) rfl ?_
        have hnx00 : nxI tb B h 0 1000000 := ⟨by omega, Int.le_refl _, fun j hj => absurd hj (Nat.not_lt_zero j), fun ⟨j, hj, _⟩ => absurd hj (Nat.not_lt_zero j)⟩
        refine R_while C (St := Nat × Int × Int × Option Value) (f := fun _ => bp M B (lvF tb B P h)) (g := fun x => [some (rv (some mo)), some (iv q0), some (iv q), some (iv h), some (iv x.2.1), some (iv x.2.2.1), some (iv (x.1 : Int)), x.2.2.2, u8]) (μ := fun x => 41 - x.1) (I := fun x => x.1 ≤ n ∧ x.2.1 = cntF tb B h x.1 ∧ nxI tb B h x.1 x.2.2.1) (x0 := (0, 0, 1000000, u7)) rfl rfl ⟨Nat.zero_le _, rfl, hnx00⟩ ?_
        rintro ⟨k, cn, nx, u7⟩ ⟨hkn, hcn2, hnx⟩ ih2
        dsimp only at hkn hcn2 hnx ih2 ⊢
        have hnx0 := hnx
        unfold nxI at hnx0
        have hcn3 := cntF_in tb B h k
        refine R_iload C dX10_share_79 rfl ?_
        refine R_aload_n C dX10_share_81 rfl ?_
        refine R_getS C cl11 fX10_151 (x := M.1 30) rfl (by decide) dX10_share_82 ?_
        refine R_icmp_ge C dX10_share_85 (by omega) (by omega) (fun h85 => ?_) (fun h85 => ?_)
        · have ekn : n = k := by omega
          subst ekn
          have hnx5 := hnx0.2.2.2 ⟨j0, hj0, hj1⟩
          rw [← hcn2] at hcp hcn
          have hdq : 0 ≤ q / cn ∧ q / cn ≤ q := ⟨Int.ediv_nonneg (by omega) (by omega), Int.ediv_le_self _ (by omega)⟩
          have hdm : q / cn * cn ≤ q := Int.ediv_mul_le q (by omega)
          refine R_join C (pcm := 192) (P := fun z => z = (if nx - h < q / cn then nx - h else q / cn)) (fun hj => ?_) (fun w hw => ?_)
          · refine R_iload C dX10_share_170 rfl ?_
            refine R_iload_n C dX10_share_172 rfl ?_
            refine R_isub C dX10_share_173 ?_
            refine R_iload_n C dX10_share_174 rfl ?_
            refine R_iload C dX10_share_175 rfl ?_
            refine R_idivN C dX10_share_177 (by omega) (by omega) (by omega) (by first | decide | omega) ?_
            refine R_icmp_ge C dX10_share_178 (by omega) (by omega) (fun h178 => ?_) (fun h178 => ?_)
            · refine R_iload_n C dX10_share_188 rfl ?_
              refine R_iload C dX10_share_189 rfl ?_
              refine R_idivN C dX10_share_191 (by omega) (by omega) (by omega) (by first | decide | omega) ?_
              exact hj _ (by split <;> omega)
            · refine R_iload C dX10_share_181 rfl ?_
              refine R_iload_n C dX10_share_183 rfl ?_
              refine R_isub C dX10_share_184 ?_
              refine R_goto C dX10_share_185 ?_
              exact hj _ (by split <;> omega)
          refine R_istore C dX10_share_192 (by decide) rfl ?_
          refine R_join C (pcm := 204) (P := fun z => z = (if w = 0 then q else 0)) (fun hj => ?_) (fun on0 hon0 => ?_)
          · refine R_iload C dX10_share_194 rfl ?_
            refine R_if_ne C dX10_share_196 (by omega) (fun h196 => ?_) (fun h196 => ?_)
            · refine R_iconst C dX10_share_203 ?_
              exact hj _ (by split <;> omega)
            · refine R_iload_n C dX10_share_199 rfl ?_
              refine R_goto C dX10_share_200 ?_
              exact hj _ (by split <;> omega)
          refine R_istore C dX10_share_204 (by decide) rfl ?_
          have hw0 : 0 ≤ w ∧ w ≤ q / cn ∧ w ≤ nx - h := by split at hw <;> omega
          have hwc : 0 ≤ w * cn ∧ w * cn ≤ q := ⟨Int.mul_nonneg hw0.1 (by omega), Int.le_trans (Int.mul_le_mul_of_nonneg_right hw0.2.1 (by omega)) hdm⟩
          have hon0' : 0 ≤ on0 ∧ on0 ≤ 300000 := by split at hon0 <;> omega
          refine R_iload_n C dX10_share_206 rfl ?_
          refine R_iload C dX10_share_207 rfl ?_
          refine R_iload C dX10_share_209 rfl ?_
          refine R_imul C dX10_share_211 ?_
          refine R_isub C dX10_share_212 ?_
          refine R_istore_n C dX10_share_213 (by decide) rfl ?_
          refine R_iconst C dX10_share_214 ?_
          refine R_istore C dX10_share_215 (by decide) rfl ?_
          refine R_while C (St := Nat × Int) (f := fun x => bp M B (gvF tb B P h w q x.1)) (g := fun x => [some (rv (some mo)), some (iv q0), some (iv (q - w * cn)), some (iv h), some (iv cn), some (iv nx), some (iv w), some (iv x.2), some (iv (x.1 : Int))]) (μ := fun x => 41 - x.1) (I := fun x => x.1 ≤ n ∧ x.2 = on0 - cntF tb B h x.1) (x0 := (0, on0)) (by show bp M B (gvF tb B P h w q 0) = _; congr 1) rfl ⟨Nat.zero_le _, by show on0 = on0 - 0; omega⟩ ?_
          rintro ⟨k, on⟩ ⟨hkn, hon⟩ ih3
          dsimp only at hkn hon ih3 ⊢
          have hcn3 := cntF_in tb B h k
          have hgk : gvF tb B P h w q k k = lvF tb B P h k := by unfold gvF; rw [if_neg (Nat.lt_irrefl k)]
          refine R_iload C dX10_share_217 rfl ?_
          refine R_aload_n C dX10_share_219 rfl ?_
          refine R_getS C cl11 fX10_151 (x := M.1 30) rfl (by decide) dX10_share_220 ?_
          refine R_icmp_ge C dX10_share_223 (by omega) (by omega) (fun h223 => ?_) (fun h223 => ?_)
          · have ekn : n = k := by omega
            subst ekn
            generalize hQ8 : gvF tb B P h w q n = Q8
            refine R_join C (pcm := 295) (P := fun z => z = (if w = 0 then 0 else q - w * cn)) (fun hj => ?_) (fun q2 hq2 => ?_)
            · refine R_iload C dX10_share_285 rfl ?_
              refine R_if_ne C dX10_share_287 (by omega) (fun h287 => ?_) (fun h287 => ?_)
              · refine R_iload_n C dX10_share_294 rfl ?_
                exact hj _ (by split <;> omega)
              · refine R_iconst C dX10_share_290 ?_
                refine R_goto C dX10_share_291 ?_
                exact hj _ (by split <;> omega)
            refine R_istore_n C dX10_share_295 (by decide) rfl ?_
            refine R_goto C dX10_share_296 ?_
            refine ih (q2, _, _, _, _, _, _, _) ?_ ?_
            · dsimp only
              by_cases h0 : 0 < w
              · left
                rw [if_neg (by omega)] at hq2
                refine ⟨f - w.toNat, by omega, ?_, ?_, by omega, by omega⟩
                · rw [← hQ8, gv_all (fun k hk => (ht.1 k hk).1), if_pos h0, show (50000 : Int) - ((f - w.toNat : Nat) : Int) = h + w by omega]
                · rw [← hwf, hq2]
                  have hj := wfF_jump (tb := tb) (B := B) (n := n) (f := f - w.toNat) (c := cn) (left := q) hcp w.toNat (fun i hi => by
                    rw [hcn2]
                    have e9 : (50000 : Int) - ((f - w.toNat + w.toNat : Nat) : Int) + (i : Int) = h + i := by omega
                    rw [e9]
                    refine cntF_eq (fun j hj hb => ⟨fun z => by omega, fun z => ?_⟩)
                    have := hnx.2.2.1 j hj hb z
                    omega) (by rw [show ((w.toNat : Nat) : Int) = w by omega]; exact hwc.2)
                  rw [show f - w.toNat + w.toNat = f by omega, show ((w.toNat : Nat) : Int) = w by omega] at hj
                  exact hj.symm
              · right
                rw [if_pos (by omega)] at hq2
                refine ⟨?_, hq2⟩
                have hlt : q < cn := by
                  have hd0 : q / cn = 0 := by split at hw <;> omega
                  have h7 := Int.lt_ediv_add_one_mul_self q (show 0 < cn by omega)
                  rw [hd0] at h7
                  omega
                rw [← hQ8, gv_all (fun k hk => (ht.1 k hk).1), if_neg h0]
                have e := wfF_end (tb := tb) (B := B) (n := n) (f := f) (left := q) (by rw [← hh, ← hcn2]; exact Or.inr (Or.inl hlt))
                funext j
                unfold shF
                rw [← hwf, e, ← hh]
            · show q2.toNat < q.toNat
              by_cases h0 : 0 < w
              · rw [if_neg (by omega)] at hq2
                have : 0 < w * cn := Int.mul_pos h0 hcp
                omega
              · rw [if_pos (by omega)] at hq2
                omega
          · have hk2 : (k : Int) < M.1 30 := by omega
            have hbk := hB k (by omega)
            have hlk := lv_in ht ⟨hh1, hh2⟩ hbk (hP k (by omega))
            have hop := open_lv ht hh1 (by omega : k < n)
            refine R_cond C (P := tb k = true ∧ h < B k) (pt := 246) (pf := 279) (fun hkt hkf => ?_) (fun ho => ?_) (fun ho => ?_)
            · refine R_aload_n C dX10_share_226 rfl ?_
              refine R_iload C dX10_share_227 rfl ?_
              refine R_callVz C (As := [_]) (c_X10_isOpen hl (M := bp M B (gvF tb B P h w q k)) hO (k := k) hk2 (show rng (gvF tb B P h w q k k) by rw [hgk]; omega) (show rng (B k) by omega)) kX10_231 rfl rfl (Nat.le_of_ble_eq_true rfl) ⟨by decide, by decide⟩ ⟨Nat.le_refl _, Nat.le_refl _⟩ dX10_share_229 (fun z229 hz229 => ?_)
              change (z229 = 1 ∧ (svd M k ∧ 1400 ≤ gvF tb B P h w q k k ∧ gvF tb B P h w q k k < B k)) ∨ (z229 = 0 ∧ ¬ (svd M k ∧ 1400 ≤ gvF tb B P h w q k k ∧ gvF tb B P h w q k k < B k)) at hz229
              rw [hgk] at hz229
              have hlo := @lv_open tb B P h k
              rw [hop] at hz229
              refine R_if_eq C dX10_share_232 (by omega) (fun h232 => ?_) (fun h232 => ?_)
              · exact hkf (by clear ih; grind)
              · refine R_aload_n C dX10_share_235 rfl ?_
                refine R_getA C cl11 fX10_135 (by decide) dX10_share_236 ?_
                refine R_iload C dX10_share_239 rfl ?_
                refine R_iald C (j := k) (kf := 49) rfl (show k < 40 by omega) rfl (x := lvF tb B P h k) hgk dX10_share_241 ?_
                refine R_iload_n C dX10_share_242 rfl ?_
                refine R_icmp_ne C dX10_share_243 (by omega) (by omega) (fun h243 => ?_) (fun h243 => ?_)
                · exact hkf (by clear ih; grind)
                · exact hkt (by clear ih; grind)
            · refine R_aload_n C dX10_share_246 rfl ?_
              refine R_getA C cl11 fX10_135 (by decide) dX10_share_247 ?_
              refine R_iload C dX10_share_250 rfl ?_
              refine R_dup2 C dX10_share_252 rfl rfl ?_
              refine R_iald C (j := k) (kf := 49) rfl (show k < 40 by omega) rfl (x := lvF tb B P h k) hgk dX10_share_253 ?_
              refine R_join C (pcm := 274) (P := fun z => z = (if 0 < w then w else if 0 < on then 1 else 0)) (fun hj => ?_) (fun z5 hz5 => ?_)
              · refine R_iload C dX10_share_254 rfl ?_
                refine R_if_le C dX10_share_256 (by omega) (fun h256 => ?_) (fun h256 => ?_)
                · refine R_iload C dX10_share_264 rfl ?_
                  refine R_if_le C dX10_share_266 (by omega) (fun h266 => ?_) (fun h266 => ?_)
                  · refine R_iconst C dX10_share_273 ?_
                    exact hj _ (by split <;> (try split) <;> omega)
                  · refine R_iconst C dX10_share_269 ?_
                    refine R_goto C dX10_share_270 ?_
                    exact hj _ (by split <;> (try split) <;> omega)
                · refine R_iload C dX10_share_259 rfl ?_
                  refine R_goto C dX10_share_261 ?_
                  exact hj _ (by split <;> (try split) <;> omega)
              refine R_iadd C dX10_share_274 ?_
              refine R_iast C (j := k) (kf := 49) rfl (show k < 40 by omega) rfl dX10_share_275 ?_
              refine R_iinc C dX10_share_276 (by decide) rfl rfl ?_
              refine R_iinc C dX10_share_279 (by decide) rfl rfl ?_
              refine R_goto C dX10_share_282 ?_
              have e1 := gv_1 (P := P) (q := q) ho hw0.1 (by have := hnx.2.2.1 k (by omega) ho.1 ho.2; omega)
              have e2 : z5 = (if 0 < w then w else if 0 < q - cntF tb B h k then 1 else 0) := by
                rw [hz5, hon]
                by_cases h0 : 0 < w
                · rw [if_pos h0, if_pos h0]
                · rw [if_neg h0, if_neg h0, show on0 = q by rw [hon0, if_pos (by omega)]]
              have e3 : cntF tb B h (k + 1) = cntF tb B h k + 1 := by
                show cntF tb B h k + (if tb k = true ∧ h < B k then 1 else 0) = _
                rw [if_pos ho]
              have h8 := ih3 (k + 1, on + -1) ⟨by show k + 1 ≤ n; omega, by show on + -1 = on0 - cntF tb B h (k + 1); rw [e3]; omega⟩ (by show 41 - (k + 1) < 41 - k; omega)
              rw [← e1, ← e2] at h8
              rw [setA_49, lv_open ho]
              exact h8
            · refine R_iinc C dX10_share_279 (by decide) rfl rfl ?_
              refine R_goto C dX10_share_282 ?_
              have e1 := gv_0 (P := P) (q := q) ho hw0.1
              have e3 : cntF tb B h (k + 1) = cntF tb B h k := by
                show cntF tb B h k + (if tb k = true ∧ h < B k then 1 else 0) = _
                rw [if_neg ho]
                omega
              have h8 := ih3 (k + 1, on) ⟨by show k + 1 ≤ n; omega, by show on = on0 - cntF tb B h (k + 1); rw [e3]; exact hon⟩ (by show 41 - (k + 1) < 41 - k; omega)
              rw [← e1] at h8
              exact h8
        · have hk2 : (k : Int) < M.1 30 := by omega
          have hbk := hB k (by omega)
          have hlk := lv_in ht ⟨hh1, hh2⟩ hbk (hP k (by omega))
          have hop := open_lv ht hh1 (by omega : k < n)
          refine R_aload_n C dX10_share_88 rfl ?_
          refine R_iload C dX10_share_89 rfl ?_
          refine R_callVz C (As := [_]) (c_X10_isOpen hl (M := bp M B (lvF tb B P h)) hO (k := k) hk2 (show rng (lvF tb B P h k) by omega) (show rng (B k) by omega)) kX10_231 rfl rfl (Nat.le_of_ble_eq_true rfl) ⟨by decide, by decide⟩ ⟨Nat.le_refl _, Nat.le_refl _⟩ dX10_share_91 (fun z91 hz91 => ?_)
          change (z91 = 1 ∧ (svd M k ∧ 1400 ≤ lvF tb B P h k ∧ lvF tb B P h k < B k)) ∨ (z91 = 0 ∧ ¬ (svd M k ∧ 1400 ≤ lvF tb B P h k ∧ lvF tb B P h k < B k)) at hz91
          rw [hop] at hz91
          refine R_if_eq C dX10_share_94 (by omega) (fun h94 => ?_) (fun h94 => ?_)
          · refine R_iinc C dX10_share_164 (by decide) rfl rfl ?_
            refine R_goto C dX10_share_167 ?_
            first | exact ih2 (k + 1, _, _, _) ⟨by show k + 1 ≤ n; omega, by show cn + 1 = cntF tb B h (k + 1); show _ = cntF tb B h k + (if tb k = true ∧ h < B k then 1 else 0); rw [if_pos (by rcases hz91 with z | z; exact z.2; exact absurd z.1 h94), hcn2], nxI_1 hnx (And.right (by rcases hz91 with z | z; exact z.2; exact absurd z.1 h94)) hbk.2 hz3⟩ (by show 41 - (k + 1) < 41 - k; omega) | exact ih2 (k + 1, _, _, _) ⟨by show k + 1 ≤ n; omega, by show cn = cntF tb B h (k + 1); show _ = cntF tb B h k + (if tb k = true ∧ h < B k then 1 else 0); rw [if_neg (by rcases hz91 with z | z; exact absurd (z.1.symm.trans h94) (by decide); exact z.2), hcn2]; omega, nxI_0 hnx (by rcases hz91 with z | z; exact absurd (z.1.symm.trans h94) (by decide); exact z.2)⟩ (by show 41 - (k + 1) < 41 - k; omega)
          · refine R_join C (pcm := 125) (P := fun z => z = B k) (fun hj => ?_) (fun z2 hz2 => ?_)
            · refine R_aload_n C dX10_share_97 rfl ?_
              refine R_getA C cl11 fX10_135 (by decide) dX10_share_98 ?_
              refine R_iload C dX10_share_101 rfl ?_
              refine R_iald C (j := k) (kf := 49) rfl (show k < 40 by omega) rfl (x := lvF tb B P h k) rfl dX10_share_103 ?_
              refine R_iload_n C dX10_share_104 rfl ?_
              refine R_icmp_ne C dX10_share_105 (by omega) (by omega) (fun h105 => ?_) (fun h105 => ?_)
              · refine R_aload_n C dX10_share_118 rfl ?_
                refine R_getA C cl11 fX10_135 (by decide) dX10_share_119 ?_
                refine R_iload C dX10_share_122 rfl ?_
                refine R_iald C (j := k) (kf := 49) rfl (show k < 40 by omega) rfl (x := lvF tb B P h k) rfl dX10_share_124 ?_
                exact hj _ (by first | rfl | exact absurd (lv_open (by rcases hz91 with z | z; exact z.2; exact absurd z.1 h94)) h105)
              · refine R_aload_n C dX10_share_108 rfl ?_
                refine R_getA C cl11 fX10_132 (by decide) dX10_share_109 ?_
                refine R_iload C dX10_share_112 rfl ?_
                refine R_iald C (j := k) (kf := 48) rfl (show k < 40 by omega) rfl (x := B k) rfl dX10_share_114 ?_
                refine R_goto C dX10_share_115 ?_
                exact hj _ (by first | rfl | exact absurd (lv_open (by rcases hz91 with z | z; exact z.2; exact absurd z.1 h94)) h105)
            subst hz2
            refine R_istore C dX10_share_125 (by decide) rfl ?_
            refine R_join C (pcm := 141) (P := fun z => z = (if B k < nx then B k else nx)) (fun hj => ?_) (fun z3 hz3 => ?_)
            · refine R_iload C dX10_share_127 rfl ?_
              refine R_iload C dX10_share_129 rfl ?_
              refine R_icmp_ge C dX10_share_131 (by omega) (by omega) (fun h131 => ?_) (fun h131 => ?_)
              · refine R_iload C dX10_share_139 rfl ?_
                exact hj _ (by split <;> omega)
              · refine R_iload C dX10_share_134 rfl ?_
                refine R_goto C dX10_share_136 ?_
                exact hj _ (by split <;> omega)
            refine R_istore C dX10_share_141 (by decide) rfl ?_
            refine R_iload C dX10_share_143 rfl ?_
            refine R_join C (pcm := 161) (P := fun z => z = 1) (fun hj => ?_) (fun z4 hz4 => ?_)
            · refine R_aload_n C dX10_share_145 rfl ?_
              refine R_getA C cl11 fX10_135 (by decide) dX10_share_146 ?_
              refine R_iload C dX10_share_149 rfl ?_
              refine R_iald C (j := k) (kf := 49) rfl (show k < 40 by omega) rfl (x := lvF tb B P h k) rfl dX10_share_151 ?_
              refine R_iload_n C dX10_share_152 rfl ?_
              refine R_icmp_ne C dX10_share_153 (by omega) (by omega) (fun h153 => ?_) (fun h153 => ?_)
              · refine R_iconst C dX10_share_160 ?_
                exact hj _ (by first | rfl | exact absurd (lv_open (by rcases hz91 with z | z; exact z.2; exact absurd z.1 h94)) h153)
              · refine R_iconst C dX10_share_156 ?_
                refine R_goto C dX10_share_157 ?_
                exact hj _ (by first | rfl | exact absurd (lv_open (by rcases hz91 with z | z; exact z.2; exact absurd z.1 h94)) h153)
            subst hz4
            refine R_iadd C dX10_share_161 ?_
            refine R_istore C dX10_share_162 (by decide) rfl ?_
            refine R_iinc C dX10_share_164 (by decide) rfl rfl ?_
            refine R_goto C dX10_share_167 ?_
            first | exact ih2 (k + 1, _, _, _) ⟨by show k + 1 ≤ n; omega, by show cn + 1 = cntF tb B h (k + 1); show _ = cntF tb B h k + (if tb k = true ∧ h < B k then 1 else 0); rw [if_pos (by rcases hz91 with z | z; exact z.2; exact absurd z.1 h94), hcn2], nxI_1 hnx (And.right (by rcases hz91 with z | z; exact z.2; exact absurd z.1 h94)) hbk.2 hz3⟩ (by show 41 - (k + 1) < 41 - k; omega) | exact ih2 (k + 1, _, _, _) ⟨by show k + 1 ≤ n; omega, by show cn = cntF tb B h (k + 1); show _ = cntF tb B h k + (if tb k = true ∧ h < B k then 1 else 0); rw [if_neg (by rcases hz91 with z | z; exact absurd (z.1.symm.trans h94) (by decide); exact z.2), hcn2]; omega, nxI_0 hnx (by rcases hz91 with z | z; exact absurd (z.1.symm.trans h94) (by decide); exact z.2)⟩ (by show 41 - (k + 1) < 41 - k; omega)
      · have hfin : lvF tb B P h = shF tb B P n q0 := by
          have hc0 : cntF tb B h n = 0 := cntF_0.mpr (by rcases hls with z | z; exact z.2; exact absurd z.1 (by omega))
          have e := wfF_end (tb := tb) (B := B) (n := n) (f := f) (left := q) (by rw [← hh]; exact Or.inr (Or.inr hc0))
          funext j
          unfold shF
          rw [← hwf, e, ← hh]
          dsimp only
          rw [fnF_lv (fun k hk => (ht.1 k hk).1) (Or.inr hc0)]
        exact R_vret C ⟨by rw [hfin], rfl⟩ hr dX10_share_68
    · have hk2 : (k : Int) < M.1 30 := by omega
      have hbk := hB k (by omega)
      have hlk := lv_in ht ⟨hh1, hh2⟩ hbk (hP k (by omega))
      have hop := open_lv ht hh1 (by omega : k < n)
      refine R_join C (pcm := 56) (P := fun z => ((tb k = true ∧ h < B k) ∧ (y = -1 ∨ lvF tb B P h k < y) ∧ z = lvF tb B P h k) ∨ (¬ ((tb k = true ∧ h < B k) ∧ (y = -1 ∨ lvF tb B P h k < y)) ∧ z = y)) (fun hj => ?_) (fun z1 hz1 => ?_)
      · refine R_aload_n C dX10_share_20 rfl ?_
        refine R_iload C dX10_share_21 rfl ?_
        refine R_callVz C (As := [_]) (c_X10_isOpen hl (M := bp M B (lvF tb B P h)) hO (k := k) hk2 (show rng (lvF tb B P h k) by omega) (show rng (B k) by omega)) kX10_231 rfl rfl (Nat.le_of_ble_eq_true rfl) ⟨by decide, by decide⟩ ⟨Nat.le_refl _, Nat.le_refl _⟩ dX10_share_23 (fun z23 hz23 => ?_)
        change (z23 = 1 ∧ (svd M k ∧ 1400 ≤ lvF tb B P h k ∧ lvF tb B P h k < B k)) ∨ (z23 = 0 ∧ ¬ (svd M k ∧ 1400 ≤ lvF tb B P h k ∧ lvF tb B P h k < B k)) at hz23
        rw [hop] at hz23
        refine R_if_eq C dX10_share_26 (by omega) (fun h26 => ?_) (fun h26 => ?_)
        · refine R_iload_n C dX10_share_55 rfl ?_
          exact hj _ (by clear ih ih1 hop; grind)
        · refine R_iload_n C dX10_share_29 rfl ?_
          refine R_iconst C dX10_share_30 ?_
          refine R_icmp_eq C dX10_share_31 (by omega) (by decide) (fun h31 => ?_) (fun h31 => ?_)
          · refine R_aload_n C dX10_share_45 rfl ?_
            refine R_getA C cl11 fX10_135 (by decide) dX10_share_46 ?_
            refine R_iload C dX10_share_49 rfl ?_
            refine R_iald C (j := k) (kf := 49) rfl (show k < 40 by omega) rfl (x := lvF tb B P h k) rfl dX10_share_51 ?_
            refine R_goto C dX10_share_52 ?_
            exact hj _ (by clear ih ih1 hop; grind)
          · refine R_aload_n C dX10_share_34 rfl ?_
            refine R_getA C cl11 fX10_135 (by decide) dX10_share_35 ?_
            refine R_iload C dX10_share_38 rfl ?_
            refine R_iald C (j := k) (kf := 49) rfl (show k < 40 by omega) rfl (x := lvF tb B P h k) rfl dX10_share_40 ?_
            refine R_iload_n C dX10_share_41 rfl ?_
            refine R_icmp_ge C dX10_share_42 (by omega) (by omega) (fun h42 => ?_) (fun h42 => ?_)
            · refine R_iload_n C dX10_share_55 rfl ?_
              exact hj _ (by clear ih ih1 hop; grind)
            · refine R_aload_n C dX10_share_45 rfl ?_
              refine R_getA C cl11 fX10_135 (by decide) dX10_share_46 ?_
              refine R_iload C dX10_share_49 rfl ?_
              refine R_iald C (j := k) (kf := 49) rfl (show k < 40 by omega) rfl (x := lvF tb B P h k) rfl dX10_share_51 ?_
              refine R_goto C dX10_share_52 ?_
              exact hj _ (by clear ih ih1 hop; grind)
      refine R_istore_n C dX10_share_56 (by decide) rfl ?_
      refine R_iinc C dX10_share_57 (by decide) rfl rfl ?_
      refine R_goto C dX10_share_60 ?_
      exact ih1 (k + 1, z1) ⟨by show k + 1 ≤ n; omega, lsI_up hls hh1 (by rcases hz1 with ⟨a1, a2, a3⟩ | ⟨a1, a2⟩; rw [lv_open a1] at a2 a3; exact Or.inl ⟨a1, a2, a3⟩; exact Or.inr ⟨fun z => a1 ⟨z.1, by rw [lv_open z.1]; exact z.2⟩, a2⟩)⟩ (by show 41 - (k + 1) < 41 - k; omega)
end REF5
