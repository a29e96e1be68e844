/-! the reference: bookings -/
def bkM (M : Mo) (c a f t : Nat → Int) : Mo := setR (setR (setR (setR M 26 c) 27 a) 28 f) 29 t
theorem bkM_self (M : Mo) : bkM M (M.2 26) (M.2 27) (M.2 28) (M.2 29) = M := by
  unfold bkM setR
  refine Prod.ext rfl ?_
  funext j
  dsimp only
  repeat' split
  all_goals simp_all
theorem bkM_bkM (M : Mo) (c a f t c2 a2 f2 t2 : Nat → Int) : bkM (bkM M c a f t) c2 a2 f2 t2 = bkM M c2 a2 f2 t2 := by
  unfold bkM setR
  refine Prod.ext rfl ?_
  funext j
  dsimp only
  repeat' split
  all_goals simp_all
theorem setA_26 (M : Mo) (c a f t : Nat → Int) (k : Nat) (v : Int) : setA (bkM M c a f t) 26 k v = bkM M (fun i => if i = k then v else c i) a f t := by
  unfold bkM setR setA
  refine Prod.ext rfl ?_
  funext j x
  dsimp only
  by_cases h : j = 26
  · subst h; simp
  · rw [if_neg h]
    repeat' split
    all_goals simp_all
theorem setA_27 (M : Mo) (c a f t : Nat → Int) (k : Nat) (v : Int) : setA (bkM M c a f t) 27 k v = bkM M c (fun i => if i = k then v else a i) f t := by
  unfold bkM setR setA
  refine Prod.ext rfl ?_
  funext j x
  dsimp only
  by_cases h : j = 27
  · subst h; simp
  · rw [if_neg h]
    repeat' split
    all_goals simp_all
theorem setA_28 (M : Mo) (c a f t : Nat → Int) (k : Nat) (v : Int) : setA (bkM M c a f t) 28 k v = bkM M c a (fun i => if i = k then v else f i) t := by
  unfold bkM setR setA
  refine Prod.ext rfl ?_
  funext j x
  dsimp only
  by_cases h : j = 28
  · subst h; simp
  · rw [if_neg h]
    repeat' split
    all_goals simp_all
theorem setA_29 (M : Mo) (c a f t : Nat → Int) (k : Nat) (v : Int) : setA (bkM M c a f t) 29 k v = bkM M c a f (fun i => if i = k then v else t i) := by
  unfold bkM setR setA
  refine Prod.ext rfl ?_
  funext j x
  dsimp only
  by_cases h : j = 29
  · subst h; simp
  · rw [if_neg h]
    repeat' split
    all_goals simp_all
/-- one place is shifted out -/
def shB (a : Nat → Int) (lo hi i : Nat) : Int := if lo ≤ i ∧ i < hi then a (i + 1) else a i
theorem shB_0 (a : Nat → Int) (lo : Nat) : shB a lo lo = a := by
  funext i
  unfold shB
  rw [if_neg (by omega)]
theorem shB_1 (a : Nat → Int) {lo k : Nat} (h : lo ≤ k) : (fun i => if i = k then a (k + 1) else shB a lo k i) = shB a lo (k + 1) := by
  funext i
  unfold shB
  by_cases e : i = k
  · subst e
    rw [if_pos rfl, if_pos (by omega)]
  · rw [if_neg e]
    have e2 : (lo ≤ i ∧ i < k + 1) ↔ (lo ≤ i ∧ i < k) := by omega
    simp only [e2]
/-- a socket's bookings -/
def blF (c a f t : Nat → Int) (s : Nat) : List (Int × Int × Int) := (List.range (c s).toNat).map fun i => (a (1500 * s + i), f (1500 * s + i), t (1500 * s + i))
def bkL (M : Mo) (s : Nat) : List (Int × Int × Int) := blF (M.2 26) (M.2 27) (M.2 28) (M.2 29) s
theorem blF_get {c a f t : Nat → Int} {s i : Nat} (h : (i : Int) < c s) : (blF c a f t s)[i]? = some (a (1500 * s + i), f (1500 * s + i), t (1500 * s + i)) := by
  unfold blF
  rw [List.getElem?_map, List.getElem?_range (by omega)]
  rfl
theorem blF_len (c a f t : Nat → Int) (s : Nat) : (blF c a f t s).length = (c s).toNat := by simp [blF]
def goC (c : Nat → Int) (s : Nat) : Nat → Int := fun u => if u = s then c s - 1 else c u
def goA (c a : Nat → Int) (s p : Nat) : Nat → Int := shB a (1500 * s + p) (1500 * s + (c s).toNat - 1)
theorem go_this {c a f t : Nat → Int} {s p : Nat} (hp : (p : Int) < c s) : blF (goC c s) (goA c a s p) (goA c f s p) (goA c t s p) s = (blF c a f t s).eraseIdx p := by
  have hc : goC c s s = c s - 1 := if_pos rfl
  refine List.ext_getElem? fun i => ?_
  rw [List.getElem?_eraseIdx]
  by_cases hi : (i : Int) < c s - 1
  · rw [blF_get (by rw [hc]; exact hi)]
    unfold goA shB
    by_cases h2 : i < p
    · rw [if_pos h2, blF_get (by omega), if_neg (by omega), if_neg (by omega), if_neg (by omega)]
    · rw [if_neg h2, blF_get (by omega), if_pos (by omega), if_pos (by omega), if_pos (by omega)]
      rfl
  · rw [List.getElem?_eq_none (by rw [blF_len, hc]; omega)]
    split
    · omega
    · rw [List.getElem?_eq_none (by rw [blF_len]; omega)]
theorem go_that {c a f t : Nat → Int} {s p u : Nat} (hu : u ≠ s) (hc : c u ≤ 1500) (hs : c s ≤ 1500) : blF (goC c s) (goA c a s p) (goA c f s p) (goA c t s p) u = blF c a f t u := by
  have hcu : goC c s u = c u := if_neg hu
  unfold blF
  rw [hcu]
  refine List.map_congr_left fun i hi => ?_
  have hi2 := List.mem_range.mp hi
  unfold goA shB
  rw [if_neg (by omega), if_neg (by omega), if_neg (by omega)]
theorem take_erase {α : Type} (l r : List α) (k : Nat) (hk : k < l.length) : (l.take (k + 1) ++ r).eraseIdx k = l.take k ++ r := by
  rw [List.eraseIdx_append_of_lt_length (by rw [List.length_take]; omega)]
  congr 1
  rw [List.eraseIdx_eq_take_drop_succ, List.take_take, Nat.min_eq_left (by omega), List.drop_take]
  simp
section REF7
variable {l : Launch} {D : va_G} {kA : Nat → ClassId} {b t0 mo : Nat} {ad : Nat → Nat} {M : Mo}

set_option maxRecDepth 20000 in
theorem c_X10_goes (hl : l.stackTraces = false) {c a f t : Nat → Int} {s pl : Nat} (hs : s < 8) (hp : (pl : Int) < c s) (hc : c s ≤ 1500) {z y : Int} (hz : z = (s : Int)) (hy : y = (pl : Int)) : Cr l D kA b t0 mo ad yX10_goes cX10_goes 5 none 0 0 [rv (some mo), iv z, iv y] (bkM M c a f t) (fun v M2 => M2 = bkM M (goC c s) (goA c a s pl) (goA c f s pl) (goA c t s pl) ∧ v = none) := by
  refine Cr_mk hl (by decide) (Nat.le_of_ble_eq_true rfl) rfl ?_
  intro X0 p e s9 m args below meth c9 C hr
  subst hz hy
  refine R_sipush C dX10_goes_0 (by decide) ?_
  refine R_iload_n C dX10_goes_3 rfl ?_
  refine R_imul C dX10_goes_4 ?_
  refine R_aload_n C dX10_goes_5 rfl ?_
  refine R_getA C cl11 fX10_69 (by decide) dX10_goes_6 ?_
  refine R_iload_n C dX10_goes_9 rfl ?_
  refine R_iald C (j := s) (kf := 26) rfl (show s < 8 by omega) rfl (x := c s) rfl dX10_goes_10 ?_
  refine R_iadd C dX10_goes_11 ?_
  refine R_iconst C dX10_goes_12 ?_
  refine R_isub C dX10_goes_13 ?_
  refine R_istore_n C dX10_goes_14 (by decide) rfl ?_
  refine R_sipush C dX10_goes_15 (by decide) ?_
  refine R_iload_n C dX10_goes_18 rfl ?_
  refine R_imul C dX10_goes_19 ?_
  refine R_iload_n C dX10_goes_20 rfl ?_
  refine R_iadd C dX10_goes_21 ?_
  refine R_istore C dX10_goes_22 (by decide) rfl ?_
  refine R_while C (St := Nat) (f := fun x => bkM M c (shB a (1500 * s + pl) x) (shB f (1500 * s + pl) x) (shB t (1500 * s + pl) x)) (g := fun x => [some (rv (some mo)), some (iv (s : Int)), some (iv (pl : Int)), some (iv (1500 * (s : Int) + c s - 1)), some (iv (x : Int))]) (μ := fun x => 1500 * s + (c s).toNat - x) (I := fun x => 1500 * s + pl ≤ x ∧ (x : Int) ≤ 1500 * (s : Int) + c s - 1) (x0 := 1500 * s + pl) (by rw [shB_0, shB_0, shB_0]) (by show [_, _, _, _, some (iv ((1500 * s + pl : Nat) : Int))] = _; rw [show ((1500 * s + pl : Nat) : Int) = 1500 * (s : Int) + (pl : Int) by omega]; rfl) ⟨Nat.le_refl _, by omega⟩ ?_
  rintro j ⟨hj, hj2⟩ ih
  have sh1 : ∀ g : Nat → Int, shB g (1500 * s + pl) j (j + 1) = g (j + 1) := fun g => by unfold shB; rw [if_neg (by omega)]
  refine R_iload C dX10_goes_24 rfl ?_
  refine R_iload_n C dX10_goes_26 rfl ?_
  refine R_icmp_ge C dX10_goes_27 (by omega) (by omega) (fun h27 => ?_) (fun h27 => ?_)
  · have ej : j = 1500 * s + (c s).toNat - 1 := by omega
    subst ej
    refine R_aload_n C dX10_goes_84 rfl ?_
    refine R_getA C cl11 fX10_69 (by decide) dX10_goes_85 ?_
    refine R_iload_n C dX10_goes_88 rfl ?_
    refine R_dup2 C dX10_goes_89 rfl rfl ?_
    refine R_iald C (j := s) (kf := 26) rfl (show s < 8 by omega) rfl (x := c s) rfl dX10_goes_90 ?_
    refine R_iconst C dX10_goes_91 ?_
    refine R_isub C dX10_goes_92 ?_
    refine R_iast C (j := s) (kf := 26) rfl (show s < 8 by omega) rfl dX10_goes_93 ?_
    exact R_vret C ⟨by rw [setA_26]; rfl, rfl⟩ hr dX10_goes_94
  · refine R_aload_n C dX10_goes_30 rfl ?_
    refine R_getA C cl11 fX10_72 (by decide) dX10_goes_31 ?_
    refine R_iload C dX10_goes_34 rfl ?_
    refine R_aload_n C dX10_goes_36 rfl ?_
    refine R_getA C cl11 fX10_72 (by decide) dX10_goes_37 ?_
    refine R_iload C dX10_goes_40 rfl ?_
    refine R_iconst C dX10_goes_42 ?_
    refine R_iadd C dX10_goes_43 ?_
    refine R_iald C (j := (j + 1)) (kf := 27) rfl (show (j + 1) < 12000 by omega) (by omega) (x := a (j + 1)) (sh1 a) dX10_goes_44 ?_
    refine R_iast C (j := j) (kf := 27) rfl (show j < 12000 by omega) rfl dX10_goes_45 ?_
    rw [setA_27, shB_1 a hj]
    refine R_aload_n C dX10_goes_46 rfl ?_
    refine R_getA C cl11 fX10_75 (by decide) dX10_goes_47 ?_
    refine R_iload C dX10_goes_50 rfl ?_
    refine R_aload_n C dX10_goes_52 rfl ?_
    refine R_getA C cl11 fX10_75 (by decide) dX10_goes_53 ?_
    refine R_iload C dX10_goes_56 rfl ?_
    refine R_iconst C dX10_goes_58 ?_
    refine R_iadd C dX10_goes_59 ?_
    refine R_iald C (j := (j + 1)) (kf := 28) rfl (show (j + 1) < 12000 by omega) (by omega) (x := f (j + 1)) (sh1 f) dX10_goes_60 ?_
    refine R_iast C (j := j) (kf := 28) rfl (show j < 12000 by omega) rfl dX10_goes_61 ?_
    rw [setA_28, shB_1 f hj]
    refine R_aload_n C dX10_goes_62 rfl ?_
    refine R_getA C cl11 fX10_78 (by decide) dX10_goes_63 ?_
    refine R_iload C dX10_goes_66 rfl ?_
    refine R_aload_n C dX10_goes_68 rfl ?_
    refine R_getA C cl11 fX10_78 (by decide) dX10_goes_69 ?_
    refine R_iload C dX10_goes_72 rfl ?_
    refine R_iconst C dX10_goes_74 ?_
    refine R_iadd C dX10_goes_75 ?_
    refine R_iald C (j := (j + 1)) (kf := 29) rfl (show (j + 1) < 12000 by omega) (by omega) (x := t (j + 1)) (sh1 t) dX10_goes_76 ?_
    refine R_iast C (j := j) (kf := 29) rfl (show j < 12000 by omega) rfl dX10_goes_77 ?_
    rw [setA_29, shB_1 t hj]
    refine R_iinc C dX10_goes_78 (by decide) rfl rfl ?_
    refine R_goto C dX10_goes_81 ?_
    exact ih (j + 1) ⟨by omega, by omega⟩ (by omega)
theorem filt_step {α : Type} (L : List α) (kp : α → Bool) {i : Nat} {x : α} (h : L[i]? = some x) : (L.drop i).filter kp = if kp x = true then x :: (L.drop (i + 1)).filter kp else (L.drop (i + 1)).filter kp := by
  obtain ⟨hl, hx⟩ := List.getElem?_eq_some_iff.mp h
  rw [List.drop_eq_getElem_cons hl, hx, List.filter_cons]
theorem take_step {α : Type} (L r : List α) {i : Nat} {x : α} (h : L[i]? = some x) : L.take (i + 1) ++ r = L.take i ++ (x :: r) := by
  obtain ⟨hl, hx⟩ := List.getElem?_eq_some_iff.mp h
  rw [List.take_add_one, h, List.append_assoc]
  rfl
def keepB (now : Int) (q : Int × Int × Int) : Bool := decide (now < q.2.1 + 15)
/-- bookings that are late have gone, of the sockets below s -/
def lateI (now : Int) (c a f t c2 a2 f2 t2 : Nat → Int) (s : Nat) : Prop := ∀ u : Nat, u < 8 → (0 ≤ c2 u ∧ c2 u ≤ c u) ∧ (u < s → blF c2 a2 f2 t2 u = (blF c a f t u).filter (keepB now)) ∧ (s ≤ u → blF c2 a2 f2 t2 u = blF c a f t u)
set_option maxRecDepth 20000 in
theorem c_X10_lateGo (hl : l.stackTraces = false) {c a f t : Nat → Int} (h6 : 0 ≤ M.1 6 ∧ M.1 6 ≤ 8) (hn : 0 ≤ M.1 1 ∧ M.1 1 ≤ 20000) (hc : ∀ u, u < 8 → 0 ≤ c u ∧ c u ≤ 512) (hf : ∀ u : Nat, (u : Int) < M.1 6 → ∀ q ∈ blF c a f t u, 0 ≤ q.2.1 ∧ q.2.1 ≤ 20000) : Cr l D kA b t0 mo ad yX10_lateGo cX10_lateGo 3 none 1 24 [rv (some mo)] (bkM M c a f t) (fun v M2 => ∃ c2 a2 f2 t2, M2 = bkM M c2 a2 f2 t2 ∧ v = none ∧ lateI (M.1 1) c a f t c2 a2 f2 t2 (M.1 6).toNat) := by
  refine Cr_mk hl (by decide) (Nat.le_of_ble_eq_true rfl) rfl ?_
  intro X0 p e s9 m args below meth c9 C hr
  refine R_iconst C dX10_lateGo_0 ?_
  refine R_istore_n C dX10_lateGo_1 (by decide) rfl ?_
  refine R_while C (St := Nat × (Nat → Int) × (Nat → Int) × (Nat → Int) × (Nat → Int) × Option Value) (f := fun x => bkM M x.2.1 x.2.2.1 x.2.2.2.1 x.2.2.2.2.1) (g := fun x => [some (rv (some mo)), some (iv (x.1 : Int)), x.2.2.2.2.2]) (μ := fun x => 9 - x.1) (I := fun x => (x.1 : Int) ≤ M.1 6 ∧ lateI (M.1 1) c a f t x.2.1 x.2.2.1 x.2.2.2.1 x.2.2.2.2.1 x.1) (x0 := (0, c, a, f, t, none)) rfl rfl ⟨by show ((0 : Nat) : Int) ≤ M.1 6; omega, fun u hu => ⟨⟨(hc u hu).1, Int.le_refl _⟩, fun z => absurd z (Nat.not_lt_zero u), fun _ => rfl⟩⟩ ?_
  rintro ⟨s, c2, a2, f2, t2, u2⟩ ⟨hs, hI⟩ ih
  dsimp only at hs hI ih ⊢
  refine R_iload_n C dX10_lateGo_2 rfl ?_
  refine R_aload_n C dX10_lateGo_3 rfl ?_
  refine R_getS C cl11 fX10_145 (x := M.1 6) rfl (by decide) dX10_lateGo_4 ?_
  refine R_icmp_ge C dX10_lateGo_7 (by omega) (by omega) (fun h7 => ?_) (fun h7 => ?_)
  · exact R_vret C ⟨c2, a2, f2, t2, rfl, rfl, by have es : (M.1 6).toNat = s := (by omega); rw [es]; exact hI⟩ hr dX10_lateGo_63
  · have hcs := hc s (by omega)
    have hc2 := hI s (by omega)
    have hc2s := hc2.1
    refine R_aload_n C dX10_lateGo_10 rfl ?_
    refine R_getA C cl11 fX10_69 (by decide) dX10_lateGo_11 ?_
    refine R_iload_n C dX10_lateGo_14 rfl ?_
    refine R_iald C (j := s) (kf := 26) rfl (show s < 8 by omega) rfl (x := c2 s) rfl dX10_lateGo_15 ?_
    refine R_iconst C dX10_lateGo_16 ?_
    refine R_isub C dX10_lateGo_17 ?_
    refine R_istore_n C dX10_lateGo_18 (by decide) rfl ?_
    obtain ⟨L0, hL0⟩ : ∃ L0, L0 = blF c a f t s := ⟨_, rfl⟩
    have hB0 : blF c2 a2 f2 t2 s = L0 := by rw [hL0]; exact hc2.2.2 (Nat.le_refl s)
    have hlen : (L0.length : Int) = c2 s := by rw [← hB0, blF_len]; omega
    refine R_while C (St := Int × (Nat → Int) × (Nat → Int) × (Nat → Int) × (Nat → Int)) (f := fun x => bkM M x.2.1 x.2.2.1 x.2.2.2.1 x.2.2.2.2) (g := fun x => [some (rv (some mo)), some (iv (s : Int)), some (iv x.1)]) (μ := fun x => (x.1 + 1).toNat) (I := fun x => -1 ≤ x.1 ∧ x.1 < c2 s ∧ x.1 + 1 ≤ x.2.1 s ∧ x.2.1 s ≤ c2 s ∧ blF x.2.1 x.2.2.1 x.2.2.2.1 x.2.2.2.2 s = L0.take (x.1 + 1).toNat ++ (L0.drop (x.1 + 1).toNat).filter (keepB (M.1 1)) ∧ ∀ u, u ≠ s → u < 8 → x.2.1 u = c2 u ∧ blF x.2.1 x.2.2.1 x.2.2.2.1 x.2.2.2.2 u = blF c2 a2 f2 t2 u) (x0 := (c2 s - 1, c2, a2, f2, t2)) rfl rfl ⟨by show -1 ≤ c2 s - 1; omega, by show c2 s - 1 < c2 s; omega, by show c2 s - 1 + 1 ≤ c2 s; omega, Int.le_refl _, by show _ = L0.take (c2 s - 1 + 1).toNat ++ (L0.drop (c2 s - 1 + 1).toNat).filter (keepB (M.1 1)); rw [List.take_of_length_le (by omega), List.drop_of_length_le (by omega), List.filter_nil, List.append_nil]; exact hB0, fun u _ _ => ⟨rfl, rfl⟩⟩ ?_
    rintro ⟨y, c3, a3, f3, t3⟩ ⟨hy1, hy2, hy3, hy4, hy5, hy6⟩ ih2
    dsimp only at hy1 hy2 hy3 hy4 hy5 hy6 ih2 ⊢
    refine R_iload_n C dX10_lateGo_19 rfl ?_
    refine R_if_lt C dX10_lateGo_20 (by omega) (fun h20 => ?_) (fun h20 => ?_)
    · refine R_iinc C dX10_lateGo_57 (by decide) rfl rfl ?_
      refine R_goto C dX10_lateGo_60 ?_
      have ey : y = -1 := by omega
      subst ey
      refine ih (s + 1, c3, a3, f3, t3, _) ⟨by show ((s + 1 : Nat) : Int) ≤ M.1 6; omega, fun u hu => ?_⟩ (by show 9 - (s + 1) < 9 - s; omega)
      have h7 := hI u hu
      dsimp only
      by_cases e : u = s
      · subst e
        refine ⟨⟨by omega, by omega⟩, fun _ => ?_, fun z => absurd z (by omega)⟩
        rw [hy5, hL0]
        simp
      · have h6 := hy6 u e hu
        rw [h6.1, h6.2]
        exact ⟨h7.1, fun z => h7.2.1 (by omega), fun z => h7.2.2 (by omega)⟩
    · obtain ⟨i, rfl⟩ : ∃ i : Nat, y = (i : Int) := ⟨y.toNat, by omega⟩
      rw [show ((i : Int) + 1).toNat = i + 1 by omega] at hy5
      obtain ⟨x, hx⟩ : ∃ x, L0[i]? = some x := ⟨L0[i]'(by omega), List.getElem?_eq_getElem _⟩
      have hx3 : (blF c3 a3 f3 t3 s)[i]? = some x := by rw [hy5, List.getElem?_append_left (by rw [List.length_take]; omega), List.getElem?_take]; rw [if_pos (by omega)]; exact hx
      rw [blF_get (by omega)] at hx3
      have hxf : f3 (1500 * s + i) = x.2.1 := by rw [← Option.some.inj hx3]
      have hxr : 0 ≤ x.2.1 ∧ x.2.1 ≤ 20000 := hf s (by omega) x (by rw [← hL0]; exact List.mem_of_getElem? hx)
      have e1 := filt_step L0 (keepB (M.1 1)) hx
      have hc3 : c3 s ≤ 512 := by omega
      refine R_aload_n C dX10_lateGo_23 rfl ?_
      refine R_getA C cl11 fX10_75 (by decide) dX10_lateGo_24 ?_
      refine R_sipush C dX10_lateGo_27 (by decide) ?_
      refine R_iload_n C dX10_lateGo_30 rfl ?_
      refine R_imul C dX10_lateGo_31 ?_
      refine R_iload_n C dX10_lateGo_32 rfl ?_
      refine R_iadd C dX10_lateGo_33 ?_
      refine R_iald C (j := ((1500 * s) + i)) (kf := 28) rfl (show ((1500 * s) + i) < 12000 by omega) (by omega) (x := x.2.1) hxf dX10_lateGo_34 ?_
      refine R_bipush C dX10_lateGo_35 (by decide) ?_
      refine R_iadd C dX10_lateGo_37 ?_
      refine R_aload_n C dX10_lateGo_38 rfl ?_
      refine R_getS C cl11 fX10_188 (x := M.1 1) rfl (by decide) dX10_lateGo_39 ?_
      refine R_icmp_gt C dX10_lateGo_42 (by omega) (by omega) (fun h42 => ?_) (fun h42 => ?_)
      · refine R_iinc C dX10_lateGo_51 (by decide) rfl rfl ?_
        refine R_goto C dX10_lateGo_54 ?_
        refine ih2 ((i : Int) + -1, c3, a3, f3, t3) ⟨by show -1 ≤ (i : Int) + -1; omega, by show (i : Int) + -1 < c2 s; omega, by show (i : Int) + -1 + 1 ≤ c3 s; omega, hy4, ?_, hy6⟩ (by show ((i : Int) + -1 + 1).toNat < ((i : Int) + 1).toNat; omega)
        show blF c3 a3 f3 t3 s = L0.take ((i : Int) + -1 + 1).toNat ++ (L0.drop ((i : Int) + -1 + 1).toNat).filter (keepB (M.1 1))
        rw [show ((i : Int) + -1 + 1).toNat = i by omega, hy5, e1, if_pos (by unfold keepB; exact decide_eq_true (by omega))]
        exact take_step L0 _ hx
      · refine R_aload_n C dX10_lateGo_45 rfl ?_
        refine R_iload_n C dX10_lateGo_46 rfl ?_
        refine R_iload_n C dX10_lateGo_47 rfl ?_
        refine R_callVv C (As := [_, _]) (c_X10_goes hl (M := M) (c := c3) (a := a3) (f := f3) (t := t3) (s := s) (pl := i) (by omega) (by omega) (by omega) rfl rfl) kX10_191 rfl rfl (Nat.le_of_ble_eq_true rfl) ⟨by decide, by decide⟩ ⟨Nat.le_refl _, Nat.le_refl _⟩ dX10_lateGo_48 ?_
        refine R_iinc C dX10_lateGo_51 (by decide) rfl rfl ?_
        refine R_goto C dX10_lateGo_54 ?_
        refine ih2 ((i : Int) + -1, goC c3 s, goA c3 a3 s i, goA c3 f3 s i, goA c3 t3 s i) ⟨by show -1 ≤ (i : Int) + -1; omega, by show (i : Int) + -1 < c2 s; omega, ?_, ?_, ?_, fun u hu hu8 => ?_⟩ (by show ((i : Int) + -1 + 1).toNat < ((i : Int) + 1).toNat; omega)
        · show (i : Int) + -1 + 1 ≤ goC c3 s s
          rw [show goC c3 s s = c3 s - 1 from if_pos rfl]
          omega
        · show goC c3 s s ≤ c2 s
          rw [show goC c3 s s = c3 s - 1 from if_pos rfl]
          omega
        · show blF (goC c3 s) (goA c3 a3 s i) (goA c3 f3 s i) (goA c3 t3 s i) s = L0.take ((i : Int) + -1 + 1).toNat ++ (L0.drop ((i : Int) + -1 + 1).toNat).filter (keepB (M.1 1))
          rw [show ((i : Int) + -1 + 1).toNat = i by omega, go_this (by omega), hy5, e1, if_neg (by unfold keepB; intro z; have := of_decide_eq_true z; omega)]
          exact take_erase L0 _ i (by omega)
        · have h6 := hy6 u hu hu8
          have h7 := hI u hu8
          have h8 := hc u hu8
          refine ⟨(if_neg hu).trans h6.1, ?_⟩
          show blF (goC c3 s) (goA c3 a3 s i) (goA c3 f3 s i) (goA c3 t3 s i) u = _
          rw [go_that hu (by omega) (by omega)]
          exact h6.2
end REF7
