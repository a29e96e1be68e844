/-! the reference: the other calls -/
def awyM (M : Mo) (n : Nat) (z : Int) : Prop := ∃ k, k < n ∧ M.2 34 k = 1 ∧ M.2 32 k = z
def hldM (M : Mo) (s : Nat) (r : Int) : Prop := (r = -1 ∧ ∀ i : Nat, (i : Int) < M.2 26 s → M.1 1 < M.2 28 (1500 * s + i)) ∨ (0 ≤ r ∧ r < M.2 26 s ∧ M.2 28 (1500 * s + r.toNat) ≤ M.1 1 ∧ ∀ i : Nat, (i : Int) < r → M.1 1 < M.2 28 (1500 * s + i))
def powS (M : Mo) (n : Nat) (z : Int) : Mo × Int := if 0 ≤ z ∧ z < M.1 30 then (setS (bp M (BM M n) (powM M n)) 0 0, powM M n z.toNat) else (stp M 1, 0)
theorem srvTo_S (M : Mo) (v : Int) (n : Nat) (B : Nat → Int) (g : Int) (c : Nat) (s : (Nat → Int) × Int) : srvTo (setS M 0 v) n B g c s = srvTo M n B g c s := by
  induction c with
  | zero => rfl
  | succ c ih =>
    show srvAt (setS M 0 v) n B g c (srvTo (setS M 0 v) n B g c s) = srvAt M n B g c (srvTo M n B g c s)
    rw [ih]
    rfl
theorem powM_S (M : Mo) (v : Int) (n : Nat) : powM (setS M 0 v) n = powM M n := by
  have h1 : s1M (setS M 0 v) n = s1M M n := srvTo_S M v n _ 1 256 _
  have h2 : s2M (setS M 0 v) n = s2M M n := by
    show srvTo (setS M 0 v) n (BM M n) 0 256 (s1M (setS M 0 v) n) = _
    rw [h1, srvTo_S]
    rfl
  have h3 : tbM (setS M 0 v) n = tbM M n := by
    funext k
    unfold tbM
    rw [h2]
    rfl
  unfold powM
  rw [h2, h3]
  rfl
theorem sumF_step (f : Nat → Int) (n : Nat) : sumF f (n + 1) = sumF f n + f n := rfl
/-- hearing all sessions of a socket -/
def hrM (M : Mo) (z : Int) : Nat → Mo
  | 0 => M
  | k + 1 => if M.2 31 k = z then hearM (hrM M z k) k else hrM M z k
def hrN (M : Mo) (z : Int) (k : Nat) : Int := sumF (fun k => if M.2 31 k = z then M.2 37 k - M.2 38 k else 0) k
theorem hearM_st (M : Mo) (k : Nat) : (hearM M k).1 = M.1 ∧ (∀ j, j = 24 ∨ j = 33 ∨ j = 18 ∨ j = 31 ∨ j = 7 ∨ j = 39 ∨ j = 40 ∨ j = 41 ∨ j = 37 → (hearM M k).2 j = M.2 j) ∧ (∀ i, i ≠ k → (hearM M k).2 34 i = M.2 34 i) ∧ ∀ i, i ≠ k → (hearM M k).2 38 i = M.2 38 i := by
  unfold hearM payM oweM heardM
  refine ⟨by split <;> rfl, fun j hj => ?_, fun i hi => ?_, fun i hi => ?_⟩
  · rcases hj with rfl | rfl | rfl | rfl | rfl | rfl | rfl | rfl | rfl <;> split <;> rfl
  · split <;> simp [setA, hi]
  · split <;> simp [setA, hi]
theorem hrM_st (M : Mo) (z : Int) (k : Nat) : (hrM M z k).1 = M.1 ∧ (∀ j, j = 24 ∨ j = 33 ∨ j = 18 ∨ j = 31 ∨ j = 7 ∨ j = 39 ∨ j = 40 ∨ j = 41 ∨ j = 37 → (hrM M z k).2 j = M.2 j) ∧ (∀ i, k ≤ i → (hrM M z k).2 34 i = M.2 34 i) ∧ ∀ i, k ≤ i → (hrM M z k).2 38 i = M.2 38 i := by
  induction k with
  | zero => exact ⟨rfl, fun _ _ => rfl, fun _ _ => rfl, fun _ _ => rfl⟩
  | succ k ih =>
    obtain ⟨h1, h2, h3, h4⟩ := ih
    obtain ⟨g1, g2, g3, g4⟩ := hearM_st (hrM M z k) k
    show (if M.2 31 k = z then hearM (hrM M z k) k else hrM M z k).1 = M.1 ∧ (∀ j, _ → (if M.2 31 k = z then hearM (hrM M z k) k else hrM M z k).2 j = M.2 j) ∧ (∀ i, k + 1 ≤ i → (if M.2 31 k = z then hearM (hrM M z k) k else hrM M z k).2 34 i = M.2 34 i) ∧ ∀ i, k + 1 ≤ i → (if M.2 31 k = z then hearM (hrM M z k) k else hrM M z k).2 38 i = M.2 38 i
    split
    · exact ⟨g1.trans h1, fun j hj => (g2 j hj).trans (h2 j hj), fun i hi => (g3 i (by omega)).trans (h3 i (by omega)), fun i hi => (g4 i (by omega)).trans (h4 i (by omega))⟩
    · exact ⟨h1, h2, fun i hi => h3 i (by omega), fun i hi => h4 i (by omega)⟩
def linS (M : Mo) (n : Nat) (z u : Int) : Mo × Int :=
  if 0 ≤ z ∧ z < M.1 6 then (if u = M.2 10 z.toNat then (if u = 1 then (hrM (setA (setS M 0 0) 10 z.toNat 0) z n, hrN M z n) else ((if M.2 12 z.toNat = -1 then setA (setA (setS M 0 0) 10 z.toNat 1) 11 z.toNat (M.1 1) else setA (setA (setA (setS M 0 0) 10 z.toNat 1) 11 z.toNat (M.1 1)) 45 (M.2 12 z.toNat).toNat (M.2 36 (M.2 12 z.toNat).toNat)), 0)) else (setS M 0 0, 0)) else (stp M 1, 0)
def canM (M : Mo) (s c : Nat) (f mi : Int) (k : Nat) : Prop := M.2 20 c = 1 ∧ ∀ i, i < k → M.2 29 (1500 * s + i) ≤ f ∨ f + mi ≤ M.2 28 (1500 * s + i)
def booM (M : Mo) (s : Nat) (c f mi : Int) : Mo := setA (setA (setA (setA (setS M 0 0) 27 (1500 * s + (M.2 26 s).toNat) c) 28 (1500 * s + (M.2 26 s).toNat) f) 29 (1500 * s + (M.2 26 s).toNat) (f + mi)) 26 s (M.2 26 s + 1)
/-- what booking does -/
def booP (M : Mo) (z c f mi : Int) (M2 : Mo) (r : Int) : Prop :=
  (¬ ((0 ≤ z ∧ z < M.1 6) ∧ (0 ≤ c ∧ c < M.1 17)) ∧ M2 = stp M 1 ∧ r = 0) ∨
  (((0 ≤ z ∧ z < M.1 6) ∧ (0 ≤ c ∧ c < M.1 17)) ∧ ¬ ((M.1 1 ≤ f ∧ f ≤ 20000) ∧ (15 ≤ mi ∧ mi ≤ 600)) ∧ M2 = stp M 2 ∧ r = 0) ∨
  (((0 ≤ z ∧ z < M.1 6) ∧ (0 ≤ c ∧ c < M.1 17)) ∧ ((M.1 1 ≤ f ∧ f ≤ 20000) ∧ (15 ≤ mi ∧ mi ≤ 600)) ∧ ¬ canM M z.toNat c.toNat f mi (M.2 26 z.toNat).toNat ∧ M2 = stp M 3 ∧ r = 0) ∨
  (((0 ≤ z ∧ z < M.1 6) ∧ (0 ≤ c ∧ c < M.1 17)) ∧ ((M.1 1 ≤ f ∧ f ≤ 20000) ∧ (15 ≤ mi ∧ mi ≤ 600)) ∧ canM M z.toNat c.toNat f mi (M.2 26 z.toNat).toNat ∧ M2 = booM M z.toNat c f mi ∧ r = M.2 26 z.toNat + 1)
def passN (n : Nat) : Nat → Mo → Mo → Prop
  | 0, M, M2 => M2 = M
  | k + 1, M, M2 => ∃ M1, passN n k M M1 ∧ pass1 M1 n M2
section REF10
variable {l : Launch} {D : va_G} {kA : Nat → ClassId} {b t0 mo : Nat} {ad : Nat → Nat} {M : Mo}

set_option maxRecDepth 20000 in
theorem c_X10_isAway (hl : l.stackTraces = false) {n : Nat} {z9 : Int} (hO : OkM M) (hn : (n : Int) = M.1 30) (hz9 : rng z9) : Cr l D kA b t0 mo ad yX10_isAway cX10_isAway 4 (some FieldType.boolean) 0 0 [rv (some mo), iv z9] M (fun v M2 => M2 = M ∧ ∃ zz : Int, v = some (iv zz) ∧ ((zz = 1 ∧ (awyM M n z9)) ∨ (zz = 0 ∧ ¬ (awyM M n z9)))) := by
  refine Cr_mk hl (by decide) (Nat.le_of_ble_eq_true rfl) rfl ?_
  intro X0 p e s m args below meth c C hr
  have h0 := hO.1
  unfold okSc at h0
  refine R_iconst C dX10_isAway_0 ?_
  refine R_istore_n C dX10_isAway_1 (by decide) rfl ?_
  refine R_iconst C dX10_isAway_2 ?_
  refine R_istore_n C dX10_isAway_3 (by decide) rfl ?_
  refine R_while C (St := Nat × Int) (f := fun _ => M) (g := fun x => [some (rv (some mo)), some (iv z9), some (iv x.2), some (iv (x.1 : Int))]) (μ := fun x => 41 - x.1) (I := fun x => x.1 ≤ n ∧ ((x.2 = 1 ∧ awyM M x.1 z9) ∨ (x.2 = 0 ∧ ¬ awyM M x.1 z9))) (x0 := (0, 0)) rfl rfl ⟨Nat.zero_le _, Or.inr ⟨rfl, fun ⟨j, hj, _⟩ => absurd hj (Nat.not_lt_zero j)⟩⟩ ?_
  rintro ⟨k, y⟩ ⟨hk, hy⟩ ih
  dsimp only at hk hy ih ⊢
  refine R_iload_n C dX10_isAway_4 rfl ?_
  refine R_aload_n C dX10_isAway_5 rfl ?_
  refine R_getS C cl11 fX10_151 (x := M.1 30) rfl (by decide) dX10_isAway_6 ?_
  refine R_icmp_ge C dX10_isAway_9 (by omega) (by omega) (fun h9 => ?_) (fun h9 => ?_)
  · refine R_iload_n C dX10_isAway_46 rfl ?_
    exact R_zret C ⟨rfl, y, rfl, by rw [show n = k by omega]; exact hy⟩ hr (by omega) dX10_isAway_47
  · have h1 := (hO.2.2.2.2.1 k (by omega)).1
    unfold okSe at h1
    refine R_iload_n C dX10_isAway_12 rfl ?_
    refine R_join C (pcm := 38) (P := fun z => (z = 1 ∧ (M.2 34 k = 1 ∧ M.2 32 k = z9)) ∨ (z = 0 ∧ ¬ (M.2 34 k = 1 ∧ M.2 32 k = z9))) (fun hj => ?_) (fun z1 hz1 => ?_)
    · refine R_aload_n C dX10_isAway_13 rfl ?_
      refine R_getA C cl11 fX10_90 (by decide) dX10_isAway_14 ?_
      refine R_iload_n C dX10_isAway_17 rfl ?_
      refine R_iald C (j := k) (kf := 34) rfl (show k < 40 by omega) rfl (x := M.2 34 k) rfl dX10_isAway_18 ?_
      refine R_iconst C dX10_isAway_19 ?_
      refine R_icmp_ne C dX10_isAway_20 (by omega) (by decide) (fun h20 => ?_) (fun h20 => ?_)
      · refine R_iconst C dX10_isAway_37 ?_
        exact hj _ (by omega)
      · refine R_aload_n C dX10_isAway_23 rfl ?_
        refine R_getA C cl11 fX10_84 (by decide) dX10_isAway_24 ?_
        refine R_iload_n C dX10_isAway_27 rfl ?_
        refine R_iald C (j := k) (kf := 32) rfl (show k < 40 by omega) rfl (x := M.2 32 k) rfl dX10_isAway_28 ?_
        refine R_iload_n C dX10_isAway_29 rfl ?_
        refine R_icmp_ne C dX10_isAway_30 (by omega) hz9 (fun h30 => ?_) (fun h30 => ?_)
        · refine R_iconst C dX10_isAway_37 ?_
          exact hj _ (by omega)
        · refine R_iconst C dX10_isAway_33 ?_
          refine R_goto C dX10_isAway_34 ?_
          exact hj _ (by omega)
    refine R_ior C dX10_isAway_38 (by first | omega | (split <;> omega)) (by first | omega | (split <;> omega)) ?_
    refine R_istore_n C dX10_isAway_39 (by decide) rfl ?_
    refine R_iinc C dX10_isAway_40 (by decide) rfl rfl ?_
    refine R_goto C dX10_isAway_43 ?_
    refine ih (k + 1, _) ⟨by show k + 1 ≤ n; omega, ?_⟩ (by show 41 - (k + 1) < 41 - k; omega)
    show ((if y = 0 then z1 else 1) = 1 ∧ _) ∨ ((if y = 0 then z1 else 1) = 0 ∧ _)
    rcases hy with ⟨rfl, j, hj, hj2⟩ | ⟨rfl, hn9⟩
    · exact Or.inl ⟨rfl, j, Nat.lt_succ_of_lt hj, hj2⟩
    · rw [if_pos rfl]
      rcases hz1 with ⟨rfl, h2⟩ | ⟨rfl, h2⟩
      · exact Or.inl ⟨rfl, k, Nat.lt_succ_self k, h2⟩
      · refine Or.inr ⟨rfl, fun ⟨j, hj, hj2⟩ => ?_⟩
        rcases Nat.lt_succ_iff_lt_or_eq.mp hj with e | rfl
        · exact hn9 ⟨j, e, hj2⟩
        · exact h2 hj2
set_option maxRecDepth 20000 in
theorem c_X10_holding (hl : l.stackTraces = false) {u : Nat} {z : Int} (hu : u < 8) (hz : z = (u : Int)) (hc : 0 ≤ M.2 26 u ∧ M.2 26 u ≤ 512) (hf : ∀ i : Nat, (i : Int) < M.2 26 u → rng (M.2 28 (1500 * u + i))) (hn : rng (M.1 1)) : Cr l D kA b t0 mo ad yX10_holding cX10_holding 3 (some FieldType.int) 0 0 [rv (some mo), iv z] M (fun v M2 => M2 = M ∧ ∃ r, v = some (iv r) ∧ hldM M u r) := by
  refine Cr_mk hl (by decide) (Nat.le_of_ble_eq_true rfl) rfl ?_
  intro X0 p e s m args below meth c C hr
  subst hz
  refine R_iconst C dX10_holding_0 ?_
  refine R_istore_n C dX10_holding_1 (by decide) rfl ?_
  refine R_while C (St := Nat) (f := fun _ => M) (g := fun x => [some (rv (some mo)), some (iv (u : Int)), some (iv (x : Int))]) (μ := fun x => 513 - x) (I := fun x => (x : Int) ≤ M.2 26 u ∧ ∀ i : Nat, i < x → M.1 1 < M.2 28 (1500 * u + i)) (x0 := 0) rfl rfl ⟨by omega, fun i hi => absurd hi (Nat.not_lt_zero i)⟩ ?_
  rintro i ⟨hi, hI⟩ ih
  try dsimp only at ih ⊢
  refine R_iload_n C dX10_holding_2 rfl ?_
  refine R_aload_n C dX10_holding_3 rfl ?_
  refine R_getA C cl11 fX10_69 (by decide) dX10_holding_4 ?_
  refine R_iload_n C dX10_holding_7 rfl ?_
  refine R_iald C (j := u) (kf := 26) rfl (show u < 8 by omega) rfl (x := M.2 26 u) rfl dX10_holding_8 ?_
  refine R_icmp_ge C dX10_holding_9 (by omega) (by omega) (fun h9 => ?_) (fun h9 => ?_)
  · refine R_iconst C dX10_holding_39 ?_
    exact R_iret C ⟨rfl, -1, rfl, Or.inl ⟨rfl, fun j hj => hI j (by omega)⟩⟩ hr dX10_holding_40
  · refine R_aload_n C dX10_holding_12 rfl ?_
    refine R_getA C cl11 fX10_75 (by decide) dX10_holding_13 ?_
    refine R_sipush C dX10_holding_16 (by decide) ?_
    refine R_iload_n C dX10_holding_19 rfl ?_
    refine R_imul C dX10_holding_20 ?_
    refine R_iload_n C dX10_holding_21 rfl ?_
    refine R_iadd C dX10_holding_22 ?_
    refine R_iald C (j := ((1500 * u) + i)) (kf := 28) rfl (show ((1500 * u) + i) < 12000 by omega) (by omega) (x := M.2 28 (((1500 * u) + i))) rfl dX10_holding_23 ?_
    refine R_aload_n C dX10_holding_24 rfl ?_
    refine R_getS C cl11 fX10_188 (x := M.1 1) rfl (by decide) dX10_holding_25 ?_
    refine R_icmp_gt C dX10_holding_28 (hf i (by omega)) (by omega) (fun h28 => ?_) (fun h28 => ?_)
    · refine R_iinc C dX10_holding_33 (by decide) rfl rfl ?_
      refine R_goto C dX10_holding_36 ?_
      exact ih (i + 1) ⟨by omega, fun j hj => by rcases Nat.lt_succ_iff_lt_or_eq.mp hj with e | rfl; exact hI j e; omega⟩ (by omega)
    · refine R_iload_n C dX10_holding_31 rfl ?_
      exact R_iret C ⟨rfl, (i : Int), rfl, Or.inr ⟨by omega, by omega, by rw [show ((i : Int)).toNat = i by omega]; omega, fun j hj => hI j (by omega)⟩⟩ hr dX10_holding_32
set_option maxRecDepth 20000 in
theorem c_X10_account (hl : l.stackTraces = false) {z9 : Int} (hz : rng z9) (hO : OkM M) : Cr l D kA b t0 mo ad yX10_account cX10_account 4 (some FieldType.int) 2 42 [rv (some mo), iv z9] M (fun v M2 => M2 = (accS M z9).1 ∧ v = some (iv (accS M z9).2)) := by
  refine Cr_mk hl (by decide) (Nat.le_of_ble_eq_true rfl) rfl ?_
  intro X0 p e s m args below meth c C hr
  have h0 := hO.1
  unfold okSc at h0
  refine R_aload_n C dX10_account_0 rfl ?_
  refine R_iconst C dX10_account_1 ?_
  refine R_putS C cl11 fX10_138 rfl (by decide) rfl dX10_account_2 ?_
  refine R_iload_n C dX10_account_5 rfl ?_
  refine R_callSz C (As := [_]) (c_X10_isFirm hl hz) kX10_154 rfl rfl (Nat.le_of_ble_eq_true rfl) ⟨by decide, by decide⟩ ⟨Nat.le_refl _, Nat.le_refl _⟩ dX10_account_6 (fun z6 hz6 => ?_)
  refine R_if_ne C dX10_account_9 (by omega) (fun h9 => ?_) (fun h9 => ?_)
  · refine R_iconst C dX10_account_18 ?_
    refine R_istore_n C dX10_account_19 (by decide) rfl ?_
    refine R_iconst C dX10_account_20 ?_
    refine R_istore_n C dX10_account_21 (by decide) rfl ?_
    obtain ⟨f, rfl⟩ : ∃ f : Nat, z9 = (f : Int) := ⟨z9.toNat, by omega⟩
    refine R_while C (St := Nat) (f := fun _ => setS M 0 0) (g := fun x => [some (rv (some mo)), some (iv (f : Int)), some (iv (sumF (fun k => if M.2 18 k = (f : Int) then M.2 22 k else 0) x)), some (iv (x : Int))]) (μ := fun x => 13 - x) (I := fun x => (x : Int) ≤ M.1 17) (x0 := 0) rfl rfl (by omega) ?_
    intro k hk ih
    try dsimp only at hk ih ⊢
    refine R_iload_n C dX10_account_22 rfl ?_
    refine R_aload_n C dX10_account_23 rfl ?_
    refine R_getS C cl11 fX10_148 (x := M.1 17) rfl (by decide) dX10_account_24 ?_
    refine R_icmp_ge C dX10_account_27 (by omega) (by omega) (fun h27 => ?_) (fun h27 => ?_)
    · have ek : k = (M.1 17).toNat := by omega
      subst ek
      refine R_iconst C dX10_account_59 ?_
      refine R_istore_n C dX10_account_60 (by decide) rfl ?_
      refine R_while C (St := Nat) (f := fun _ => setS M 0 0) (g := fun x => [some (rv (some mo)), some (iv (f : Int)), some (iv (sumF (fun k => if M.2 18 k = (f : Int) then M.2 22 k else 0) (M.1 17).toNat + sumF (fun k => M.2 25 (3 * k + f) - M.2 25 (3 * f + k)) x)), some (iv (x : Int))]) (μ := fun x => 4 - x) (I := fun x => x ≤ 3) (x0 := 0) rfl (by show [_, _, some (iv (_ + 0)), _] = _; rw [Int.add_zero]; rfl) (by omega) ?_
      intro j hj ih2
      try dsimp only at hj ih2 ⊢
      refine R_iload_n C dX10_account_61 rfl ?_
      refine R_iconst C dX10_account_62 ?_
      refine R_icmp_ge C dX10_account_63 (by omega) (by decide) (fun h63 => ?_) (fun h63 => ?_)
      · refine R_iload_n C dX10_account_96 rfl ?_
        exact R_iret C ⟨by unfold accS; exact pf1 (by omega), by unfold accS acF; rw [show j = 3 by omega]; exact ps1 (by omega)⟩ hr dX10_account_97
      · refine R_iload_n C dX10_account_66 rfl ?_
        refine R_aload_n C dX10_account_67 rfl ?_
        refine R_getA C cl11 fX10_66 (by decide) dX10_account_68 ?_
        refine R_iconst C dX10_account_71 ?_
        refine R_iload_n C dX10_account_72 rfl ?_
        refine R_imul C dX10_account_73 ?_
        refine R_iload_n C dX10_account_74 rfl ?_
        refine R_iadd C dX10_account_75 ?_
        refine R_iald C (j := ((3 * j) + f)) (kf := 25) rfl (show ((3 * j) + f) < 9 by omega) (by omega) (x := M.2 25 (((3 * j) + f))) rfl dX10_account_76 ?_
        refine R_aload_n C dX10_account_77 rfl ?_
        refine R_getA C cl11 fX10_66 (by decide) dX10_account_78 ?_
        refine R_iconst C dX10_account_81 ?_
        refine R_iload_n C dX10_account_82 rfl ?_
        refine R_imul C dX10_account_83 ?_
        refine R_iload_n C dX10_account_84 rfl ?_
        refine R_iadd C dX10_account_85 ?_
        refine R_iald C (j := ((3 * f) + j)) (kf := 25) rfl (show ((3 * f) + j) < 9 by omega) (by omega) (x := M.2 25 (((3 * f) + j))) rfl dX10_account_86 ?_
        refine R_isub C dX10_account_87 ?_
        refine R_iadd C dX10_account_88 ?_
        refine R_istore_n C dX10_account_89 (by decide) rfl ?_
        refine R_iinc C dX10_account_90 (by decide) rfl rfl ?_
        refine R_goto C dX10_account_93 ?_
        have h8 := ih2 (j + 1) (by omega) (by omega)
        rw [sumF_step (fun k => M.2 25 (3 * k + f) - M.2 25 (3 * f + k)) j, ← Int.add_assoc] at h8
        exact h8
    · have h1 := hO.2.2.2.1 k (by omega)
      unfold okCd at h1
      refine R_iload_n C dX10_account_30 rfl ?_
      refine R_join C (pcm := 51) (P := fun z => z = (if M.2 18 k = (f : Int) then M.2 22 k else 0)) (fun hj => ?_) (fun z1 hz1 => ?_)
      · refine R_aload_n C dX10_account_31 rfl ?_
        refine R_getA C cl11 fX10_45 (by decide) dX10_account_32 ?_
        refine R_iload_n C dX10_account_35 rfl ?_
        refine R_iald C (j := k) (kf := 18) rfl (show k < 12 by omega) rfl (x := M.2 18 k) rfl dX10_account_36 ?_
        refine R_iload_n C dX10_account_37 rfl ?_
        refine R_icmp_ne C dX10_account_38 (by omega) (by omega) (fun h38 => ?_) (fun h38 => ?_)
        · refine R_iconst C dX10_account_50 ?_
          exact hj _ (by split <;> omega)
        · refine R_aload_n C dX10_account_41 rfl ?_
          refine R_getA C cl11 fX10_57 (by decide) dX10_account_42 ?_
          refine R_iload_n C dX10_account_45 rfl ?_
          refine R_iald C (j := k) (kf := 22) rfl (show k < 12 by omega) rfl (x := M.2 22 k) rfl dX10_account_46 ?_
          refine R_goto C dX10_account_47 ?_
          exact hj _ (by split <;> omega)
      subst hz1
      refine R_iadd C dX10_account_51 ?_
      refine R_istore_n C dX10_account_52 (by decide) rfl ?_
      refine R_iinc C dX10_account_53 (by decide) rfl rfl ?_
      refine R_goto C dX10_account_56 ?_
      exact ih (k + 1) (by omega) (by omega)
  · refine R_aload_n C dX10_account_12 rfl ?_
    refine R_iconst C dX10_account_13 ?_
    refine R_callVi C (As := [_]) (c_X10_stop hl) kX10_158 rfl rfl (Nat.le_of_ble_eq_true rfl) ⟨by decide, by decide⟩ ⟨Nat.le_refl _, Nat.le_refl _⟩ dX10_account_14 ?_
    exact R_iret C ⟨by unfold accS; exact pf2 (by omega), by unfold accS; exact ps2 (by omega)⟩ hr dX10_account_17
end REF10
