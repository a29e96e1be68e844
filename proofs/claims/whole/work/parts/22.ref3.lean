/-! the reference: the order of serving, serving -/
/-- bounds and powers put in -/
def bp (M : Mo) (B Pw : Nat → Int) : Mo := setR (setR M 48 B) 49 Pw
theorem bp_self (M : Mo) : bp M (M.2 48) (M.2 49) = M := by
  unfold bp setR
  refine Prod.ext rfl ?_
  funext j x
  by_cases h : j = 49
  · subst h; simp
  · by_cases h2 : j = 48
    · subst h2; simp
    · simp [h, h2]
theorem setA_48 (M : Mo) (B Pw : Nat → Int) (k : Nat) (v : Int) : setA (bp M B Pw) 48 k v = bp M (fun i => if i = k then v else B i) Pw := by
  unfold bp setR setA
  refine Prod.ext rfl ?_
  funext j x
  by_cases h : j = 49
  · subst h; simp
  · by_cases h2 : j = 48
    · subst h2; simp
    · simp [h, h2]
theorem setA_49 (M : Mo) (B Pw : Nat → Int) (k : Nat) (v : Int) : setA (bp M B Pw) 49 k v = bp M B (fun i => if i = k then v else Pw i) := by
  unfold bp setR setA
  refine Prod.ext rfl ?_
  funext j x
  by_cases h : j = 49
  · subst h; simp
  · by_cases h2 : j = 48
    · subst h2; simp
    · simp [h, h2]
/-- f is the first of those below K from c0 on, or -1 -/
def fnd (M : Mo) (c0 : Int) (K : Nat) (f : Int) : Prop := (f = -1 ∧ ∀ j : Nat, j < K → svd M j → kap M j < c0) ∨ (0 ≤ f ∧ f < K ∧ svd M f.toNat ∧ c0 ≤ kap M f.toNat ∧ ∀ j : Nat, j < K → svd M j → c0 ≤ kap M j → kap M f.toNat ≤ kap M j)
theorem fnd_1 {M : Mo} {c0 : Int} {k : Nat} {f : Int} (h : fnd M c0 k f) (h1 : svd M k) (h2 : c0 ≤ kap M k) (h3 : f = -1 ∨ kap M k < kap M f.toNat) : fnd M c0 (k + 1) (k : Int) := by
  right
  have e : (k : Int).toNat = k := by omega
  rw [e]
  refine ⟨by omega, by omega, h1, h2, fun j hj hs hc => ?_⟩
  rcases Nat.lt_succ_iff_lt_or_eq.mp hj with hj | rfl
  · rcases h with ⟨h, g⟩ | ⟨h, -, -, -, g⟩
    · have := g j hj hs
      omega
    · have := g j hj hs hc
      omega
  · exact Int.le_refl _
theorem fnd_0 {M : Mo} {c0 : Int} {k : Nat} {f : Int} (h : fnd M c0 k f) (h1 : ¬ (svd M k ∧ c0 ≤ kap M k ∧ (f = -1 ∨ kap M k < kap M f.toNat))) : fnd M c0 (k + 1) f := by
  rcases h with ⟨h, g⟩ | ⟨h, h2, h3, h4, g⟩
  · left
    refine ⟨h, fun j hj hs => ?_⟩
    rcases Nat.lt_succ_iff_lt_or_eq.mp hj with hj | rfl
    · exact g j hj hs
    · exact Int.not_le.mp fun z => h1 ⟨hs, z, Or.inl h⟩
  · right
    refine ⟨h, by omega, h3, h4, fun j hj hs hc => ?_⟩
    rcases Nat.lt_succ_iff_lt_or_eq.mp hj with hj | rfl
    · exact g j hj hs hc
    · exact Int.not_lt.mp fun z => h1 ⟨hs, hc, Or.inr z⟩
section REF3
variable {l : Launch} {D : va_G} {kA : Nat → ClassId} {b t0 mo : Nat} {ad : Nat → Nat} {M : Mo}

set_option maxRecDepth 20000 in
theorem c_X10_isOpen (hl : l.stackTraces = false) {k : Nat} (hO : OkM M) (hk : (k : Int) < M.1 30) (hp : rng (M.2 49 k)) (hb : rng (M.2 48 k)) : Cr l D kA b t0 mo ad yX10_isOpen cX10_isOpen 2 (some FieldType.boolean) 1 21 [rv (some mo), iv (k : Int)] M (fun v M2 => M2 = M ∧ ∃ zz : Int, v = some (iv zz) ∧ ((zz = 1 ∧ (svd M k ∧ 1400 ≤ M.2 49 k ∧ M.2 49 k < M.2 48 k)) ∨ (zz = 0 ∧ ¬ (svd M k ∧ 1400 ≤ M.2 49 k ∧ M.2 49 k < M.2 48 k)))) := by
  refine Cr_mk hl (by decide) (Nat.le_of_ble_eq_true rfl) rfl ?_
  intro X0 p e s m args below meth c C hr
  have h0 := hO.1
  unfold okSc at h0
  refine R_aload_n C dX10_isOpen_0 rfl ?_
  refine R_iload_n C dX10_isOpen_1 rfl ?_
  refine R_callVz C (As := [_]) (c_X10_isServed hl hO hk) kX10_221 rfl rfl (Nat.le_of_ble_eq_true rfl) ⟨by decide, by decide⟩ ⟨Nat.le_refl _, Nat.le_refl _⟩ dX10_isOpen_2 (fun z2 hz2 => ?_)
  refine R_if_eq C dX10_isOpen_5 (by omega) (fun h5 => ?_) (fun h5 => ?_)
  · refine R_iconst C dX10_isOpen_39 ?_
    exact R_zret C ⟨rfl, _, rfl, by first | omega | grind⟩ hr (by omega) dX10_isOpen_40
  · refine R_aload_n C dX10_isOpen_8 rfl ?_
    refine R_getA C cl11 fX10_135 (by decide) dX10_isOpen_9 ?_
    refine R_iload_n C dX10_isOpen_12 rfl ?_
    refine R_iald C (j := k) (kf := 49) rfl (show k < 40 by omega) rfl (x := M.2 49 k) rfl dX10_isOpen_13 ?_
    refine R_sipush C dX10_isOpen_14 (by decide) ?_
    refine R_icmp_lt C dX10_isOpen_17 hp (by decide) (fun h17 => ?_) (fun h17 => ?_)
    · refine R_iconst C dX10_isOpen_39 ?_
      exact R_zret C ⟨rfl, _, rfl, by first | omega | grind⟩ hr (by omega) dX10_isOpen_40
    · refine R_aload_n C dX10_isOpen_20 rfl ?_
      refine R_getA C cl11 fX10_135 (by decide) dX10_isOpen_21 ?_
      refine R_iload_n C dX10_isOpen_24 rfl ?_
      refine R_iald C (j := k) (kf := 49) rfl (show k < 40 by omega) rfl (x := M.2 49 k) rfl dX10_isOpen_25 ?_
      refine R_aload_n C dX10_isOpen_26 rfl ?_
      refine R_getA C cl11 fX10_132 (by decide) dX10_isOpen_27 ?_
      refine R_iload_n C dX10_isOpen_30 rfl ?_
      refine R_iald C (j := k) (kf := 48) rfl (show k < 40 by omega) rfl (x := M.2 48 k) rfl dX10_isOpen_31 ?_
      refine R_icmp_ge C dX10_isOpen_32 hp hb (fun h32 => ?_) (fun h32 => ?_)
      · refine R_iconst C dX10_isOpen_39 ?_
        exact R_zret C ⟨rfl, _, rfl, by first | omega | grind⟩ hr (by omega) dX10_isOpen_40
      · refine R_iconst C dX10_isOpen_35 ?_
        refine R_goto C dX10_isOpen_36 ?_
        exact R_zret C ⟨rfl, _, rfl, by first | omega | grind⟩ hr (by omega) dX10_isOpen_40
set_option maxRecDepth 20000 in
theorem c_X10_behind (hl : l.stackTraces = false) {o c0 : Int} (hO : OkM M) (ho : (o = -1 ∧ c0 = 0) ∨ (∃ i : Nat, (i : Int) < M.1 30 ∧ o = i ∧ c0 = kap M i + 1)) : Cr l D kA b t0 mo ad yX10_behind cX10_behind 5 (some FieldType.int) 1 24 [rv (some mo), iv o] M (fun v M2 => M2 = M ∧ ∃ r, v = some (iv r) ∧ fnd M c0 (M.1 30).toNat r) := by
  refine Cr_mk hl (by decide) (Nat.le_of_ble_eq_true rfl) rfl ?_
  intro X0 p e s m args below meth c C hr
  have h0 := hO.1
  unfold okSc at h0
  have ho2 : o ≠ -1 → o = (o.toNat : Int) ∧ (o.toNat : Int) < M.1 30 ∧ c0 = kap M o.toNat + 1 := fun h => by
    rcases ho with z | ⟨i, h1, rfl, h3⟩
    · exact absurd z.1 h
    · have e : ((i : Nat) : Int).toNat = i := by omega
      rw [e]
      exact ⟨rfl, h1, h3⟩
  have ho3 : o = -1 → c0 = 0 := fun h => by
    rcases ho with z | ⟨i, h1, rfl, h3⟩
    · exact z.2
    · omega
  have ho4 : rng o := by
    rcases ho with z | ⟨i, h1, rfl, h3⟩ <;> omega
  have hkp : ∀ k : Nat, (k : Int) < M.1 30 → 0 ≤ kap M k ∧ kap M k < 256 := fun k hk => by
    have h1 := (hO.2.2.2.2.1 k hk).1
    unfold okSe at h1
    have h3 := hO.2.2.2.1 (M.2 33 k).toNat (by omega)
    unfold okCd at h3
    unfold kap
    omega
  refine R_iconst C dX10_behind_0 ?_
  refine R_istore_n C dX10_behind_1 (by decide) rfl ?_
  refine R_iconst C dX10_behind_2 ?_
  refine R_istore_n C dX10_behind_3 (by decide) rfl ?_
  refine R_while C (St := Nat × Int × Option Value) (f := fun _ => M) (g := fun x => [some (rv (some mo)), some (iv o), some (iv x.2.1), some (iv (x.1 : Int)), x.2.2]) (μ := fun x => 41 - x.1) (I := fun x => (x.1 : Int) ≤ M.1 30 ∧ fnd M c0 x.1 x.2.1) (x0 := (0, -1, none)) rfl rfl ⟨by omega, Or.inl ⟨rfl, fun j hj => absurd hj (Nat.not_lt_zero j)⟩⟩ ?_
  rintro ⟨k, f, u4⟩ ⟨hk, hf⟩ ih
  dsimp only at hk hf ih ⊢
  have hf3 : f = -1 ∨ (0 ≤ f ∧ f < k) := hf.imp (fun z => z.1) (fun z => ⟨z.1, z.2.1⟩)
  refine R_iload_n C dX10_behind_4 rfl ?_
  refine R_aload_n C dX10_behind_5 rfl ?_
  refine R_getS C cl11 fX10_151 (x := M.1 30) rfl (by decide) dX10_behind_6 ?_
  refine R_icmp_ge C dX10_behind_9 (by omega) (by omega) (fun h9 => ?_) (fun h9 => ?_)
  · refine R_iload_n C dX10_behind_72 rfl ?_
    exact R_iret C ⟨rfl, f, rfl, (by have e : k = (M.1 30).toNat := (by omega); rw [← e]; exact hf)⟩ hr dX10_behind_73
  · refine R_join C (pcm := 53) (P := fun z => (z = 1 ∧ (svd M k ∧ c0 ≤ kap M k ∧ (f = -1 ∨ kap M k < kap M f.toNat))) ∨ (z = 0 ∧ ¬ (svd M k ∧ c0 ≤ kap M k ∧ (f = -1 ∨ kap M k < kap M f.toNat)))) (fun hj => ?_) (fun z1 hz1 => ?_)
    · refine R_aload_n C dX10_behind_12 rfl ?_
      refine R_iload_n C dX10_behind_13 rfl ?_
      refine R_callVz C (As := [_]) (c_X10_isServed hl hO (k := k) (by omega)) kX10_221 rfl rfl (Nat.le_of_ble_eq_true rfl) ⟨by decide, by decide⟩ ⟨Nat.le_refl _, Nat.le_refl _⟩ dX10_behind_14 (fun z14 hz14 => ?_)
      refine R_if_eq C dX10_behind_17 (by omega) (fun h17 => ?_) (fun h17 => ?_)
      · refine R_iconst C dX10_behind_52 ?_
        exact hj _ (by clear ih hO ho; have hkk := hkp k (by omega); clear hkp; grind)
      · refine R_iload_n C dX10_behind_20 rfl ?_
        refine R_iconst C dX10_behind_21 ?_
        refine R_icmp_eq C dX10_behind_22 (by omega) (by decide) (fun h22 => ?_) (fun h22 => ?_)
        · refine R_iload_n C dX10_behind_34 rfl ?_
          refine R_iconst C dX10_behind_35 ?_
          refine R_icmp_eq C dX10_behind_36 (by omega) (by decide) (fun h36 => ?_) (fun h36 => ?_)
          · refine R_iconst C dX10_behind_48 ?_
            refine R_goto C dX10_behind_49 ?_
            exact hj _ (by clear ih hO ho; have hkk := hkp k (by omega); clear hkp; grind)
          · refine R_aload_n C dX10_behind_39 rfl ?_
            refine R_iload_n C dX10_behind_40 rfl ?_
            refine R_iload_n C dX10_behind_41 rfl ?_
            refine R_callVz C (As := [_, _]) (c_X10_isAhead hl (k := k) (j := f.toNat) hO (by omega) (by omega) rfl (by omega)) kX10_224 rfl rfl (Nat.le_of_ble_eq_true rfl) ⟨by decide, by decide⟩ ⟨Nat.le_refl _, Nat.le_refl _⟩ dX10_behind_42 (fun z42 hz42 => ?_)
            refine R_if_eq C dX10_behind_45 (by omega) (fun h45 => ?_) (fun h45 => ?_)
            · refine R_iconst C dX10_behind_52 ?_
              exact hj _ (by clear ih hO ho; have hkk := hkp k (by omega); clear hkp; grind)
            · refine R_iconst C dX10_behind_48 ?_
              refine R_goto C dX10_behind_49 ?_
              exact hj _ (by clear ih hO ho; have hkk := hkp k (by omega); clear hkp; grind)
        · refine R_aload_n C dX10_behind_25 rfl ?_
          refine R_iload_n C dX10_behind_26 rfl ?_
          refine R_iload_n C dX10_behind_27 rfl ?_
          refine R_callVz C (As := [_, _]) (c_X10_isAhead hl (k := o.toNat) (j := k) hO (ho2 h22).2.1 (by omega) (ho2 h22).1 rfl) kX10_224 rfl rfl (Nat.le_of_ble_eq_true rfl) ⟨by decide, by decide⟩ ⟨Nat.le_refl _, Nat.le_refl _⟩ dX10_behind_28 (fun z28 hz28 => ?_)
          refine R_if_eq C dX10_behind_31 (by omega) (fun h31 => ?_) (fun h31 => ?_)
          · refine R_iconst C dX10_behind_52 ?_
            exact hj _ (by clear ih hO ho; have hkk := hkp k (by omega); clear hkp; grind)
          · refine R_iload_n C dX10_behind_34 rfl ?_
            refine R_iconst C dX10_behind_35 ?_
            refine R_icmp_eq C dX10_behind_36 (by omega) (by decide) (fun h36 => ?_) (fun h36 => ?_)
            · refine R_iconst C dX10_behind_48 ?_
              refine R_goto C dX10_behind_49 ?_
              exact hj _ (by clear ih hO ho; have hkk := hkp k (by omega); clear hkp; grind)
            · refine R_aload_n C dX10_behind_39 rfl ?_
              refine R_iload_n C dX10_behind_40 rfl ?_
              refine R_iload_n C dX10_behind_41 rfl ?_
              refine R_callVz C (As := [_, _]) (c_X10_isAhead hl (k := k) (j := f.toNat) hO (by omega) (by omega) rfl (by omega)) kX10_224 rfl rfl (Nat.le_of_ble_eq_true rfl) ⟨by decide, by decide⟩ ⟨Nat.le_refl _, Nat.le_refl _⟩ dX10_behind_42 (fun z42 hz42 => ?_)
              refine R_if_eq C dX10_behind_45 (by omega) (fun h45 => ?_) (fun h45 => ?_)
              · refine R_iconst C dX10_behind_52 ?_
                exact hj _ (by clear ih hO ho; have hkk := hkp k (by omega); clear hkp; grind)
              · refine R_iconst C dX10_behind_48 ?_
                refine R_goto C dX10_behind_49 ?_
                exact hj _ (by clear ih hO ho; have hkk := hkp k (by omega); clear hkp; grind)
    refine R_istore C dX10_behind_53 (by decide) rfl ?_
    refine R_iload C dX10_behind_55 rfl ?_
    refine R_if_eq C dX10_behind_57 (by omega) (fun h57 => ?_) (fun h57 => ?_)
    · refine R_iload_n C dX10_behind_64 rfl ?_
      refine R_istore_n C dX10_behind_65 (by decide) rfl ?_
      refine R_iinc C dX10_behind_66 (by decide) rfl rfl ?_
      refine R_goto C dX10_behind_69 ?_
      first | exact ih (k + 1, (k : Int), _) ⟨by show ((k + 1 : Nat) : Int) ≤ M.1 30; omega, by rcases hz1 with z | z; exact fnd_1 hf z.2.1 z.2.2.1 z.2.2.2; exact absurd h57 (by omega)⟩ (by show 41 - (k + 1) < 41 - k; omega) | exact ih (k + 1, f, _) ⟨by show ((k + 1 : Nat) : Int) ≤ M.1 30; omega, by rcases hz1 with z | z; exact absurd h57 (by omega); exact fnd_0 hf z.2⟩ (by show 41 - (k + 1) < 41 - k; omega)
    · refine R_iload_n C dX10_behind_60 rfl ?_
      refine R_goto C dX10_behind_61 ?_
      refine R_istore_n C dX10_behind_65 (by decide) rfl ?_
      refine R_iinc C dX10_behind_66 (by decide) rfl rfl ?_
      refine R_goto C dX10_behind_69 ?_
      first | exact ih (k + 1, (k : Int), _) ⟨by show ((k + 1 : Nat) : Int) ≤ M.1 30; omega, by rcases hz1 with z | z; exact fnd_1 hf z.2.1 z.2.2.1 z.2.2.2; exact absurd h57 (by omega)⟩ (by show 41 - (k + 1) < 41 - k; omega) | exact ih (k + 1, f, _) ⟨by show ((k + 1 : Nat) : Int) ≤ M.1 30; omega, by rcases hz1 with z | z; exact absurd h57 (by omega); exact fnd_0 hf z.2⟩ (by show 41 - (k + 1) < 41 - k; omega)
end REF3
