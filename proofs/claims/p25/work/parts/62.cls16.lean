/-! the class: a minute passes -/
theorem ph_eq {M M2 : Mo} (h : ∀ k, M2.2 37 k = M.2 37 k) : ∀ n, phC M2 n = phC M n ∧ phS M2 n = phS M n := by
  intro n
  induction n with
  | zero => exact ⟨rfl, rfl⟩
  | succ n ih =>
    show phC M2 n + remC (capOf (M2.2 37 n).toNat) = _ ∧ phS M2 n + remS (capOf (M2.2 37 n).toNat) = _
    rw [ih.1, ih.2, h n]
    exact ⟨rfl, rfl⟩
theorem sI_id {X : Mm} {f a : Nat} {v : Int} (h : gI X f a = v) : sI X f a v = X := by
  have e : u2 (gI X) f a v = gI X := by
    funext g x
    unfold u2
    split
    · rename_i e
      rw [e.1, e.2, h]
    · rfl
  unfold sI
  rw [e]
  rfl
/-- the reference's minute, bookings aside -/
def pc1 (M : Mo) (n : Nat) : Mo := lisM (setS (ptM M (powM M n) (dayM M) n (m1M M n)) 1 (M.1 1 + 1))
def mI (M : Mo) (n i : Nat) : Mo := (((List.range n).filter (rnM M)).take i).foldl (fun M2 k => oneM M (powM M n) (dayM M) M2 k) (m1M M n)
def alS (M : Mo) (n i : Nat) : Int := (((List.range n).filter (rnM M)).take i).foldl (fun s k => s + powM M n k) 0
theorem mI_1 {M : Mo} {n i k : Nat} (h : ((List.range n).filter (rnM M))[i]? = some k) : mI M n (i + 1) = oneM M (powM M n) (dayM M) (mI M n i) k ∧ alS M n (i + 1) = alS M n i + powM M n k := by
  unfold mI alS
  rw [List.take_succ, List.foldl_append, List.foldl_append, h]
  exact ⟨rfl, rfl⟩
theorem mI_n (M : Mo) (n : Nat) : mI M n ((List.range n).filter (rnM M)).length = ptM M (powM M n) (dayM M) n (m1M M n) := by
  unfold mI
  rw [List.take_length, foM_id]
/-- cards' list -/
def zLs (Z : Zs) : Nat → Zs
  | 0 => Z
  | j + 1 => zsN (zLs Z j) 195 j (yN Z 194 j)
theorem zLs_st (Z : Zs) (j : Nat) : yC (zLs Z j) = yC Z ∧ yT (zLs Z j) = yT Z ∧ yL (zLs Z j) = yL Z ∧ yR (zLs Z j) = yR Z ∧ yK (zLs Z j) = yK Z ∧ (∀ f, f ≠ 195 → yN (zLs Z j) f = yN Z f) ∧ ∀ i, yN (zLs Z j) 195 i = if i < j then yN Z 194 i else yN Z 195 i := by
  induction j with
  | zero => exact ⟨rfl, rfl, rfl, rfl, rfl, fun _ _ => rfl, fun i => (if_neg (Nat.not_lt_zero i)).symm⟩
  | succ j ih =>
    obtain ⟨i1, i2, i3, i4, i5, i6, i7⟩ := ih
    refine ⟨i1, i2, i3, i4, i5, fun f hf => ?_, fun i => ?_⟩
    · rw [← i6 f hf]
      funext x
      exact if_neg (fun e => hf e.1)
    · show (if 195 = 195 ∧ i = j then yN Z 194 j else yN (zLs Z j) 195 i) = _
      by_cases e : i = j
      · subst e
        rw [if_pos ⟨rfl, rfl⟩, if_pos (Nat.lt_succ_self i)]
      · rw [if_neg (fun y => e y.2), i7]
        have : (i < j) ↔ (i < j + 1) := by omega
        simp only [this]
theorem zLs_CX {t0 ao mo : Nat} {ad : Nat → Nat} {L : Ly} {X : Mm} {Z : Zs} {Mr : Mo} (h : CX t0 ao mo ad L X Z Mr) : ∀ j, j ≤ yC Z 4 → CX t0 ao mo ad L (lsM X ((List.range (yC Z 4)).map (lA L 4)) j) (zLs Z j) Mr := by
  intro j
  induction j with
  | zero => exact fun _ => h
  | succ j ih =>
    intro hj
    have e : ((List.range (yC Z 4)).map (lA L 4)).getD j 0 = lA L 4 j := by
      rw [List.getD_eq_getElem?_getD, List.getElem?_map, List.getElem?_range (by omega)]
      rfl
    show CX t0 ao mo ad L (sI _ 195 (((List.range (yC Z 4)).map (lA L 4)).getD j 0) (gI X 194 (((List.range (yC Z 4)).map (lA L 4)).getD j 0))) (zsN (zLs Z j) 195 j (yN Z 194 j)) Mr
    rw [e, h.gi (f := 194) (c := 4) (by decide) (by omega) rfl]
    exact (ih (by omega)).putI (c := 4) rfl (by decide) (by decide) (by rw [(zLs_st Z j).1]; omega) rfl
theorem yN_at (Z : Zs) (f i : Nat) (v : Int) : yN (zsN Z f i v) f i = v := if_pos ⟨rfl, rfl⟩
/-- what passMinute leaves -/
def pmQ (t0 ao mo : Nat) (ad : Nat → Nat) (L : Ly) (Z : Zs) (Mr M2 : Mo) (Y : Mm) : Prop := ∃ L2 Z2, CX t0 ao mo ad L2 Y Z2 Mr ∧ zmX Z2 M2 ∧ zmT Z2 M2 ∧ zmW Z2 M2 ∧ kpL L L2 ∧ yC Z2 = yC Z ∧ yT Z2 = yT Z ∧ yL Z2 = yL Z ∧ yN Z2 65 = yN Z 65 ∧ yN Z2 66 = yN Z 66
theorem pm_end {t0 ao mo : Nat} {ad : Nat → Nat} {L L2 : Ly} {X : Mm} {Z Z2 : Zs} {Mr M : Mo} {n : Nat} {ov : Int} (hn : n = yC Z 6) (hW : zmW Z M) (h : CX t0 ao mo ad L2 X Z2 Mr) (z2 : zmX Z2 (ptM M (powM M n) (dayM M) n (m1M M n))) (hk : kpL L L2) (hz : kpZ Z Z2) (hov : ov = M.1 2 + if M.1 3 + M.1 4 < sumF (powM M n) n then 1 else 0) : CX t0 ao mo ad L2 (sI (sI X 650 (lA L2 11 0) ov) 646 (lA L2 11 0) (M.1 1 + 1)) (zsN (zsN Z2 650 0 ov) 646 0 (M.1 1 + 1)) Mr ∧ (¬ (M.1 1 + 1) % 1440 = 0 → pmQ t0 ao mo ad L Z Mr (pc1 M n) (sI (sI X 650 (lA L2 11 0) ov) 646 (lA L2 11 0) (M.1 1 + 1))) ∧ ((M.1 1 + 1) % 1440 = 0 → pmQ t0 ao mo ad L Z Mr (pc1 M n) (lsM (sI (sI X 650 (lA L2 11 0) ov) 646 (lA L2 11 0) (M.1 1 + 1)) ((List.range (yC Z2 4)).map (lA L2 4)) (yC Z2 4))) := by
  have st := ptM_st M (powM M n) (dayM M) (m1M M n) n
  have h0 : 0 < yC Z2 11 := by rw [z2.1.1]; omega
  have c1 := (h.putI (f := 650) (c := 11) (i := 0) (v := ov) rfl (by decide) (by decide) h0 rfl).putI (f := 646) (c := 11) (i := 0) (v := M.1 1 + 1) (a := lA L2 11 0) rfl (by decide) (by decide) h0 rfl
  have z3 : zmX (zsN (zsN Z2 650 0 ov) 646 0 (M.1 1 + 1)) (setS (ptM M (powM M n) (dayM M) n (m1M M n)) 1 (M.1 1 + 1)) := z2
  have hov2 : (ptM M (powM M n) (dayM M) n (m1M M n)).1 2 = ov := by rw [st.1, hov]; rfl
  have e576 : yN Z2 576 = yN Z 576 := hz.2.2.2 576 (by decide) (by decide) (by decide) (by decide) (by decide) (by decide) (by decide) (by decide) (by decide)
  have e65 : yN Z2 65 = yN Z 65 := hz.2.2.2 65 (by decide) (by decide) (by decide) (by decide) (by decide) (by decide) (by decide) (by decide) (by decide)
  have e66 : yN Z2 66 = yN Z 66 := hz.2.2.2 66 (by decide) (by decide) (by decide) (by decide) (by decide) (by decide) (by decide) (by decide) (by decide)
  have w1 : ∀ k : Nat, k < yC Z 6 → yN Z 576 k + (ptM M (powM M n) (dayM M) n (m1M M n)).2 37 k ≤ M.1 1 + 1 ∧ ((ptM M (powM M n) (dayM M) n (m1M M n)).2 34 k = 1 → yN Z 576 k + (ptM M (powM M n) (dayM M) n (m1M M n)).2 37 k = M.1 1 + 1) := fun k hk => by
    have hw := hW k hk
    rw [ptM_37, st.2 34 rfl]
    have e1 : (m1M M n).2 37 k = M.2 37 k := rfl
    have e2 : (m1M M n).2 34 k = M.2 34 k := rfl
    rw [e1, e2]
    by_cases e : M.2 34 k = 1
    · have := hw.2 e
      rw [if_pos ⟨by omega, e⟩]
      omega
    · rw [if_neg (fun y => e y.2)]
      exact ⟨by omega, fun y => absurd y e⟩
  refine ⟨c1, fun hm => ?_, fun hm => ?_⟩
  · have ep : pc1 M n = setS (ptM M (powM M n) (dayM M) n (m1M M n)) 1 (M.1 1 + 1) := if_neg hm
    rw [ep]
    refine ⟨L2, _, c1, z3, ⟨(yN_at _ 646 0 _).trans rfl, ?_⟩, fun k hk => ?_, hk, hz.1, hz.2.1, hz.2.2.1, e65, e66⟩
    · show ov = (ptM M (powM M n) (dayM M) n (m1M M n)).1 2
      exact hov2.symm
    · have := w1 k (by have := hz.1; exact this ▸ hk)
      rw [← e576] at this
      exact this
  · have ep : pc1 M n = setR (setS (ptM M (powM M n) (dayM M) n (m1M M n)) 1 (M.1 1 + 1)) 21 (pre ((ptM M (powM M n) (dayM M) n (m1M M n)).2 20) ((ptM M (powM M n) (dayM M) n (m1M M n)).2 21) ((ptM M (powM M n) (dayM M) n (m1M M n)).1 17).toNat) := if_pos hm
    rw [ep]
    have c2 := zLs_CX c1 (yC Z2 4) (Nat.le_refl _)
    obtain ⟨s1, s2, s3, s4, s5, s6, s7⟩ := zLs_st (zsN (zsN Z2 650 0 ov) 646 0 (M.1 1 + 1)) (yC Z2 4)
    have hnc : ((ptM M (powM M n) (dayM M) n (m1M M n)).1 17).toNat = yC Z2 4 := by
      have := z2.1.2.2.2.2.1
      omega
    rw [hnc]
    refine ⟨L2, _, c2, ?_, ⟨?_, ?_⟩, fun k hk => ?_, hk, s1.trans hz.1, s2.trans hz.2.1, s3.trans hz.2.2.1, (s6 65 (by decide)).trans e65, (s6 66 (by decide)).trans e66⟩
    · obtain ⟨zC, zL, zY, zF, zS, zA, zD, zE, zV⟩ := z3
      refine ⟨?_, ?_, ?_, ?_, ?_, ?_, ?_, ?_, ?_⟩
      · unfold zmC; rw [s1]; exact zC
      · unfold zmL; rw [s1, s3]; exact zL
      · unfold zmY; rw [s2, s6 647 (by decide), s6 648 (by decide), s6 649 (by decide)]; exact zY
      · unfold zmF trfI; rw [s1, s2, s6 257 (by decide), s6 512 (by decide), s6 513 (by decide), s6 514 (by decide), s6 515 (by decide)]; exact zF
      · unfold zmS; rw [s1, s2, s6 384 (by decide), s6 386 (by decide), s6 387 (by decide), s6 388 (by decide), s6 389 (by decide)]; exact zS
      · unfold zmA; rw [s1, s6 128 (by decide), s6 129 (by decide), s6 130 (by decide), s6 131 (by decide), s6 132 (by decide)]; exact zA
      · unfold zmD
        rw [s1, s2, s6 193 (by decide), s6 194 (by decide), s6 196 (by decide)]
        intro i hi
        obtain ⟨d1, d2, d3, d4, d5⟩ := zD i hi
        refine ⟨d1, d2, d3, ?_, d5⟩
        rw [s7, if_pos (show i < yC Z2 4 from hi)]
        refine d3.trans (Eq.symm ?_)
        show pre _ _ _ i = _
        exact if_pos hi
      · unfold zmE trfI; rw [s1, s2, s6 512 (by decide), s6 513 (by decide), s6 514 (by decide), s6 515 (by decide), s6 325 (by decide), s6 326 (by decide), s6 329 (by decide), s6 330 (by decide), s6 331 (by decide), s6 328 (by decide), s6 327 (by decide)]; exact zE
      · unfold zmV tlZ; rw [s1, s2, s4, s5, s6 578 (by decide), s6 579 (by decide), s6 576 (by decide), s6 448 (by decide), s6 449 (by decide), s6 450 (by decide), s6 451 (by decide)]; exact zV
    · rw [s6 646 (by decide)]
      exact (yN_at _ 646 0 _).trans rfl
    · rw [s6 650 (by decide)]
      exact hov2.symm
    · rw [s6 576 (by decide)]
      rw [s1] at hk
      have := w1 k (by have := hz.1; exact this ▸ hk)
      rw [← e576] at this
      exact this
theorem oneM_37 {M0 M : Mo} {P : Nat → Int} {day : Int} {k : Nat} (h : M0.2 34 k = 1) : (oneM M0 P day M k).2 37 k = M.2 37 k + 1 := by
  unfold oneM heardM
  rw [if_pos h]
  split <;> simp [setA]
theorem oneM_le {M0 M : Mo} {P : Nat → Int} {day : Int} {k : Nat} : ∀ j, M.2 37 j ≤ (oneM M0 P day M k).2 37 j := by
  intro j
  by_cases e : j = k
  · subst e
    by_cases h : M0.2 34 j = 1
    · rw [oneM_37 h]
      omega
    · unfold oneM
      rw [if_neg h]
      exact Int.le_refl _
  · rw [(oneM_far M0 P day M k).1 37 j (by decide) e]
    exact Int.le_refl _
theorem rem_le {a c : Nat} (h : a ≤ c) : remC (capOf c) ≤ remC (capOf a) ∧ remS (capOf c) ≤ remS (capOf a) := by
  have hc : capOf a ≤ capOf c := by
    unfold capOf
    repeat' split
    all_goals omega
  have h9 := capOf_in c
  constructor
  · unfold remC
    repeat' split
    all_goals omega
  · unfold remS
    repeat' split
    all_goals omega
theorem ph_le {M M2 : Mo} (h : ∀ k, M.2 37 k ≤ M2.2 37 k) : ∀ n, phC M2 n ≤ phC M n ∧ phS M2 n ≤ phS M n := by
  intro n
  induction n with
  | zero => exact ⟨Nat.le_refl _, Nat.le_refl _⟩
  | succ n ih =>
    have h1 := rem_le (a := (M.2 37 n).toNat) (c := (M2.2 37 n).toNat) (by have := h n; omega)
    show phC M2 n + remC (capOf (M2.2 37 n).toNat) ≤ phC M n + remC (capOf (M.2 37 n).toNat) ∧ phS M2 n + remS (capOf (M2.2 37 n).toNat) ≤ phS M n + remS (capOf (M.2 37 n).toNat)
    omega
theorem mI_mono (M : Mo) (n i : Nat) : ∀ d, ∀ k, (mI M n i).2 37 k ≤ (mI M n (i + d)).2 37 k := by
  intro d
  induction d with
  | zero => exact fun k => Int.le_refl _
  | succ d ih =>
    intro k
    refine Int.le_trans (ih k) ?_
    show (mI M n (i + d)).2 37 k ≤ (mI M n (i + d + 1)).2 37 k
    cases e : ((List.range n).filter (rnM M))[i + d]? with
    | none =>
      have : mI M n (i + d + 1) = mI M n (i + d) := by
        unfold mI
        rw [List.take_succ, e]
        simp
      rw [this]
      exact Int.le_refl _
    | some q =>
      rw [(mI_1 e).1]
      exact oneM_le k
theorem mI_nt {M : Mo} {n i k : Nat} (h : ((List.range n).filter (rnM M))[i]? = some k) : k ∉ ((List.range n).filter (rnM M)).take i := by
  intro hk
  have hnd : ((List.range n).filter (rnM M)).Nodup := List.Pairwise.filter _ List.nodup_range
  obtain ⟨j, hj⟩ := List.mem_iff_getElem?.mp hk
  rw [List.getElem?_take] at hj
  split at hj
  · rename_i hji
    have h1 := List.getElem?_eq_some_iff.mp hj
    have h2 := List.getElem?_eq_some_iff.mp h
    have := (List.pairwise_iff_getElem.mp hnd) j i h1.1 h2.1 hji
    exact this (h1.2.trans h2.2.symm)
  · cases hj
theorem mI_hH {Z Zf Zi : Zs} {M : Mo} {n i k : Nat} (hO : OkM M) (hR : ivR M) (hCc : ivC M) (hE : ivE M) (hn9 : (n : Int) = M.1 30) (hW : zmW Z M) (hnow : M.1 1 < 20000) (hn : n = yC Z 6) (kZi : kpZ Zf Zi) (g1 : yC Zf = yC Z ∧ yT Zf = yT Z ∧ yL Zf = yL Z ∧ yN Zf 576 = yN Z 576 ∧ yN Zf 650 = yN Z 650 ∧ yN Zf 646 = yN Z 646 ∧ yN Zf 65 = yN Z 65 ∧ yN Zf 66 = yN Z 66) (hk : ((List.range n).filter (rnM M))[i]? = some k) (hnt : k ∉ ((List.range n).filter (rnM M)).take i) (hkm : k < n ∧ M.2 34 k = 1) : letH Zi (mI M n i) k (powM M n k) (dayM M) := by
  have fo := foM_far M (powM M n) (dayM M) (m1M M n) (((List.range n).filter (rnM M)).take i)
  have f1 : ∀ j, j ≠ 15 → (mI M n i).2 j k = (m1M M n).2 j k := fun j hj => fo.2.1 j k hj hnt
  have f2 : (mI M n i).2 15 (M.2 32 k).toNat = M.2 15 (M.2 32 k).toNat := fo.2.2 _ (fun q hq e => by
    have hq1 := List.mem_of_mem_take hq
    have hq2 := of_decide_eq_true (List.mem_filter.mp hq1).2
    have hq3 := List.mem_range.mp (List.mem_filter.mp hq1).1
    have o1 := (hO.2.2.2.2.1 q (by omega)).1
    have o2 := (hO.2.2.2.2.1 k (by omega)).1
    unfold okSe at o1 o2
    exact hnt (hCc q k (by omega) (by omega) hq2 hkm.2 (by omega) ▸ hq))
  have s10 : (mI M n i).2 10 = M.2 10 := fo.1.2 10 rfl
  have s31 : (mI M n i).2 31 = M.2 31 := fo.1.2 31 rfl
  have s32 : (mI M n i).2 32 = M.2 32 := fo.1.2 32 rfl
  have s14 : (mI M n i).2 14 = M.2 14 := fo.1.2 14 rfl
  have s34 : (mI M n i).2 34 = M.2 34 := fo.1.2 34 rfl
  have s37 : (mI M n i).2 37 k = M.2 37 k := f1 37 (by decide)
  have s38 : (mI M n i).2 38 k = M.2 38 k := f1 38 (by decide)
  have s35 : (mI M n i).2 35 k = M.2 35 k := f1 35 (by decide)
  have e576 : yN Zi 576 = yN Z 576 := (kZi.2.2.2 576 (by decide) (by decide) (by decide) (by decide) (by decide) (by decide) (by decide) (by decide) (by decide)).trans g1.2.2.2.1
  have hw := (hW k (by omega)).2 hkm.2
  have o1 := (hO.2.2.2.2.1 k (by omega)).1
  have o0 := hO.1
  unfold okSe at o1
  unfold okSc at o0
  have o2 := hO.2.2.1 (M.2 32 k).toNat (by omega)
  have o3 := hO.2.1 (M.2 31 k).toNat (by omega)
  unfold okCa at o2
  unfold okSo at o3
  have he := hE k (by omega)
  have hp := powM_in hO hn9 hkm.1
  have hb := bndM_in hO (k := k) (by omega)
  have hpl : powM M n k ≤ M.2 14 (M.2 32 k).toNat - M.2 15 (M.2 32 k).toNat := by
    have h1 : bndM M k ≤ (if wntM M k < M.2 8 (M.2 31 k).toNat then wntM M k else wntM M k) := by
      unfold bndM
      split <;> omega
    have h2 : wntM M k ≤ M.2 14 (M.2 32 k).toNat - M.2 15 (M.2 32 k).toNat := by
      unfold wntM wantM
      split
      · split <;> omega
      · omega
    have h3 : bndM M k ≤ wntM M k := by
      split at h1 <;> exact h1
    omega
  unfold letH
  rw [s10, s31, s32, s14, s34, s37, s38, s35, f2, e576, hw]
  refine ⟨by rw [kZi.1, g1.1, ← hn]; exact hkm.1, hkm.2, by omega, by omega, by omega, by omega, by omega, ?_, by omega⟩
  unfold isDay dayM
  by_cases e : 360 ≤ M.1 1 % 1440 ∧ M.1 1 % 1440 ≤ 1319
  · rw [if_pos e]
    exact ⟨fun _ => rfl, fun _ => by omega⟩
  · rw [if_neg e]
    exact ⟨fun y => absurd (show 360 ≤ M.1 1 % 1440 ∧ M.1 1 % 1440 ≤ 1319 by omega) e, fun y => by omega⟩
theorem pmQ_kp {t0 ao mo : Nat} {ad : Nat → Nat} {L : Ly} {Z Zf : Zs} {Mr M2 : Mo} {Y : Mm} (g1 : yC Zf = yC Z ∧ yT Zf = yT Z ∧ yL Zf = yL Z ∧ yN Zf 576 = yN Z 576 ∧ yN Zf 650 = yN Z 650 ∧ yN Zf 646 = yN Z 646 ∧ yN Zf 65 = yN Z 65 ∧ yN Zf 66 = yN Z 66) (h : pmQ t0 ao mo ad L Zf Mr M2 Y) : pmQ t0 ao mo ad L Z Mr M2 Y := by
  obtain ⟨L2, Z2, h1, h2, h3, h4, h5, h6, h7, h8, h9, h10⟩ := h
  exact ⟨L2, Z2, h1, h2, h3, h4, h5, h6.trans g1.1, h7.trans g1.2.1, h8.trans g1.2.2.1, h9.trans g1.2.2.2.2.2.2.1, h10.trans g1.2.2.2.2.2.2.2⟩
section CLS16
variable {l : Launch} {D : va_G} {kA : Nat → ClassId} {b t0 ao mo : Nat} {ad : Nat → Nat} {L : Ly} {X Y : Mm} {Z : Zs} {Mr M : Mo} {n : Nat}
set_option maxHeartbeats 2000000 in
set_option maxRecDepth 20000 in
theorem c_X9_passMinute (hl : l.stackTraces = false) (h : CX t0 ao mo ad L X Z Mr) (z : zmX Z M) (hT : zmT Z M) (hW : zmW Z M) (hO : OkM M) (hR : ivR M) (hCc : ivC M) (hE : ivE M) (hnow : M.1 1 < 20000) (hn : n = yC Z 6) : Ct l D kA b t0 yX9_passMinute cX9_passMinute 4 none 5 116 [rv (some (lA L 11 0))] X (phC M n - phC (pc1 M n) n) (phS M n - phS (pc1 M n) n) (fun w Y => w = none ∧ pmQ t0 ao mo ad L Z Mr (pc1 M n) Y) (pF) := by
  refine Ct_mk hl (by decide) (Nat.le_of_ble_eq_true rfl) rfl ?_
  intro p9 e9 s9 m9 args9 below9 meth9 c9 C hr hx0
  have yc := yd_C h z
  obtain ⟨hKy, ⟨-, -, -, -, -, hra⟩, -⟩ := yc
  have o0 := hO.1
  unfold okSc at o0
  have hn9 : (n : Int) = M.1 30 := by have := z.1.2.2.2.2.2.1; omega
  have hpw : ∀ k, k < n → 0 ≤ powM M n k ∧ powM M n k ≤ 50000 := fun k hk => by have h1 := powM_in hO hn9 hk; have h2 := bndM_in hO (k := k) (by omega); omega
  have hks : ∀ k ∈ ((List.range n).filter (rnM M)), k < n ∧ M.2 34 k = 1 := fun k hk => ⟨List.mem_range.mp (List.mem_filter.mp hk).1, of_decide_eq_true (List.mem_filter.mp hk).2⟩
  have hk8 : ((List.range n).filter (rnM M)).length ≤ 8 := by rw [rnP_filter]; exact rn_8 z hO hR hn
  have hend := mI_n M n
  have hmono : ∀ i, i ≤ ((List.range n).filter (rnM M)).length → phC (mI M n ((List.range n).filter (rnM M)).length) n ≤ phC (mI M n i) n ∧ phS (mI M n ((List.range n).filter (rnM M)).length) n ≤ phS (mI M n i) n := fun i hi => by
    have := ph_le (mI_mono M n i (((List.range n).filter (rnM M)).length - i)) n
    rw [show i + (((List.range n).filter (rnM M)).length - i) = ((List.range n).filter (rnM M)).length by omega] at this
    exact this
  have hpce : phC (pc1 M n) n = phC (mI M n ((List.range n).filter (rnM M)).length) n ∧ phS (pc1 M n) n = phS (mI M n ((List.range n).filter (rnM M)).length) n := by rw [hend]; exact ph_eq (fun k => by unfold pc1 lisM; split <;> rfl) n
  refine V_aload_n C dX9_passMinute_0 rfl ?_
  refine V_aload_n C dX9_passMinute_1 rfl ?_
  refine V_callV C (As := []) (r_serveFirst hl h z hT.1 hO hR hn) kX9_237 hKy rfl rfl (Nat.le_of_ble_eq_true rfl) ⟨Nat.le_of_ble_eq_true rfl, Nat.le_of_ble_eq_true rfl⟩ ⟨(by first | exact Nat.le_of_ble_eq_true rfl | (dsimp only; omega)), (by first | exact Nat.le_of_ble_eq_true rfl | (dsimp only; omega))⟩ dX9_passMinute_2 (fun _ _ h => h.elim) (fun v2 Y2 hp => ?_)
  obtain ⟨sv, F, rfl, rfl, hF, hs, hs9⟩ := hp
  refine V_callV C (As := [_]) (r_levels hl h z hO hR hn hF hs hs9) kX9_240 hKy rfl rfl (Nat.le_of_ble_eq_true rfl) ⟨Nat.le_of_ble_eq_true rfl, Nat.le_of_ble_eq_true rfl⟩ ⟨(by first | exact Nat.le_of_ble_eq_true rfl | (dsimp only; omega)), (by first | exact Nat.le_of_ble_eq_true rfl | (dsimp only; omega))⟩ dX9_passMinute_5 (fun _ _ h => h.elim) (fun v5 Y5 hp => ?_)
  obtain ⟨rfl, G, rfl, hG⟩ := hp
  have c0 := fl_put h F G
  have z0 : zmX _ (m1M M n) := fl_zm z (fun i => F (lA L 6 i)) (fun i => G (lA L 6 i))
  have hfl0 : ∀ k, k < n → M.2 34 k = 1 → yN (zsF (zsF Z 332 (fun i => F (lA L 6 i))) 333 (fun i => G (lA L 6 i))) 333 k = powM M n k := hG
  have kz0 : kpZ Z (zsF (zsF Z 332 (fun i => F (lA L 6 i))) 333 (fun i => G (lA L 6 i))) ∨ True := Or.inr trivial
  obtain ⟨Zf, hZf⟩ : ∃ Zf, Zf = zsF (zsF Z 332 (fun i => F (lA L 6 i))) 333 (fun i => G (lA L 6 i)) := ⟨_, rfl⟩
  have g1 : yC Zf = yC Z ∧ yT Zf = yT Z ∧ yL Zf = yL Z ∧ yN Zf 576 = yN Z 576 ∧ yN Zf 650 = yN Z 650 ∧ yN Zf 646 = yN Z 646 ∧ yN Zf 65 = yN Z 65 ∧ yN Zf 66 = yN Z 66 := by rw [hZf]; exact ⟨rfl, rfl, rfl, rfl, rfl, rfl, rfl, rfl⟩
  rw [← hZf] at c0 z0 hfl0
  generalize sIf (sIf X 332 F) 333 G = Xf at c0 ⊢
  refine V_iconst C dX9_passMinute_8 ?_
  refine V_istore_n C dX9_passMinute_9 (by decide) rfl ?_
  refine V_iconst C dX9_passMinute_10 ?_
  refine V_istore_n C dX9_passMinute_11 (by decide) rfl ?_
  refine V_while C (St := Nat × Mm × Ly × Zs × Option Value) (f := fun z => z.2.1) (g := fun z => [some (rv (some (lA L 11 0))), some (iv (alS M n z.1)), some (iv (z.1 : Int)), z.2.2.2.2]) (cs := fun z => phC M n - phC (mI M n z.1) n) (ss := fun z => phS M n - phS (mI M n z.1) n) (μ := fun z => ((List.range n).filter (rnM M)).length + 1 - z.1) (I := fun z => z.1 ≤ ((List.range n).filter (rnM M)).length ∧ CX t0 ao mo ad z.2.2.1 z.2.1 z.2.2.2.1 Mr ∧ zmX z.2.2.2.1 (mI M n z.1) ∧ kpL L z.2.2.1 ∧ kpZ Zf z.2.2.2.1 ∧ phC (mI M n z.1) n ≤ phC M n ∧ phS (mI M n z.1) n ≤ phS M n ∧ phC (pc1 M n) n ≤ phC (mI M n z.1) n ∧ phS (pc1 M n) n ≤ phS (mI M n z.1) n) (x0 := (0, Xf, L, Zf, none)) rfl rfl (by show phC M n - phC (m1M M n) n = 0; rw [(ph_eq (M := M) (M2 := m1M M n) (fun _ => rfl) n).1]; omega) (by show phS M n - phS (m1M M n) n = 0; rw [(ph_eq (M := M) (M2 := m1M M n) (fun _ => rfl) n).2]; omega) ⟨Nat.zero_le _, c0, z0, kpL.rf L, kpZ.rf Zf, Nat.le_of_eq (ph_eq (M := M) (M2 := m1M M n) (fun _ => rfl) n).1, Nat.le_of_eq (ph_eq (M := M) (M2 := m1M M n) (fun _ => rfl) n).2, ?_, ?_⟩ ?_
  · rw [hpce.1]
    exact (hmono 0 (Nat.zero_le _)).1
  · rw [hpce.2]
    exact (hmono 0 (Nat.zero_le _)).2
  rintro ⟨i, Xi, Li, Zi, u3⟩ ⟨hi, hCi, zi, kLi, kZi, hp1, hp2, hp3, hp4⟩ ih
  dsimp only at hi hCi zi kLi kZi hp1 hp2 hp3 hp4 ih ⊢
  have yc := yd_C hCi zi
  rw [kLi.1 11 (by decide), kLi.1 1 (by decide)] at yc
  have fo := foM_far M (powM M n) (dayM M) (m1M M n) (((List.range n).filter (rnM M)).take i)
  have e1 : (mI M n i).1 = (m1M M n).1 := fo.1.1
  obtain ⟨hKy, ⟨-, -, -, -, -, hra⟩, hlm, hsn, -⟩ := yc
  rw [e1] at hlm hsn
  change gI Xi 647 (lA L 11 0) = M.1 3 at hlm
  change gI Xi 648 (lA L 11 0) = M.1 4 at hsn
  have hLI : LI t0 Xi (lA L 1 5) (((List.range n).filter (rnM M)).map (lA L 6)) (lD L 5) (lC L 5) := by
    have hj := hCi.li (j := 5) (c := 6) (xs := ((List.range n).filter (rnM M))) (by have := zi.1.2.2.2.2.2.2.2.2.2; omega) rfl (by rw [kZi.2.2.1, g1.2.2.1, z.2.1.2.2.2.2.2, hn])
    rw [kLi.1 1 (by decide), kLi.1 6 (by decide), kLi.2.1, kLi.2.2] at hj
    exact hj
  have hlen : (((List.range n).filter (rnM M)).map (lA L 6)).length = ((List.range n).filter (rnM M)).length := List.length_map _
  have has := foS_in (powM M n) (((List.range n).filter (rnM M)).take i) 0 (fun k hk => hpw k (hks k (List.mem_of_mem_take hk)).1)
  have hasl : (((List.range n).filter (rnM M)).take i).length ≤ 8 := by rw [List.length_take]; omega
  have has2 : 0 ≤ alS M n i ∧ alS M n i ≤ 400000 := ⟨has.1, Int.le_trans has.2 (by omega)⟩
  refine V_iload_n C dX9_passMinute_12 rfl ?_
  refine V_aload_n C dX9_passMinute_13 rfl ?_
  refine V_getP C cl10 fX9_28 (r := some ((lA L 1 5))) hKy hra dX9_passMinute_14 ?_
  refine V_callV1 C (As := []) (L_size hl hLI) kX9_63 hLI.1 rfl rfl (Nat.le_of_ble_eq_true rfl) ⟨Nat.le_of_ble_eq_true rfl, Nat.le_of_ble_eq_true rfl⟩ ⟨(by show phC M n - phC (mI M n i) n + 0 ≤ phC M n - phC (pc1 M n) n; omega), (by show phS M n - phS (mI M n i) n + 0 ≤ phS M n - phS (pc1 M n) n; omega)⟩ dX9_passMinute_17 ?_
  refine V_icmp_ge C dX9_passMinute_20 (by omega) (by omega) (fun h20 => ?_) (fun h20 => ?_)
  · obtain rfl : i = ((List.range n).filter (rnM M)).length := by omega
    have hall : alS M n ((List.range n).filter (rnM M)).length = sumF (powM M n) n := by
      unfold alS
      rw [List.take_length]
      exact foS (powM M n) M n (fun k hk h1 => (powM_in hO hn9 hk).2.2 h1)
    rw [hall] at has2 ⊢
    rw [hend] at zi
    have hov0 : gI Xi 650 (lA L 11 0) = M.1 2 := by
      rw [← kLi.1 11 (by decide)]
      exact hCi.gi (f := 650) (by decide) (by rw [zi.1.1]; omega) (by rw [kZi.2.2.2 650 (by decide) (by decide) (by decide) (by decide) (by decide) (by decide) (by decide) (by decide) (by decide), g1.2.2.2.2.1]; exact hT.2)
    obtain ⟨ov, hov⟩ : ∃ ov, ov = M.1 2 + if M.1 3 + M.1 4 < sumF (powM M n) n then 1 else 0 := ⟨_, rfl⟩
    have hpe := pm_end (n := n) (by rw [g1.1]; exact hn) (by unfold zmW; rw [g1.1, g1.2.2.2.1]; exact hW) hCi zi kLi kZi hov
    rw [kLi.1 11 (by decide)] at hpe
    obtain ⟨hc7, hq0, hq1⟩ := hpe
    refine V_meet C (α := Unit) (pcm := 75) (fun _ => True) (fun _ => sI Xi 650 (lA L 11 0) ov) (fun _ => [some (rv (some (lA L 11 0))), some (iv (sumF (powM M n) n)), some (iv (((List.range n).filter (rnM M)).length : Int)), u3]) (fun _ => []) (fun _ => phC M n - phC (mI M n ((List.range n).filter (rnM M)).length) n) (fun _ => phS M n - phS (mI M n ((List.range n).filter (rnM M)).length) n) (fun hj => ?_) (fun _ _ => ?_)
    · refine V_iload_n C dX9_passMinute_52 rfl ?_
      refine V_aload_n C dX9_passMinute_53 rfl ?_
      refine V_getIx C cl10 fX9_35 (x := M.1 3) hKy hlm dX9_passMinute_54 ?_
      refine V_aload_n C dX9_passMinute_57 rfl ?_
      refine V_getIx C cl10 fX9_38 (x := M.1 4) hKy hsn dX9_passMinute_58 ?_
      refine V_iadd C dX9_passMinute_61 ?_
      refine V_icmp_le C dX9_passMinute_62 (by omega) (by omega) (fun h62 => ?_) (fun h62 => ?_)
      · first | (rw [show M.1 2 + 1 = ov by rw [hov, if_pos (by omega)]]; exact hj () trivial) | (have h9 := hj () trivial; rw [sI_id (show gI Xi 650 (lA L 11 0) = ov by rw [hov0, hov, if_neg (by omega)]; omega)] at h9; exact h9)
      · refine V_aload_n C dX9_passMinute_65 rfl ?_
        refine V_dup C dX9_passMinute_66 rfl ?_
        refine V_getIx C cl10 fX9_44 (x := M.1 2) hKy hov0 dX9_passMinute_67 ?_
        refine V_iconst C dX9_passMinute_70 ?_
        refine V_iadd C dX9_passMinute_71 ?_
        refine V_putI C cl10 fX9_44 (Or.inl rfl) rfl hKy dX9_passMinute_72 ?_
        first | (rw [show M.1 2 + 1 = ov by rw [hov, if_pos (by omega)]]; exact hj () trivial) | (have h9 := hj () trivial; rw [sI_id (show gI Xi 650 (lA L 11 0) = ov by rw [hov0, hov, if_neg (by omega)]; omega)] at h9; exact h9)
    · have hno : gI (sI Xi 650 (lA L 11 0) ov) 646 (lA L 11 0) = M.1 1 := by
        show gI Xi 646 (lA L 11 0) = M.1 1
        rw [← kLi.1 11 (by decide)]
        exact hCi.gi (f := 646) (by decide) (by rw [zi.1.1]; omega) (by rw [kZi.2.2.2 646 (by decide) (by decide) (by decide) (by decide) (by decide) (by decide) (by decide) (by decide) (by decide), g1.2.2.2.2.2.1]; exact hT.1)
      refine V_aload_n C dX9_passMinute_75 rfl ?_
      refine V_dup C dX9_passMinute_76 rfl ?_
      refine V_getIx C cl10 fX9_31 (x := M.1 1) hKy hno dX9_passMinute_77 ?_
      refine V_iconst C dX9_passMinute_80 ?_
      refine V_iadd C dX9_passMinute_81 ?_
      refine V_putI C cl10 fX9_31 (Or.inl rfl) rfl hKy dX9_passMinute_82 ?_
      have hn1 : gI (sI (sI Xi 650 (lA L 11 0) ov) 646 (lA L 11 0) (M.1 1 + 1)) 646 (lA L 11 0) = M.1 1 + 1 := if_pos ⟨rfl, rfl⟩
      refine V_aload_n C dX9_passMinute_85 rfl ?_
      refine V_getIx C cl10 fX9_31 (x := (M.1 1 + 1)) hKy hn1 dX9_passMinute_86 ?_
      refine V_sipush C dX9_passMinute_89 (by decide) ?_
      refine V_iremN C dX9_passMinute_92 (by omega) (by decide) (by omega) (by first | decide | omega) ?_
      refine V_if_ne C dX9_passMinute_93 (by omega) (fun h93 => ?_) (fun h93 => ?_)
      · exact V_vret C (by show phC M n - phC (mI M n _) n ≤ phC M n - phC (pc1 M n) n; omega) (by show phS M n - phS (mI M n _) n ≤ phS M n - phS (pc1 M n) n; omega) ⟨rfl, by first | exact pmQ_kp g1 (hq1 (by omega)) | exact pmQ_kp g1 (hq0 (by omega))⟩ hr dX9_passMinute_100
      · refine V_aload_n C dX9_passMinute_96 rfl ?_
        have hcl := hc7.li (j := 3) (c := 4) (xs := List.range (yC Zi 4)) (by have := zi.1.2.2.2.2.2.2.2.2.2; show 3 < yC Zi 1; omega) rfl (show yL Zi 3 = _ from zi.2.1.2.2.2.1)
        have hcy := (yd_C hc7 (M := ptM M (powM M n) (dayM M) n (m1M M n)) zi).2.1.2.2.2.1
        rw [kLi.1 11 (by decide)] at hcy
        have hcm : ∀ q ∈ (List.range (yC Zi 4)).map (lA Li 4), ∃ i, i < yC Zi 4 ∧ lA Li 4 i = q := fun q hq => by obtain ⟨i, h1, h2⟩ := List.mem_map.mp hq; exact ⟨i, List.mem_range.mp h1, h2⟩
        have hc4 : ∀ i, i < yC Zi 4 → M.2 20 i = 0 ∨ M.2 20 i = 1 := fun i h1 => by have o4 := hO.2.2.2.1 i (by have := z.1.2.2.2.2.1; rw [kZi.1, g1.1] at h1; omega); unfold okCd at o4; omega
        refine V_callV0 C (As := []) (c_X9_listCards hl hKy hcy hcl (fun q hq => ?_) (fun q hq => ?_)) kX9_378 hKy rfl rfl (Nat.le_of_ble_eq_true rfl) ⟨Nat.le_of_ble_eq_true rfl, Nat.le_of_ble_eq_true rfl⟩ ⟨(by show phC M n - _ + 0 ≤ phC M n - phC (pc1 M n) n; omega), (by show phS M n - _ + 0 ≤ phS M n - phS (pc1 M n) n; omega)⟩ dX9_passMinute_97 ?_
        · obtain ⟨i, h1, rfl⟩ := hcm q hq
          exact hc7.gk (c := 4) (by decide) h1
        · obtain ⟨i, h1, rfl⟩ := hcm q hq
          have hz4 : yN Zi 194 i = M.2 20 i := by rw [(zi.2.2.2.2.2.2.1 i h1).2.2.1, (ptM_st M (powM M n) (dayM M) (m1M M n) n).2 20 rfl]; rfl
          rw [hc7.gi (f := 194) (c := 4) (i := i) (by decide) h1 hz4]
          exact hc4 i h1
        rw [List.length_map, List.length_range]
        exact V_vret C (by show phC M n - phC (mI M n _) n ≤ phC M n - phC (pc1 M n) n; omega) (by show phS M n - phS (mI M n _) n ≤ phS M n - phS (pc1 M n) n; omega) ⟨rfl, by first | exact pmQ_kp g1 (hq1 (by omega)) | exact pmQ_kp g1 (hq0 (by omega))⟩ hr dX9_passMinute_100
  · obtain ⟨k, hk⟩ : ∃ k, ((List.range n).filter (rnM M))[i]? = some k := ⟨((List.range n).filter (rnM M))[i]'(by omega), List.getElem?_eq_getElem (by omega)⟩
    have hkm := hks k (List.mem_of_getElem? hk)
    have hq : (((List.range n).filter (rnM M)).map (lA L 6))[i]? = some (lA L 6 k) := by rw [List.getElem?_map, hk]; rfl
    have hk6 : k < yC Zi 6 := by rw [kZi.1, g1.1, ← hn]; exact hkm.1
    have hKq : gK Xi (lA L 6 k) = 6 := by rw [← kLi.1 6 (by decide)]; exact hCi.gk (by decide) hk6
    have hy333 : yN Zi 333 k = powM M n k := by rw [kZi.2.2.2 333 (by decide) (by decide) (by decide) (by decide) (by decide) (by decide) (by decide) (by decide) (by decide)]; exact hfl0 k hkm.1 hkm.2
    have hflow : gI Xi 333 (lA L 6 k) = powM M n k := by rw [← kLi.1 6 (by decide)]; exact hCi.gi (f := 333) (by decide) hk6 hy333
    have hpk := hpw k hkm.1
    obtain ⟨m1, m2⟩ := mI_1 hk
    have hnt := mI_nt hk
    have hH := mI_hH hO hR hCc hE hn9 hW hnow hn kZi g1 hk hnt hkm
    obtain ⟨mc, ms, r1, r2, hct⟩ := r_letFlow (b := b) (D := D) (kA := kA) hl hCi zi hH hy333
    rw [kLi.1 6 (by decide)] at hct
    have hon : onM (mI M n i) k (powM M n k) (dayM M) = mI M n (i + 1) := by rw [m1]; exact (oneM_on hkm.2 (fo.1.2 10 rfl) (fo.1.2 31 rfl) (fo.1.2 32 rfl) (fo.1.2 14 rfl)).symm
    have e37 : (mI M n (i + 1)).2 37 k = (mI M n i).2 37 k + 1 := by rw [m1]; exact oneM_37 hkm.2
    have e37n : ((mI M n (i + 1)).2 37 k).toNat = ((mI M n i).2 37 k).toNat + 1 := by have := hH.2.2.1.1; omega
    rw [← e37n] at r1 r2
    have hpo := (ph_one (M := mI M n i) (M2 := mI M n (i + 1)) (k := k) (fun j hj => by rw [m1]; exact (oneM_far M (powM M n) (dayM M) (mI M n i) k).1 37 j (by decide) hj) r1 r2 n).1 hkm.1
    have hmo := hmono (i + 1) (by omega)
    rw [← hpce.1, ← hpce.2] at hmo
    refine V_aload_n C dX9_passMinute_23 rfl ?_
    refine V_getP C cl10 fX9_28 (r := some ((lA L 1 5))) hKy hra dX9_passMinute_24 ?_
    refine V_iload_n C dX9_passMinute_27 rfl ?_
    refine V_callV1 C (As := [_]) (L_get hl hLI hq rfl) kX9_283 hLI.1 rfl rfl (Nat.le_of_ble_eq_true rfl) ⟨Nat.le_of_ble_eq_true rfl, Nat.le_of_ble_eq_true rfl⟩ ⟨(by show phC M n - phC (mI M n i) n + 0 ≤ phC M n - phC (pc1 M n) n; omega), (by show phS M n - phS (mI M n i) n + 0 ≤ phS M n - phS (pc1 M n) n; omega)⟩ dX9_passMinute_28 ?_
    refine V_cast C cl5 cc_RX9_161 hKq dX9_passMinute_31 ?_
    refine V_astore_n C dX9_passMinute_34 (by decide) rfl ?_
    refine V_iload_n C dX9_passMinute_35 rfl ?_
    refine V_aload_n C dX9_passMinute_36 rfl ?_
    refine V_getIx C cl5 fX9_244 (x := powM M n k) hKq hflow dX9_passMinute_37 ?_
    refine V_iadd C dX9_passMinute_40 ?_
    refine V_istore_n C dX9_passMinute_41 (by decide) rfl ?_
    refine V_aload_n C dX9_passMinute_42 rfl ?_
    refine V_callS C (As := [_]) (hct) kX9_375 rfl rfl (Nat.le_of_ble_eq_true rfl) ⟨Nat.le_of_ble_eq_true rfl, Nat.le_of_ble_eq_true rfl⟩ ⟨(by show phC M n - phC (mI M n i) n + mc ≤ phC M n - phC (pc1 M n) n; omega), (by show phS M n - phS (mI M n i) n + ms ≤ phS M n - phS (pc1 M n) n; omega)⟩ dX9_passMinute_43 (fun _ _ h => h.elim) (fun v43 Y43 hp => ?_)
    obtain ⟨rfl, L3, Z3, hC3, zC3, kL3, kZ3⟩ := hp
    refine V_iinc C dX9_passMinute_46 (by decide) rfl rfl ?_
    refine V_goto C dX9_passMinute_49 ?_
    rw [hon] at zC3
    have h8 := ih (i + 1, Y43, L3, Z3, some (rv (some (lA L 6 k)))) ⟨by show i + 1 ≤ ((List.range n).filter (rnM M)).length; omega, hC3, zC3, kLi.tr kL3, kZi.tr kZ3, by dsimp only; omega, by dsimp only; omega, hmo.1, hmo.2⟩ (by show ((List.range n).filter (rnM M)).length + 1 - (i + 1) < ((List.range n).filter (rnM M)).length + 1 - i; omega)
    dsimp only at h8
    rw [m2] at h8
    exact V_widen (by omega) (by omega) h8
end CLS16
