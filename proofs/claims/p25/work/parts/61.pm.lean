/-! powers by numbers; what a minute leaves -/
theorem foM_id (M0 : Mo) (P : Nat → Int) (day : Int) (M1 : Mo) (n : Nat) : ((List.range n).filter (rnM M0)).foldl (fun M2 k => oneM M0 P day M2 k) M1 = ptM M0 P day n M1 := by
  induction n with
  | zero => rfl
  | succ n ih =>
    rw [List.range_succ, List.filter_append, List.foldl_append, ih]
    show _ = oneM M0 P day (ptM M0 P day n M1) n
    by_cases h : M0.2 34 n = 1
    · simp [rnM, h]
    · have : oneM M0 P day (ptM M0 P day n M1) n = ptM M0 P day n M1 := if_neg h
      simp [rnM, h, this]
theorem setA_far {M : Mo} {j k q i : Nat} {v : Int} (h : i ≠ k) : (setA M j k v).2 q i = M.2 q i := by
  show (if q = j then (if i = k then v else M.2 j i) else M.2 q i) = _
  by_cases e : q = j
  · rw [if_pos e, if_neg h, e]
  · rw [if_neg e]
theorem setA_ne {M : Mo} {j k q i : Nat} {v : Int} (h : q ≠ j) : (setA M j k v).2 q i = M.2 q i := by
  show (if q = j then (if i = k then v else M.2 j i) else M.2 q i) = _
  rw [if_neg h]
/-- what a session's minute leaves as it is -/
theorem oneM_far (M0 : Mo) (P : Nat → Int) (day : Int) (M : Mo) (k : Nat) : (∀ j i, j ≠ 15 → i ≠ k → (oneM M0 P day M k).2 j i = M.2 j i) ∧ (∀ i, i ≠ (M0.2 32 k).toNat → (oneM M0 P day M k).2 15 i = M.2 15 i) := by
  unfold oneM heardM
  constructor
  · intro j i hj hi
    split
    · split <;> simp only [setA_far hi, setA_ne hj]
    · rfl
  · intro i hi
    split
    · split <;> simp [setA, hi]
    · rfl
theorem foM_far (M0 : Mo) (P : Nat → Int) (day : Int) (M1 : Mo) : ∀ ks : List Nat, ((ks.foldl (fun M2 k => oneM M0 P day M2 k) M1).1 = M1.1 ∧ ∀ j, stR j = true → (ks.foldl (fun M2 k => oneM M0 P day M2 k) M1).2 j = M1.2 j) ∧ (∀ j i, j ≠ 15 → i ∉ ks → (ks.foldl (fun M2 k => oneM M0 P day M2 k) M1).2 j i = M1.2 j i) ∧ (∀ i, (∀ k ∈ ks, (M0.2 32 k).toNat ≠ i) → (ks.foldl (fun M2 k => oneM M0 P day M2 k) M1).2 15 i = M1.2 15 i) := by
  intro ks
  induction ks generalizing M1 with
  | nil => exact ⟨⟨rfl, fun _ _ => rfl⟩, fun _ _ _ _ => rfl, fun _ _ => rfl⟩
  | cons k ks ih =>
    obtain ⟨⟨i1, i2⟩, i3, i4⟩ := ih (oneM M0 P day M1 k)
    obtain ⟨g1, g2⟩ := oneM_st M0 P day M1 k
    obtain ⟨f1, f2⟩ := oneM_far M0 P day M1 k
    refine ⟨⟨i1.trans g1, fun j hj => (i2 j hj).trans (g2 j hj)⟩, fun j i hj hi => ?_, fun i hi => ?_⟩
    · exact (i3 j i hj (fun z => hi (List.mem_cons_of_mem _ z))).trans (f1 j i hj (fun z => hi (z ▸ List.mem_cons_self)))
    · exact (i4 i (fun q hq => hi q (List.mem_cons_of_mem _ hq))).trans (f2 i (fun z => hi k List.mem_cons_self z.symm))
theorem ptM_37 (M0 : Mo) (P : Nat → Int) (day : Int) (M1 : Mo) (k : Nat) : ∀ j, (ptM M0 P day j M1).2 37 k = M1.2 37 k + if k < j ∧ M0.2 34 k = 1 then 1 else 0 := by
  intro j
  induction j with
  | zero =>
    show M1.2 37 k = _
    rw [if_neg (fun z => by have := z.1; omega)]
    omega
  | succ j ih =>
    show (oneM M0 P day (ptM M0 P day j M1) j).2 37 k = _
    by_cases e : k = j
    · subst e
      rw [if_neg (fun z => by have := z.1; omega)] at ih
      unfold oneM heardM
      by_cases h : M0.2 34 k = 1
      · rw [if_pos h, if_pos (show k < k + 1 ∧ M0.2 34 k = 1 from ⟨by omega, h⟩)]
        split <;> simp [setA, ih]
      · rw [if_neg h, if_neg (fun z => h z.2), ih]
    · rw [(oneM_far M0 P day _ j).1 37 k (by decide) e, ih]
      have : (k < j ∧ M0.2 34 k = 1) ↔ (k < j + 1 ∧ M0.2 34 k = 1) := by
        constructor
        · intro z
          exact ⟨by omega, z.2⟩
        · intro z
          exact ⟨by omega, z.2⟩
      simp only [this]
/-- the sum over those that run -/
theorem foS (P : Nat → Int) (M : Mo) (n : Nat) (h : ∀ k, k < n → M.2 34 k ≠ 1 → P k = 0) : ((List.range n).filter (rnM M)).foldl (fun s k => s + P k) 0 = sumF P n := by
  have key : ∀ j, j ≤ n → ((List.range j).filter (rnM M)).foldl (fun s k => s + P k) 0 = sumF P j := by
    intro j
    induction j with
    | zero => exact fun _ => rfl
    | succ j ih =>
      intro hj
      rw [List.range_succ, List.filter_append, List.foldl_append, ih (by omega)]
      show _ = sumF P j + P j
      by_cases e : M.2 34 j = 1
      · simp [rnM, e]
      · simp [rnM, e, h j (by omega) e]
  exact key n (Nat.le_refl _)
theorem foS_in (P : Nat → Int) : ∀ (ks : List Nat) (s : Int), (∀ k ∈ ks, 0 ≤ P k ∧ P k ≤ 50000) → s ≤ ks.foldl (fun s k => s + P k) s ∧ ks.foldl (fun s k => s + P k) s ≤ s + 50000 * (ks.length : Int) := by
  intro ks
  induction ks with
  | nil => intro s _; exact ⟨Int.le_refl _, by show s ≤ s + 50000 * ((0 : Nat) : Int); omega⟩
  | cons k ks ih =>
    intro s h
    have h1 := h k List.mem_cons_self
    have h2 := ih (s + P k) (fun q hq => h q (List.mem_cons_of_mem _ hq))
    show s ≤ ks.foldl (fun s k => s + P k) (s + P k) ∧ ks.foldl (fun s k => s + P k) (s + P k) ≤ s + 50000 * ((ks.length + 1 : Nat) : Int)
    omega
/-- what rows may still cost, together -/
def phC (M : Mo) : Nat → Nat
  | 0 => 0
  | k + 1 => phC M k + remC (capOf (M.2 37 k).toNat)
def phS (M : Mo) : Nat → Nat
  | 0 => 0
  | k + 1 => phS M k + remS (capOf (M.2 37 k).toNat)
theorem ph_one {M M2 : Mo} {k mc ms : Nat} (hj : ∀ j, j ≠ k → M2.2 37 j = M.2 37 j) (h1 : mc + remC (capOf (M2.2 37 k).toNat) ≤ remC (capOf (M.2 37 k).toNat)) (h2 : ms + remS (capOf (M2.2 37 k).toNat) ≤ remS (capOf (M.2 37 k).toNat)) : ∀ n, (k < n → mc + phC M2 n ≤ phC M n ∧ ms + phS M2 n ≤ phS M n) ∧ (¬ k < n → phC M2 n = phC M n ∧ phS M2 n = phS M n) := by
  intro n
  induction n with
  | zero => exact ⟨fun z => absurd z (Nat.not_lt_zero k), fun _ => ⟨rfl, rfl⟩⟩
  | succ n ih =>
    show (k < n + 1 → mc + (phC M2 n + remC (capOf (M2.2 37 n).toNat)) ≤ phC M n + remC (capOf (M.2 37 n).toNat) ∧ ms + (phS M2 n + remS (capOf (M2.2 37 n).toNat)) ≤ phS M n + remS (capOf (M.2 37 n).toNat)) ∧ (¬ k < n + 1 → phC M2 n + remC (capOf (M2.2 37 n).toNat) = phC M n + remC (capOf (M.2 37 n).toNat) ∧ phS M2 n + remS (capOf (M2.2 37 n).toNat) = phS M n + remS (capOf (M.2 37 n).toNat))
    by_cases e : n = k
    · subst e
      have := ih.2 (by omega)
      exact ⟨fun _ => by omega, fun z => by omega⟩
    · rw [hj n e]
      refine ⟨fun z => ?_, fun z => ?_⟩
      · have := ih.1 (by omega)
        omega
      · have := ih.2 (by omega)
        omega
section PM
variable {l : Launch} {D : va_G} {kA : Nat → ClassId} {b t0 ao mo : Nat} {ad : Nat → Nat} {L : Ly} {X Y : Mm} {Z : Zs} {Mr M : Mo} {n : Nat}
/-- the yard's own cell -/
theorem yd_C (h : CX t0 ao mo ad L X Z Mr) (z : zmX Z M) : gK X (lA L 11 0) = 11 ∧ (gP X 640 (lA L 11 0) = some (lA L 1 0) ∧ gP X 641 (lA L 11 0) = some (lA L 1 1) ∧ gP X 642 (lA L 11 0) = some (lA L 1 2) ∧ gP X 643 (lA L 11 0) = some (lA L 1 3) ∧ gP X 644 (lA L 11 0) = some (lA L 1 4) ∧ gP X 645 (lA L 11 0) = some (lA L 1 5)) ∧ (gI X 647 (lA L 11 0) = M.1 3 ∧ gI X 648 (lA L 11 0) = M.1 4 ∧ gI X 649 (lA L 11 0) = M.1 5) := by
  obtain ⟨hC, -, ⟨⟨y0, y1, y2, y3, y4, y5⟩, y6, y7, y8⟩, -⟩ := z
  have h0 : 0 < yC Z 11 := by rw [hC.1]; omega
  exact ⟨h.gk (by decide) h0, ⟨(h.gp (f := 640) (g := 1) (by decide) h0 y0).1, (h.gp (f := 641) (g := 1) (by decide) h0 y1).1, (h.gp (f := 642) (g := 1) (by decide) h0 y2).1, (h.gp (f := 643) (g := 1) (by decide) h0 y3).1, (h.gp (f := 644) (g := 1) (by decide) h0 y4).1, (h.gp (f := 645) (g := 1) (by decide) h0 y5).1⟩, h.gi (f := 647) (by decide) h0 y6, h.gi (f := 648) (by decide) h0 y7, h.gi (f := 649) (by decide) h0 y8⟩
theorem rs_LI (h : CX t0 ao mo ad L X Z Mr) (z : zmX Z M) (hn : n = yC Z 6) : LI t0 X (lA L 1 5) (((List.range n).filter (rnP M n)).map (lA L 6)) (lD L 5) (lC L 5) := by
  subst hn
  rw [← rnP_filter]
  exact h.li (by have := z.1.2.2.2.2.2.2.2.2.2; omega) rfl z.2.1.2.2.2.2.2
theorem r_serveFirst (hl : l.stackTraces = false) (h : CX t0 ao mo ad L X Z Mr) (z : zmX Z M) (hT : yN Z 646 0 = M.1 1) (hO : OkM M) (hR : ivR M) (hn : n = yC Z 6) : Ct l D kA b t0 yX9_serveFirst cX9_serveFirst 4 (some FieldType.int) 4 92 [rv (some (lA L 11 0))] X 0 0 (fun v Y => ∃ (s : Int × (Nat → Int)) (F : Nat → Int), v = some (iv s.1) ∧ Y = sIf (sIf X 332 F) 333 s.2 ∧ (∀ q ∈ ((List.range n).filter (rnP M n)).map (lA L 6), F q = aB X (M.1 5) q) ∧ srR n (rnP M n) (lA L 6) M (BM M n) s (s2M M n) ∧ (-2000000 ≤ s.1 ∧ s.1 ≤ 300000)) pF := by
  obtain ⟨y1, ⟨-, -, -, -, -, y2⟩, y3, y4, y5⟩ := yd_C h z
  have h0 : 0 < yC Z 11 := by rw [z.1.1]; omega
  have y6 := h.gi (f := 646) (c := 11) (by decide) h0 hT
  have o := hO.1
  unfold okSc at o
  obtain ⟨q1, q2⟩ := fl_sf h z hO hn
  have hr8 : (((List.range n).filter (rnP M n)).map (lA L 6)).length ≤ 8 := by
    rw [List.length_map]
    exact rn_8 z hO hR hn
  refine Ct.weak (c_X9_serveFirst hl y1 y2 (rs_LI h z hn) hr8 y3 y4 y5 y6 (by omega) (by omega) (by omega) (by omega) q1 q2) ?_
  rintro v Y ⟨F, G, hF, hG, rfl, rfl⟩
  refine ⟨_, F, rfl, rfl, hF, fl_srv h z hO hn rfl hG, ?_⟩
  have b1 := lfF_in (aF X (M.1 5) (M.1 1)) (((List.range n).filter (rnP M n)).map (lA L 6)) (M.1 3 + M.1 4) (fun q hq => (q1 q hq).2.2.2.2.2.2.2.2.2.2.2.2.2.2.2.2.2.2) _ (Nat.le_refl _)
  have b2 := svR_in (aU X) (aB X (M.1 5)) (aR X) 1 (((List.range n).filter (rnP M n)).map (lA L 6)) (fun q hq => (q1 q hq).2.2.2.2.2.2.2.2.2.2.2.2.2.2.2.2.1) (lfF (aF X (M.1 5) (M.1 1)) (((List.range n).filter (rnP M n)).map (lA L 6)) (((List.range n).filter (rnP M n)).map (lA L 6)).length (M.1 3 + M.1 4), G) 4
  have b3 := svR_in (aU X) (aB X (M.1 5)) (aR X) 0 (((List.range n).filter (rnP M n)).map (lA L 6)) (fun q hq => (q1 q hq).2.2.2.2.2.2.2.2.2.2.2.2.2.2.2.2.1) (svR (aU X) (aB X (M.1 5)) (aR X) 1 (((List.range n).filter (rnP M n)).map (lA L 6)) 4 (lfF (aF X (M.1 5) (M.1 1)) (((List.range n).filter (rnP M n)).map (lA L 6)) (((List.range n).filter (rnP M n)).map (lA L 6)).length (M.1 3 + M.1 4), G)) 4
  dsimp only at b2
  omega
theorem shr_hyp (h : CX t0 ao mo ad L X Z Mr) (z : zmX Z M) (hO : OkM M) (hn : n = yC Z 6) {s : Int × (Nat → Int)} {F : Nat → Int} (hF : ∀ q ∈ ((List.range n).filter (rnP M n)).map (lA L 6), F q = aB X (M.1 5) q) : ruI (sIf (sIf X 332 F) 333 s.2) (((List.range n).filter (rnP M n)).map (lA L 6)) (aS X) (aU X) (aB X (M.1 5)) := fun q hq => by
  obtain ⟨q1, q2, q3, q4, q5, q6, q7, q8, q9, q10, q11, q12, q13, q14, q15, q16, q17, q18, q19⟩ := (fl_sf h z hO hn).1 q hq
  exact ⟨q1, q2, q3, q4, q5, hF q hq, q17⟩
theorem r_levels (hl : l.stackTraces = false) (h : CX t0 ao mo ad L X Z Mr) (z : zmX Z M) (hO : OkM M) (hR : ivR M) (hn : n = yC Z 6) {s : Int × (Nat → Int)} {F : Nat → Int} (hF : ∀ q ∈ ((List.range n).filter (rnP M n)).map (lA L 6), F q = aB X (M.1 5) q) (hs : srR n (rnP M n) (lA L 6) M (BM M n) s (s2M M n)) (hs9 : -2000000 ≤ s.1 ∧ s.1 ≤ 300000) : Ct l D kA b t0 yX9_shareByLevels cX9_shareByLevels 8 none 4 89 [rv (some (lA L 11 0)), iv s.1] (sIf (sIf X 332 F) 333 s.2) 0 0 (fun v Y => v = none ∧ ∃ G : Nat → Int, Y = sIf (sIf X 332 F) 333 G ∧ ∀ k, k < n → M.2 34 k = 1 → G (lA L 6 k) = powM M n k) pF := by
  obtain ⟨y1, ⟨-, -, -, -, -, y2⟩, -⟩ := yd_C h z
  obtain ⟨f1, f2, f3, f4, f5, f6⟩ := fl_shr h z hO hR hn hs
  have o := hO.1
  unfold okSc at o
  refine Ct.weak (c_X9_shareByLevels hl (X := sIf (sIf X 332 F) 333 s.2) (n := n) y1 y2 (LI.same (rs_LI h z hn) rfl rfl rfl rfl rfl) (shr_hyp h z hO hn hF) rfl f1 (fun k hk _ => f5 k hk) (fun k hk => (f5 k hk).2) (fun k hk _ => f6 k hk) f2 f4 (by have := z.1.2.2.2.2.2.1; omega) hs9) ?_
  rintro v Y ⟨rfl, G, rfl, hG⟩
  refine ⟨rfl, G, sIf_sIf _ _ _ _, fun k hk hp => ?_⟩
  rw [hG k hk (rnP_iff.mpr ⟨hk, hp⟩), f3]
  rfl
theorem r_watts (hl : l.stackTraces = false) (h : CX t0 ao mo ad L X Z Mr) (z : zmX Z M) (hO : OkM M) (hR : ivR M) (hn : n = yC Z 6) {s : Int × (Nat → Int)} {F : Nat → Int} (hF : ∀ q ∈ ((List.range n).filter (rnP M n)).map (lA L 6), F q = aB X (M.1 5) q) (hs : srR n (rnP M n) (lA L 6) M (BM M n) s (s2M M n)) (hs9 : -2000000 ≤ s.1 ∧ s.1 ≤ 300000) : Ct l D kA b t0 yX9_shareWattByWatt cX9_shareWattByWatt 7 none 3 64 [rv (some (lA L 11 0)), iv s.1] (sIf (sIf X 332 F) 333 s.2) 0 0 (fun v Y => v = none ∧ ∃ G : Nat → Int, Y = sIf (sIf X 332 F) 333 G ∧ ∀ k, k < n → M.2 34 k = 1 → G (lA L 6 k) = powM M n k) pF := by
  obtain ⟨y1, ⟨-, -, -, -, -, y2⟩, -⟩ := yd_C h z
  obtain ⟨f1, f2, f3, f4, f5, f6⟩ := fl_shr h z hO hR hn hs
  have o := hO.1
  unfold okSc at o
  refine Ct.weak (c_X9_shareWattByWatt hl (X := sIf (sIf X 332 F) 333 s.2) (n := n) y1 y2 (LI.same (rs_LI h z hn) rfl rfl rfl rfl rfl) (shr_hyp h z hO hn hF) rfl f1 (fun k hk _ => f5 k hk) (fun k hk => (f5 k hk).2) (fun k hk _ => f6 k hk) f2 f4 (by have := z.1.2.2.2.2.2.1; omega) hs9) ?_
  rintro v Y ⟨rfl, G, rfl, hG⟩
  refine ⟨rfl, G, sIf_sIf _ _ _ _, fun k hk hp => ?_⟩
  rw [hG k hk (rnP_iff.mpr ⟨hk, hp⟩), f3]
  rfl
/-- flows in their places -/
theorem fl_put (h : CX t0 ao mo ad L X Z Mr) (F G : Nat → Int) : CX t0 ao mo ad L (sIf (sIf X 332 F) 333 G) (zsF (zsF Z 332 (fun i => F (lA L 6 i))) 333 (fun i => G (lA L 6 i))) Mr := (h.putF (f := 332) (c := 6) rfl (by decide) (by decide)).putF (f := 333) (c := 6) rfl (by decide) (by decide)
theorem fl_zm (z : zmX Z M) (F G : Nat → Int) : zmX (zsF (zsF Z 332 F) 333 G) M := z
end PM
