/-! what holds throughout: a minute keeps it -/
theorem ptM_far (M0 : Mo) (P : Nat → Int) (day : Int) (M1 : Mo) (k : Nat) : ∀ j, j ≤ k → ∀ q, q ≠ 15 → (ptM M0 P day j M1).2 q k = M1.2 q k := by
  intro j
  induction j with
  | zero => exact fun _ _ _ => rfl
  | succ j ih =>
    intro hj q hq
    exact ((oneM_far M0 P day (ptM M0 P day j M1) j).1 q k hq (by omega)).trans (ih (by omega) q hq)
theorem ptM_at (M0 : Mo) (P : Nat → Int) (day : Int) (M1 : Mo) (k : Nat) : ∀ j, k < j → ∀ q, q ≠ 15 → (ptM M0 P day j M1).2 q k = (oneM M0 P day (ptM M0 P day k M1) k).2 q k := by
  intro j
  induction j with
  | zero => exact fun h => absurd h (Nat.not_lt_zero k)
  | succ j ih =>
    intro hj q hq
    rcases Nat.lt_succ_iff_lt_or_eq.mp hj with z | rfl
    · exact ((oneM_far M0 P day (ptM M0 P day j M1) j).1 q k hq (by omega)).trans (ih z q hq)
    · rfl
theorem ptM_se (M0 : Mo) (P : Nat → Int) (day : Int) (M1 : Mo) {k n : Nat} (hk : k < n) (h : M0.2 34 k = 1) : (ptM M0 P day n M1).2 35 k = M1.2 35 k + P k ∧ (ptM M0 P day n M1).2 36 k = P k ∧ (ptM M0 P day n M1).2 37 k = M1.2 37 k + 1 ∧ (ptM M0 P day n M1).2 39 k = M1.2 39 k + (if day = 1 then P k else 0) ∧ (ptM M0 P day n M1).2 40 k = M1.2 40 k + (if day = 1 then 0 else P k) ∧ (M1.2 41 k ≤ (ptM M0 P day n M1).2 41 k ∧ (ptM M0 P day n M1).2 41 k ≤ M1.2 41 k + 1) ∧ (((ptM M0 P day n M1).2 38 k = (ptM M0 P day n M1).2 37 k ∧ (ptM M0 P day n M1).2 42 k = (ptM M0 P day n M1).2 39 k ∧ (ptM M0 P day n M1).2 43 k = (ptM M0 P day n M1).2 40 k ∧ (ptM M0 P day n M1).2 44 k = (ptM M0 P day n M1).2 41 k) ∨ ((ptM M0 P day n M1).2 38 k = M1.2 38 k ∧ (ptM M0 P day n M1).2 42 k = M1.2 42 k ∧ (ptM M0 P day n M1).2 43 k = M1.2 43 k ∧ (ptM M0 P day n M1).2 44 k = M1.2 44 k)) := by
  have ha := ptM_at M0 P day M1 k n hk
  have hf := ptM_far M0 P day M1 k k (Nat.le_refl k)
  rw [ha 35 (by decide), ha 36 (by decide), ha 37 (by decide), ha 38 (by decide), ha 39 (by decide), ha 40 (by decide), ha 41 (by decide), ha 42 (by decide), ha 43 (by decide), ha 44 (by decide)]
  have f35 := hf 35 (by decide)
  have f37 := hf 37 (by decide)
  have f38 := hf 38 (by decide)
  have f39 := hf 39 (by decide)
  have f40 := hf 40 (by decide)
  have f41 := hf 41 (by decide)
  have f42 := hf 42 (by decide)
  have f43 := hf 43 (by decide)
  have f44 := hf 44 (by decide)
  generalize ptM M0 P day k M1 = N at f35 f37 f38 f39 f40 f41 f42 f43 f44
  obtain ⟨x, hx⟩ : ∃ x : Int, x = if P k = 0 ∧ N.2 15 (M0.2 32 k).toNat = M0.2 14 (M0.2 32 k).toNat then 1 else 0 := ⟨_, rfl⟩
  have hx1 : x = 0 ∨ x = 1 := by rw [hx]; split <;> omega
  unfold oneM heardM
  rw [if_pos h, ← hx]
  by_cases c : M0.2 10 (M0.2 31 k).toNat = 0
  · rw [if_pos c]
    simp only [setA, if_true, if_neg (show ¬ (35 = 36) by decide)]
    simp [f35, f37, f39, f40, f41]
    omega
  · rw [if_neg c]
    simp [setA, f35, f37, f38, f39, f40, f41, f42, f43, f44]
    omega
theorem one_15 (M0 : Mo) (P : Nat → Int) (day : Int) (N : Mo) (k : Nat) : (oneM M0 P day N k).2 15 (M0.2 32 k).toNat = N.2 15 (M0.2 32 k).toNat + if M0.2 34 k = 1 then P k else 0 := by
  unfold oneM heardM
  by_cases h : M0.2 34 k = 1
  · rw [if_pos h, if_pos h]
    split <;> simp [setA]
  · rw [if_neg h, if_neg h]
    omega
theorem one_no (M0 : Mo) (P : Nat → Int) (day : Int) (N : Mo) (k : Nat) (h : M0.2 34 k ≠ 1) : oneM M0 P day N k = N := if_neg h
theorem ptM_nocar (M0 : Mo) (P : Nat → Int) (day : Int) (M1 : Mo) (c a : Nat) : ∀ d, (∀ k, a ≤ k → k < a + d → M0.2 34 k = 1 → (M0.2 32 k).toNat ≠ c) → (ptM M0 P day (a + d) M1).2 15 c = (ptM M0 P day a M1).2 15 c := by
  intro d
  induction d with
  | zero => exact fun _ => rfl
  | succ d ih =>
    intro h
    have h1 := ih (fun k k1 k2 => h k k1 (by omega))
    show (oneM M0 P day (ptM M0 P day (a + d) M1) (a + d)).2 15 c = _
    by_cases e : M0.2 34 (a + d) = 1
    · rw [(oneM_far M0 P day (ptM M0 P day (a + d) M1) (a + d)).2 c (fun y => h (a + d) (by omega) (by omega) e y.symm)]
      exact h1
    · rw [one_no M0 P day _ _ e]
      exact h1
theorem ptM_car (M0 : Mo) (P : Nat → Int) (day : Int) (M1 : Mo) {k n : Nat} (hk : k < n) (h : M0.2 34 k = 1) (hd : ∀ j, j < n → M0.2 34 j = 1 → (M0.2 32 j).toNat = (M0.2 32 k).toNat → j = k) : (ptM M0 P day n M1).2 15 (M0.2 32 k).toNat = M1.2 15 (M0.2 32 k).toNat + P k := by
  have h1 := ptM_nocar M0 P day M1 (M0.2 32 k).toNat 0 k (fun j _ j2 j3 e => by have := hd j (by omega) j3 e; omega)
  have h2 := ptM_nocar M0 P day M1 (M0.2 32 k).toNat (k + 1) (n - (k + 1)) (fun j j1 j2 j3 e => by have := hd j (by omega) j3 e; omega)
  rw [show k + 1 + (n - (k + 1)) = n by omega] at h2
  rw [Nat.zero_add] at h1
  have h3 : (ptM M0 P day (k + 1) M1).2 15 (M0.2 32 k).toNat = (ptM M0 P day k M1).2 15 (M0.2 32 k).toNat + if M0.2 34 k = 1 then P k else 0 := one_15 M0 P day (ptM M0 P day k M1) k
  rw [if_pos h] at h3
  rw [h2, h3, h1]
  rfl
/-- what the class's minute wants of the reference's numbers -/
def Jv (M : Mo) : Prop := OkM M ∧ ivS M ∧ ivR M ∧ ivC M ∧ ivE M ∧ ivZ M
theorem jv_pc1 {M : Mo} {n : Nat} (h : Jv M) (hn : (n : Int) = M.1 30) (hnow : M.1 1 < 20000) : Jv (pc1 M n) := by
  obtain ⟨hO, iS, iR, iC, iE, z1, z2, z3⟩ := h
  have st := ptM_st M (powM M n) (dayM M) (m1M M n) n
  have hse := fun k (hk : k < n) h => ptM_se M (powM M n) (dayM M) (m1M M n) hk h
  have hno := fun k (hk : k < n) (h : M.2 34 k ≠ 1) q (hq : q ≠ 15) => (ptM_at M (powM M n) (dayM M) (m1M M n) k n hk q hq).trans ((congrFun (congrFun (congrArg Prod.snd (one_no M (powM M n) (dayM M) (ptM M (powM M n) (dayM M) k (m1M M n)) k h)) q) k).trans (ptM_far M (powM M n) (dayM M) (m1M M n) k k (Nat.le_refl k) q hq))
  have hcar := fun k (hk : k < n) h => ptM_car M (powM M n) (dayM M) (m1M M n) hk h (fun j hj h2 e => by
    have o1 := (hO.2.2.2.2.1 j (by omega)).1
    have o2 := (hO.2.2.2.2.1 k (by omega)).1
    unfold okSe at o1 o2
    exact iC j k (by omega) (by omega) h2 h (by omega))
  have hpw := fun k (hk : k < n) => powM_in hO hn hk
  have hch := fun i => ptM_ch M (powM M n) (dayM M) (m1M M n) n (fun k hk => by have h1 := hpw k hk; have h2 := bndM_in hO (k := k) (by omega); omega) i n (Nat.le_refl n)
  have hwt : ∀ k : Nat, k < n → powM M n k ≤ M.2 14 (M.2 32 k).toNat - M.2 15 (M.2 32 k).toNat ∨ powM M n k ≤ 0 := fun k hk => by
    have h1 := (hpw k hk).2.1
    have h3 : bndM M k ≤ wntM M k := by
      unfold bndM
      split <;> omega
    unfold wntM wantM at h3
    split at h3
    · left
      split at h3 <;> omega
    · right
      omega
  have mm : ∀ q, (m1M M n).2 q = if q = 49 then powM M n else if q = 48 then BM M n else M.2 q := fun q => rfl
  have m15 : ∀ q, q ≠ 48 → q ≠ 49 → (m1M M n).2 q = M.2 q := fun q h1 h2 => by rw [mm, if_neg h2, if_neg h1]
  generalize hF : ptM M (powM M n) (dayM M) n (m1M M n) = F at st hse hno hcar hch
  have sr : ∀ j, stR j = true → j ≠ 48 → j ≠ 49 → F.2 j = M.2 j := fun j h1 h2 h3 => (st.2 j h1).trans (m15 j h2 h3)
  have s1 : ∀ j, j ≠ 2 → F.1 j = M.1 j := fun j hj => by
    rw [st.1]
    exact if_neg hj
  have s2 : F.1 2 = M.1 2 + if M.1 3 + M.1 4 < sumF (powM M n) n then 1 else 0 := by
    rw [st.1]
    rfl
  -- the list of the day apart
  have key : ∀ G : Mo, G.1 = (setS F 1 (M.1 1 + 1)).1 → (∀ j, j ≠ 21 → G.2 j = F.2 j) → (∀ i, (0 ≤ G.2 21 i ∧ G.2 21 i ≤ 1) ∨ M.1 17 ≤ (i : Int)) → (∀ i : Nat, M.1 17 ≤ (i : Int) → G.2 21 i = M.2 21 i) → Jv G := by
    intro G g1 g2 g3 g4
    have t1 : ∀ j, j ≠ 1 → j ≠ 2 → G.1 j = M.1 j := fun j h1 h2 => by
      rw [g1]
      exact (if_neg h1).trans (s1 j h2)
    have t11 : G.1 1 = M.1 1 + 1 := by rw [g1]; rfl
    have t12 : G.1 2 = M.1 2 + if M.1 3 + M.1 4 < sumF (powM M n) n then 1 else 0 := by
      rw [g1]
      exact s2
    have tr : ∀ j, stR j = true → j ≠ 48 → j ≠ 49 → j ≠ 21 → G.2 j = M.2 j := fun j h1 h2 h3 h4 => (g2 j h4).trans (sr j h1 h2 h3)
    have o0 := hO.1
    unfold okSc at o0
    have hsess : ∀ k : Nat, (k : Int) < M.1 30 → (okSe G k ∧ okBi G k) ∧ (G.2 35 k ≤ G.2 15 (G.2 32 k).toNat ∧ G.2 39 k + G.2 40 k = G.2 35 k ∧ G.2 41 k ≤ G.2 37 k ∧ G.2 42 k ≤ G.2 39 k ∧ G.2 43 k ≤ G.2 40 k ∧ G.2 44 k ≤ G.2 41 k ∧ (G.2 38 k = G.2 37 k → G.2 42 k = G.2 39 k ∧ G.2 43 k = G.2 40 k ∧ G.2 44 k = G.2 41 k) ∧ (G.2 34 k = 2 → G.2 38 k < G.2 37 k) ∧ (G.2 34 k = 3 → G.2 38 k = G.2 37 k ∧ G.2 46 k = billM G k (G.2 39 k) (G.2 40 k) (G.2 41 k))) := by
      intro k hk
      have ok := hO.2.2.2.2.1 k hk
      have ie := iE k hk
      have oc := hO.2.2.1 (M.2 32 k).toNat (by unfold okSe at ok; omega)
      have c1 := hch (M.2 32 k).toNat
      rw [m15 15 (by decide) (by decide)] at c1
      have p1 := hpw k (by omega)
      have p2 := bndM_in hO (k := k) hk
      have p3 := hwt k (by omega)
      unfold okCa at oc
      unfold okSe okBi at ok ⊢
      rw [t1 6 (by decide) (by decide), t1 13 (by decide) (by decide), t1 17 (by decide) (by decide), t11, tr 31 rfl (by decide) (by decide) (by decide), tr 32 rfl (by decide) (by decide) (by decide), tr 33 rfl (by decide) (by decide) (by decide), tr 34 rfl (by decide) (by decide) (by decide), tr 45 rfl (by decide) (by decide) (by decide), tr 46 rfl (by decide) (by decide) (by decide), tr 47 rfl (by decide) (by decide) (by decide), g2 15 (by decide), g2 35 (by decide), g2 36 (by decide), g2 37 (by decide), g2 38 (by decide), g2 39 (by decide), g2 40 (by decide), g2 41 (by decide), g2 42 (by decide), g2 43 (by decide), g2 44 (by decide)]
      have eb : ∀ d e i, billM G k d e i = billM M k d e i := fun d e i => by
        unfold billM
        rw [tr 24 rfl (by decide) (by decide) (by decide)]
      rw [eb]
      by_cases h1 : M.2 34 k = 1
      · obtain ⟨a1, a2, a3, a4, a5, a6, a7⟩ := hse k (by omega) h1
        have a8 := hcar k (by omega) h1
        rw [m15 35 (by decide) (by decide)] at a1
        rw [m15 37 (by decide) (by decide)] at a3
        rw [m15 39 (by decide) (by decide)] at a4
        rw [m15 40 (by decide) (by decide)] at a5
        rw [m15 41 (by decide) (by decide)] at a6
        rw [m15 38 (by decide) (by decide), m15 42 (by decide) (by decide), m15 43 (by decide) (by decide), m15 44 (by decide) (by decide)] at a7
        rw [m15 15 (by decide) (by decide)] at a8
        have a9 : (if dayM M = 1 then powM M n k else 0) + (if dayM M = 1 then 0 else powM M n k) = powM M n k ∧ 0 ≤ (if dayM M = 1 then powM M n k else 0) ∧ 0 ≤ (if dayM M = 1 then 0 else powM M n k) := by split <;> omega
        generalize (if dayM M = 1 then powM M n k else 0) = x1 at a4 a9
        generalize (if dayM M = 1 then 0 else powM M n k) = x2 at a5 a9
        generalize F.2 15 (M.2 32 k).toNat = c9 at c1 a8 ⊢
        generalize F.2 35 k = v35 at a1 ⊢
        generalize F.2 36 k = v36 at a2 ⊢
        generalize F.2 37 k = v37 at a3 a7 ⊢
        generalize F.2 38 k = v38 at a7 ⊢
        generalize F.2 39 k = v39 at a4 a7 ⊢
        generalize F.2 40 k = v40 at a5 a7 ⊢
        generalize F.2 41 k = v41 at a6 a7 ⊢
        generalize F.2 42 k = v42 at a7 ⊢
        generalize F.2 43 k = v43 at a7 ⊢
        generalize F.2 44 k = v44 at a7 ⊢
        have h3 : M.2 34 k ≠ 3 := by omega
        refine ⟨⟨⟨?_, ?_, ?_, ?_, ?_, ?_, ?_, ?_⟩, ⟨?_, ?_, ?_, ?_, ?_, ?_, ?_, ?_⟩⟩, ?_, ?_, ?_, ?_, ?_, ?_, ?_, ?_, fun y => absurd y h3⟩
        all_goals omega
      · have f := fun q (hq : q ≠ 15) (q1 : q ≠ 48) (q2 : q ≠ 49) => (hno k (by omega) h1 q hq).trans (congrFun (m15 q q1 q2) k)
        rw [f 35 (by decide) (by decide) (by decide), f 36 (by decide) (by decide) (by decide), f 37 (by decide) (by decide) (by decide), f 38 (by decide) (by decide) (by decide), f 39 (by decide) (by decide) (by decide), f 40 (by decide) (by decide) (by decide), f 41 (by decide) (by decide) (by decide), f 42 (by decide) (by decide) (by decide), f 43 (by decide) (by decide) (by decide), f 44 (by decide) (by decide) (by decide)]
        refine ⟨⟨⟨ok.1.1, ok.1.2.1, ok.1.2.2.1, ok.1.2.2.2.1, ok.1.2.2.2.2.1, ok.1.2.2.2.2.2.1, by omega, ok.1.2.2.2.2.2.2.2⟩, ok.2⟩, by omega, ie.2⟩
    refine ⟨⟨?_, fun i hi => ?_, fun i hi => ?_, fun i hi => ?_, fun k hk => ?_, ?_⟩, fun i hi => ?_, fun k hk => ?_, fun j k hj hk => ?_, fun k hk => ?_, fun k h1 h2 => ?_, fun i h1 h2 => ?_, fun i h1 h2 => ?_⟩
    · unfold okSc
      rw [t11, t12, t1 3 (by decide) (by decide), t1 4 (by decide) (by decide), t1 5 (by decide) (by decide), t1 6 (by decide) (by decide), t1 13 (by decide) (by decide), t1 17 (by decide) (by decide), t1 30 (by decide) (by decide)]
      split <;> omega
    · rw [t1 6 (by decide) (by decide)] at hi
      have o := hO.2.1 i hi
      unfold okSo at o ⊢
      rw [t11, t1 30 (by decide) (by decide), tr 7 rfl (by decide) (by decide) (by decide), tr 8 rfl (by decide) (by decide) (by decide), tr 9 rfl (by decide) (by decide) (by decide), tr 10 rfl (by decide) (by decide) (by decide), tr 11 rfl (by decide) (by decide) (by decide), tr 12 rfl (by decide) (by decide) (by decide), tr 26 rfl (by decide) (by decide) (by decide)]
      refine ⟨o.1, o.2.1, o.2.2.1, o.2.2.2.1, ?_, o.2.2.2.2.2⟩
      omega
    · rw [t1 13 (by decide) (by decide)] at hi
      have o := hO.2.2.1 i hi
      have c1 := hch i
      rw [m15 15 (by decide) (by decide)] at c1
      unfold okCa at o ⊢
      rw [tr 14 rfl (by decide) (by decide) (by decide), tr 16 rfl (by decide) (by decide) (by decide), g2 15 (by decide)]
      refine ⟨o.1, ⟨by omega, ?_⟩, o.2.2⟩
      by_cases hx : ∃ k, k < n ∧ M.2 34 k = 1 ∧ (M.2 32 k).toNat = i
      · obtain ⟨k, k1, k2, rfl⟩ := hx
        have a8 := hcar k k1 k2
        rw [m15 15 (by decide) (by decide)] at a8
        have p1 := hpw k k1
        rcases hwt k k1 with y | y <;> omega
      · have hz := ptM_nocar M (powM M n) (dayM M) (m1M M n) i 0 n (fun k _ k2 k3 e => hx ⟨k, by omega, k3, e⟩)
        rw [Nat.zero_add, hF] at hz
        have hz2 : F.2 15 i = M.2 15 i := hz.trans (congrFun (m15 15 (by decide) (by decide)) i)
        omega
    · rw [t1 17 (by decide) (by decide)] at hi
      have o := hO.2.2.2.1 i hi
      unfold okCd at o ⊢
      rw [tr 18 rfl (by decide) (by decide) (by decide), tr 19 rfl (by decide) (by decide) (by decide), tr 20 rfl (by decide) (by decide) (by decide)]
      refine ⟨o.1, o.2.1, o.2.2.1, ?_⟩
      rcases g3 i with y | y
      · exact y
      · omega
    · rw [t1 30 (by decide) (by decide)] at hk
      exact (hsess k hk).1
    · have t := hO.2.2.2.2.2
      unfold okTa at t ⊢
      rw [tr 23 rfl (by decide) (by decide) (by decide), tr 24 rfl (by decide) (by decide) (by decide)]
      exact t
    · rw [t1 6 (by decide) (by decide)] at hi
      rw [tr 12 rfl (by decide) (by decide) (by decide), tr 34 rfl (by decide) (by decide) (by decide), tr 31 rfl (by decide) (by decide) (by decide)]
      exact iS i hi
    · rw [t1 30 (by decide) (by decide)] at hk
      rw [tr 12 rfl (by decide) (by decide) (by decide), tr 34 rfl (by decide) (by decide) (by decide), tr 31 rfl (by decide) (by decide) (by decide)]
      exact iR k hk
    · rw [t1 30 (by decide) (by decide)] at hj hk
      rw [tr 34 rfl (by decide) (by decide) (by decide), tr 32 rfl (by decide) (by decide) (by decide)]
      exact iC j k hj hk
    · rw [t1 30 (by decide) (by decide)] at hk
      exact (hsess k hk).2
    · rw [t1 30 (by decide) (by decide)] at h1
      have z := z1 k h1 h2
      have f := fun q (hq : q ≠ 15) (q1 : q ≠ 48) (q2 : q ≠ 49) => (ptM_far M (powM M n) (dayM M) (m1M M n) k n (by omega) q hq).trans (congrFun (m15 q q1 q2) k)
      rw [hF] at f
      rw [tr 34 rfl (by decide) (by decide) (by decide), tr 46 rfl (by decide) (by decide) (by decide), tr 47 rfl (by decide) (by decide) (by decide), g2 35 (by decide), g2 36 (by decide), g2 37 (by decide), g2 38 (by decide), g2 39 (by decide), g2 40 (by decide), g2 41 (by decide), g2 42 (by decide), g2 43 (by decide), g2 44 (by decide), f 35 (by decide) (by decide) (by decide), f 36 (by decide) (by decide) (by decide), f 37 (by decide) (by decide) (by decide), f 38 (by decide) (by decide) (by decide), f 39 (by decide) (by decide) (by decide), f 40 (by decide) (by decide) (by decide), f 41 (by decide) (by decide) (by decide), f 42 (by decide) (by decide) (by decide), f 43 (by decide) (by decide) (by decide), f 44 (by decide) (by decide) (by decide)]
      exact z
    · rw [t1 17 (by decide) (by decide)] at h1
      rw [g4 i h1, tr 22 rfl (by decide) (by decide) (by decide)]
      exact z2 i h1 h2
    · rw [t1 6 (by decide) (by decide)] at h1
      rw [tr 9 rfl (by decide) (by decide) (by decide), tr 10 rfl (by decide) (by decide) (by decide), tr 11 rfl (by decide) (by decide) (by decide), tr 12 rfl (by decide) (by decide) (by decide), tr 26 rfl (by decide) (by decide) (by decide)]
      exact z3 i h1 h2
  have o21 : ∀ i : Nat, (i : Int) < M.1 17 → (0 ≤ M.2 20 i ∧ M.2 20 i ≤ 1) ∧ (0 ≤ M.2 21 i ∧ M.2 21 i ≤ 1) := fun i hi => by
    have o := hO.2.2.2.1 i hi
    unfold okCd at o
    exact ⟨o.2.2.1, o.2.2.2⟩
  unfold pc1
  rw [hF]
  unfold lisM
  split
  · refine key _ rfl (fun j hj => if_neg hj) (fun i => ?_) (fun i hi => ?_)
    · show (0 ≤ pre (F.2 20) (F.2 21) (F.1 17).toNat i ∧ pre (F.2 20) (F.2 21) (F.1 17).toNat i ≤ 1) ∨ _
      rcases Int.lt_or_le (i : Int) (M.1 17) with y | y
      · left
        unfold pre
        rw [if_pos (by rw [s1 17 (by decide)]; omega), sr 20 rfl (by decide) (by decide)]
        exact (o21 i y).1
      · exact Or.inr y
    · show pre (F.2 20) (F.2 21) (F.1 17).toNat i = _
      unfold pre
      rw [if_neg (by rw [s1 17 (by decide)]; omega), sr 21 rfl (by decide) (by decide)]
  · refine key _ rfl (fun j hj => rfl) (fun i => ?_) (fun i hi => ?_)
    · show (0 ≤ F.2 21 i ∧ F.2 21 i ≤ 1) ∨ _
      rw [sr 21 rfl (by decide) (by decide)]
      rcases Int.lt_or_le (i : Int) (M.1 17) with y | y
      · exact Or.inl (o21 i y).2
      · exact Or.inr y
    · show F.2 21 i = _
      rw [sr 21 rfl (by decide) (by decide)]
