/-! a minute and the law's numbers -/
theorem one_row (M0 : Mo) (P : Nat → Int) (day : Int) (N : Mo) (k : Nat) : (∀ x, (oneM M0 P day N k).2 15 x = if M0.2 34 k = 1 ∧ x = (M0.2 32 k).toNat then N.2 15 x + P k else N.2 15 x) ∧ (∀ x, (oneM M0 P day N k).2 35 x = if M0.2 34 k = 1 ∧ x = k then N.2 35 x + P k else N.2 35 x) ∧ (∀ x, (oneM M0 P day N k).2 38 x = if (M0.2 34 k = 1 ∧ M0.2 10 (M0.2 31 k).toNat = 0) ∧ x = k then N.2 37 x + 1 else N.2 38 x) := by
  unfold oneM
  by_cases c : M0.2 34 k = 1
  · rw [if_pos c]
    by_cases d : M0.2 10 (M0.2 31 k).toNat = 0
    · rw [if_pos d]
      refine ⟨fun x => ?_, fun x => ?_, fun x => ?_⟩
      · show (if x = (M0.2 32 k).toNat then N.2 15 (M0.2 32 k).toNat + P k else N.2 15 x) = _
        by_cases e : x = (M0.2 32 k).toNat
        · rw [if_pos e, if_pos ⟨c, e⟩, e]
        · rw [if_neg e, if_neg (fun y => e y.2)]
      · show (if x = k then N.2 35 k + P k else N.2 35 x) = _
        by_cases e : x = k
        · rw [if_pos e, if_pos ⟨c, e⟩, e]
        · rw [if_neg e, if_neg (fun y => e y.2)]
      · show (if x = k then (if k = k then N.2 37 k + 1 else N.2 37 k) else N.2 38 x) = _
        by_cases e : x = k
        · rw [if_pos e, if_pos rfl, if_pos ⟨⟨c, d⟩, e⟩, e]
        · rw [if_neg e, if_neg (fun y => e y.2)]
    · rw [if_neg d]
      refine ⟨fun x => ?_, fun x => ?_, fun x => ?_⟩
      · show (if x = (M0.2 32 k).toNat then N.2 15 (M0.2 32 k).toNat + P k else N.2 15 x) = _
        by_cases e : x = (M0.2 32 k).toNat
        · rw [if_pos e, if_pos ⟨c, e⟩, e]
        · rw [if_neg e, if_neg (fun y => e y.2)]
      · show (if x = k then N.2 35 k + P k else N.2 35 x) = _
        by_cases e : x = k
        · rw [if_pos e, if_pos ⟨c, e⟩, e]
        · rw [if_neg e, if_neg (fun y => e y.2)]
      · show N.2 38 x = _
        rw [if_neg (fun y => d y.1.2)]
  · rw [if_neg c]
    exact ⟨fun x => (if_neg (fun y => c y.1)).symm, fun x => (if_neg (fun y => c y.1)).symm, fun x => (if_neg (fun y => c y.1.1)).symm⟩
theorem pt_ch {M0 M1 : Mo} {P : Nat → Int} {day : Int} {had : Nat → Int} {n : Nat} (h : ∀ c : Nat, c < 4 → M1.2 15 c = had c + sumF (fun j => if M0.2 32 j = (c : Int) then M1.2 35 j else 0) n) (h0 : ∀ k, k < n → 0 ≤ M0.2 32 k) : ∀ k, k ≤ n → ∀ c : Nat, c < 4 → (ptM M0 P day k M1).2 15 c = had c + sumF (fun j => if M0.2 32 j = (c : Int) then (ptM M0 P day k M1).2 35 j else 0) n := by
  intro k
  induction k with
  | zero => exact fun _ => h
  | succ k ih =>
    intro hk c hc
    have i1 := ih (by omega) c hc
    obtain ⟨r1, r2, -⟩ := one_row M0 P day (ptM M0 P day k M1) k
    show (oneM M0 P day (ptM M0 P day k M1) k).2 15 c = had c + sumF (fun j => if M0.2 32 j = (c : Int) then (oneM M0 P day (ptM M0 P day k M1) k).2 35 j else 0) n
    have hz := h0 k (by omega)
    rw [r1 c]
    by_cases a : M0.2 34 k = 1 ∧ c = (M0.2 32 k).toNat
    · rw [if_pos a, i1]
      have e : sumF (fun j => if M0.2 32 j = (c : Int) then (oneM M0 P day (ptM M0 P day k M1) k).2 35 j else 0) n = sumF (fun j => if M0.2 32 j = (c : Int) then (ptM M0 P day k M1).2 35 j else 0) n + P k := sumF_up n (show k < n by omega) (fun x _ => by
        rw [r2 x]
        by_cases d : x = k
        · rw [d, if_pos (show M0.2 32 k = (c : Int) by omega), if_pos (show M0.2 34 k = 1 ∧ k = k from ⟨a.1, rfl⟩), if_pos (show k = k from rfl), if_pos (show M0.2 32 k = (c : Int) by omega)]
        · rw [if_neg (show ¬ (M0.2 34 k = 1 ∧ x = k) from fun y => d y.2), if_neg d])
      rw [e]
      omega
    · rw [if_neg a, i1]
      refine congrArg (had c + ·) (sumF_congr n (fun x _ => ?_))
      rw [r2 x]
      by_cases d : M0.2 34 k = 1 ∧ x = k
      · have e : ¬ M0.2 32 x = (c : Int) := fun y => a ⟨d.1, by rw [← d.2, y]; exact (Int.toNat_natCast c).symm⟩
        rw [if_neg e, if_neg e]
      · rw [if_neg d]
theorem pc1_row (M : Mo) (n : Nat) : ∀ q, q ≠ 21 → (pc1 M n).2 q = (ptM M (powM M n) (dayM M) n (m1M M n)).2 q := by
  intro q hq
  unfold pc1 lisM
  split
  · show (if q = 21 then _ else _) = _
    rw [if_neg hq]
    rfl
  · rfl
theorem pc1_2 (M : Mo) (n : Nat) : (pc1 M n).1 2 = M.1 2 + if M.1 3 + M.1 4 < sumF (powM M n) n then 1 else 0 := by
  have st := (ptM_st M (powM M n) (dayM M) (m1M M n) n).1
  have e : (pc1 M n).1 2 = (ptM M (powM M n) (dayM M) n (m1M M n)).1 2 := by
    unfold pc1 lisM
    split <;> rfl
  rw [e, st]
  rfl
theorem pc1_keep (M : Mo) (n : Nat) : ∀ q, q = 10 ∨ q = 12 ∨ q = 22 ∨ q = 31 ∨ q = 32 ∨ q = 34 ∨ q = 46 → (pc1 M n).2 q = M.2 q := by
  have st := (ptM_st M (powM M n) (dayM M) (m1M M n) n).2
  intro q hq
  rcases hq with rfl | rfl | rfl | rfl | rfl | rfl | rfl
  · exact (pc1_row M n 10 (by decide)).trans ((st 10 rfl).trans rfl)
  · exact (pc1_row M n 12 (by decide)).trans ((st 12 rfl).trans rfl)
  · exact (pc1_row M n 22 (by decide)).trans ((st 22 rfl).trans rfl)
  · exact (pc1_row M n 31 (by decide)).trans ((st 31 rfl).trans rfl)
  · exact (pc1_row M n 32 (by decide)).trans ((st 32 rfl).trans rfl)
  · exact (pc1_row M n 34 (by decide)).trans ((st 34 rfl).trans rfl)
  · exact (pc1_row M n 46 (by decide)).trans ((st 46 rfl).trans rfl)
theorem JI_pc1 {M : Mo} {n : Nat} {had : Nat → Int} (hO : OkM M) (h : JI M had n) : JI (pc1 M n) had n ∧ (M.1 2 ≤ (pc1 M n).1 2 ∧ (pc1 M n).1 2 ≤ M.1 2 + 1) ∧ ((∀ i : Nat, i < 3 → M.2 10 i = 0) → (pc1 M n).1 2 = M.1 2) := by
  obtain ⟨⟨c1, c2, c3, c4⟩, hch, how, hhr⟩ := h
  obtain ⟨p1, p2, p3⟩ := pc1_t M n
  have kp := pc1_keep M n
  have se : ∀ k, k < n → okSe M k := fun k hk => (hO.2.2.2.2.1 k (by omega)).1
  refine ⟨⟨⟨(p1 6 (by decide) (by decide)).trans c1, (p1 13 (by decide) (by decide)).trans c2, (p1 17 (by decide) (by decide)).trans c3, (p1 30 (by decide) (by decide)).trans c4⟩, fun c hc => ?_, owB_eq how (fun k => congrFun (kp 22 (by omega)) k) (fun k => by rw [kp 34 (by omega)]) (fun k => congrFun (kp 46 (by omega)) k), fun k hk h10 => ?_⟩, ?_, fun hd => ?_⟩
  · rw [pc1_row M n 15 (by decide), pc1_row M n 35 (by decide), kp 32 (by omega)]
    exact pt_ch (M0 := M) (M1 := m1M M n) (P := powM M n) (day := dayM M) hch (fun k hk => by
      have o := se k hk
      unfold okSe at o
      omega) n (Nat.le_refl _) c hc
  · rw [kp 10 (by omega), kp 31 (by omega)] at h10
    have h9 := hhr k hk h10
    rw [pc1_row M n 38 (by decide), pc1_row M n 37 (by decide), ptM_37, ptM_at M (powM M n) (dayM M) (m1M M n) k n hk 38 (by decide)]
    obtain ⟨-, -, r3⟩ := one_row M (powM M n) (dayM M) (ptM M (powM M n) (dayM M) k (m1M M n)) k
    have f37 : (ptM M (powM M n) (dayM M) k (m1M M n)).2 37 k = M.2 37 k := (ptM_far M (powM M n) (dayM M) (m1M M n) k k (Nat.le_refl _) 37 (by decide)).trans rfl
    have f38 : (ptM M (powM M n) (dayM M) k (m1M M n)).2 38 k = M.2 38 k := (ptM_far M (powM M n) (dayM M) (m1M M n) k k (Nat.le_refl _) 38 (by decide)).trans rfl
    rw [r3 k, f37, f38, show (m1M M n).2 37 k = M.2 37 k from rfl]
    by_cases e : M.2 34 k = 1
    · rw [if_pos ⟨⟨e, h10⟩, rfl⟩, if_pos ⟨hk, e⟩]
    · rw [if_neg (fun y => e y.1.1), if_neg (fun y => e y.2)]
      omega
  · rw [pc1_2]
    split <;> omega
  · have hs := pow_sum hO c4.symm (fun i hi => hd i (by omega))
    rw [pc1_2, if_neg (by omega)]
    omega
theorem JI_pcN {M : Mo} {jj n : Nat} {had : Nat → Int} (hI : Iv M jj) (h : JI M had n) : ∀ k : Nat, M.1 1 + (k : Int) ≤ 20000 → JI (pcN M n k) had n ∧ (M.1 2 ≤ (pcN M n k).1 2 ∧ (pcN M n k).1 2 ≤ M.1 2 + k) ∧ ((∀ i : Nat, i < 3 → M.2 10 i = 0) → (pcN M n k).1 2 = M.1 2) ∧ ∀ q, q = 10 ∨ q = 12 ∨ q = 31 ∨ q = 32 → (pcN M n k).2 q = M.2 q := by
  obtain ⟨hO, iS, iR, iC, iE, iZ, iB⟩ := hI
  intro k
  induction k with
  | zero => exact fun _ => ⟨h, ⟨Int.le_refl _, by show M.1 2 ≤ M.1 2 + ((0 : Nat) : Int); omega⟩, fun _ => rfl, fun q _ => rfl⟩
  | succ k ih =>
    intro hk
    obtain ⟨i1, i2, i3, i4⟩ := ih (by omega)
    have hJ := pcN_J (M := M) (n := n) ⟨hO, iS, iR, iC, iE, iZ⟩ h.1.2.2.2.symm k (by omega)
    obtain ⟨j1, j2, j3⟩ := JI_pc1 hJ.1 i1
    refine ⟨j1, ⟨?_, ?_⟩, fun hd => ?_, fun q hq => ?_⟩
    · show M.1 2 ≤ (pc1 (pcN M n k) n).1 2
      omega
    · show (pc1 (pcN M n k) n).1 2 ≤ M.1 2 + ((k + 1 : Nat) : Int)
      omega
    · exact (j3 (fun i hi => by rw [i4 10 (by omega)]; exact hd i hi)).trans (i3 hd)
    · exact (pc1_keep (pcN M n k) n q (by omega)).trans (i4 q hq)
