/-! the law's numbers: charges, debts, what is heard -/
def cnB (M : Mo) (n : Nat) : Prop := M.1 6 = 3 ∧ M.1 13 = 4 ∧ M.1 17 = 4 ∧ M.1 30 = (n : Int)
def chB (M : Mo) (had : Nat → Int) (n : Nat) : Prop := ∀ k : Nat, k < 4 → M.2 15 k = had k + sumF (fun j => if M.2 32 j = (k : Int) then M.2 35 j else 0) n
def owB (M : Mo) (n : Nat) : Prop := sumF (M.2 22) 4 = sumF (fun j => if M.2 34 j = 3 then M.2 46 j else 0) n
def hrB (M : Mo) (n : Nat) : Prop := ∀ k : Nat, k < n → M.2 10 (M.2 31 k).toNat = 0 → M.2 38 k = M.2 37 k
def JI (M : Mo) (had : Nat → Int) (n : Nat) : Prop := cnB M n ∧ chB M had n ∧ owB M n ∧ hrB M n
theorem chB_eq {M M2 : Mo} {had : Nat → Int} {n : Nat} (h : chB M had n) (h15 : ∀ k, M2.2 15 k = M.2 15 k) (h32 : ∀ k, M2.2 32 k = M.2 32 k) (h35 : ∀ k, M2.2 35 k = M.2 35 k) : chB M2 had n := fun k hk => by
  rw [h15, h k hk]
  exact congrArg (had k + ·) (sumF_congr n (fun j _ => by rw [h32, h35]))
/-- a bill is paid -/
theorem owB_pay {M : Mo} {n k : Nat} (h : owB M n) (hk : k < n) (h3 : M.2 34 k ≠ 3) (hc : (M.2 33 k).toNat < 4) : owB (payM M k) n := by
  have e1 : sumF ((payM M k).2 22) 4 = sumF (M.2 22) 4 + billM M k (M.2 39 k) (M.2 40 k) (M.2 41 k) := sumF_up 4 hc (fun x _ => by
    have e : (payM M k).2 22 x = if x = (M.2 33 k).toNat then M.2 22 (M.2 33 k).toNat + billM M k (M.2 39 k) (M.2 40 k) (M.2 41 k) else M.2 22 x := rfl
    rw [e]
    by_cases c : x = (M.2 33 k).toNat
    · rw [if_pos c, if_pos c, c]
    · rw [if_neg c, if_neg c])
  have e2 : sumF (fun j => if (payM M k).2 34 j = 3 then (payM M k).2 46 j else 0) n = sumF (fun j => if M.2 34 j = 3 then M.2 46 j else 0) n + billM M k (M.2 39 k) (M.2 40 k) (M.2 41 k) := sumF_up n hk (fun x _ => by
    have f1 : (payM M k).2 34 x = if x = k then 3 else M.2 34 x := rfl
    have f2 : (payM M k).2 46 x = if x = k then billM M k (M.2 39 k) (M.2 40 k) (M.2 41 k) else M.2 46 x := rfl
    rw [f1, f2]
    by_cases c : x = k
    · subst c
      rw [if_pos rfl, if_pos rfl, if_pos rfl, if_pos rfl, if_neg h3]
      omega
    · rw [if_neg c, if_neg c, if_neg c])
  show sumF ((payM M k).2 22) 4 = sumF (fun j => if (payM M k).2 34 j = 3 then (payM M k).2 46 j else 0) n
  rw [e1, e2, h]
theorem owB_eq {M M2 : Mo} {n : Nat} (h : owB M n) (h22 : ∀ k, M2.2 22 k = M.2 22 k) (h34 : ∀ k, (M2.2 34 k = 3 ↔ M.2 34 k = 3)) (h46 : ∀ k, M2.2 46 k = M.2 46 k) : owB M2 n := by
  unfold owB
  rw [sumF_congr 4 (fun k _ => h22 k), h]
  refine sumF_congr n (fun j _ => ?_)
  rw [h46]
  by_cases c : M.2 34 j = 3
  · rw [if_pos c, if_pos ((h34 j).mpr c)]
  · rw [if_neg c, if_neg (fun z => c ((h34 j).mp z))]
/-- unplugging -/
theorem JI_unp {M : Mo} {jj n k : Nat} {had : Nat → Int} (hI : Iv M jj) (h : JI M had n) (hk : k < n) (h1 : M.2 34 k = 1) : JI (unpS M k).1 had n ∧ (unpS M k).2 = M.2 37 k - M.2 38 k ∧ (unpS M k).1.1 0 = 0 ∧ (∀ q, q = 10 ∨ q = 31 ∨ q = 32 ∨ q = 37 ∨ q = 38 → (unpS M k).1.2 q = M.2 q) ∧ (unpS M k).1.1 1 = M.1 1 ∧ (unpS M k).1.1 2 = M.1 2 ∧ (∀ i, (unpS M k).1.2 12 i = if i = (M.2 31 k).toNat then -1 else M.2 12 i) ∧ (unpS M k).1.2 34 k = (if M.2 37 k - M.2 38 k = 0 then 3 else 2) := by
  obtain ⟨⟨c1, c2, c3, c4⟩, hch, how, hhr⟩ := h
  have e : unpS M (k : Int) = (if M.2 37 k - M.2 38 k = 0 then payM (setA (setA (setS M 0 0) 34 k 2) 12 (M.2 31 k).toNat (-1)) k else setA (setA (setS M 0 0) 34 k 2) 12 (M.2 31 k).toNat (-1), M.2 37 k - M.2 38 k) := by
    unfold unpS
    rw [if_pos (show 0 ≤ (k : Int) ∧ (k : Int) < M.1 30 by omega), Int.toNat_natCast, if_pos h1]
  rw [e]
  have s0 := (hI.1.2.2.2.2.1 k (by omega)).1
  unfold okSe at s0
  have how1 : owB (setA (setA (setS M 0 0) 34 k 2) 12 (M.2 31 k).toNat (-1)) n := owB_eq how (fun _ => rfl) (fun x => by
    show (if x = k then (2 : Int) else M.2 34 x) = 3 ↔ _
    by_cases c : x = k
    · subst c
      rw [if_pos rfl, h1]
      omega
    · rw [if_neg c]) (fun _ => rfl)
  by_cases c : M.2 37 k - M.2 38 k = 0
  · rw [if_pos c, if_pos c]
    refine ⟨⟨⟨c1, c2, c3, c4⟩, chB_eq hch (fun _ => rfl) (fun _ => rfl) (fun _ => rfl), owB_pay how1 hk ?_ ?_, hhr⟩, rfl, rfl, fun q hq => ?_, rfl, rfl, fun i => ?_, ?_⟩
    · show (if k = k then (2 : Int) else M.2 34 k) ≠ 3
      rw [if_pos rfl]
      decide
    · show (M.2 33 k).toNat < 4
      omega
    · rcases hq with rfl | rfl | rfl | rfl | rfl <;> rfl
    · rfl
    · show (if k = k then (3 : Int) else _) = 3
      rw [if_pos rfl]
  · rw [if_neg c, if_neg c]
    refine ⟨⟨⟨c1, c2, c3, c4⟩, chB_eq hch (fun _ => rfl) (fun _ => rfl) (fun _ => rfl), how1, hhr⟩, rfl, rfl, fun q hq => ?_, rfl, rfl, fun i => rfl, ?_⟩
    · rcases hq with rfl | rfl | rfl | rfl | rfl <;> rfl
    · show (if k = k then (2 : Int) else _) = 2
      rw [if_pos rfl]
/-- a link that comes: all of its sessions are heard -/
theorem hrM_rows (M : Mo) (z : Int) (k : Nat) : ∀ j, j = 10 ∨ j = 12 ∨ j = 15 ∨ j = 32 ∨ j = 35 → (hrM M z k).2 j = M.2 j := by
  induction k with
  | zero => exact fun _ _ => rfl
  | succ k ih =>
    intro j hj
    show (if M.2 31 k = z then hearM (hrM M z k) k else hrM M z k).2 j = M.2 j
    rw [← ih j hj]
    unfold hearM payM oweM heardM
    split
    · rcases hj with rfl | rfl | rfl | rfl | rfl <;> split <;> rfl
    · rfl
theorem hrM_ow {M : Mo} {z : Int} {n : Nat} (h : owB M n) (hc : ∀ k, k < n → (M.2 33 k).toNat < 4) (h2 : ∀ k, k < n → 1 ≤ M.2 34 k) : ∀ k, k ≤ n → owB (hrM M z k) n := by
  intro k
  induction k with
  | zero => exact fun _ => h
  | succ k ih =>
    intro hk
    have i1 := ih (by omega)
    obtain ⟨s1, s2, s3, s4⟩ := hrM_st M z k
    show owB (if M.2 31 k = z then hearM (hrM M z k) k else hrM M z k) n
    by_cases c : M.2 31 k = z
    · rw [if_pos c]
      have e33 : (hrM M z k).2 33 k = M.2 33 k := congrFun (s2 33 (by omega)) k
      have e34 : (hrM M z k).2 34 k = M.2 34 k := s3 k (Nat.le_refl _)
      have i2 : owB (heardM (hrM M z k) k) n := owB_eq i1 (fun _ => rfl) (fun _ => Iff.rfl) (fun _ => rfl)
      unfold hearM
      by_cases d : (hrM M z k).2 34 k = 2
      · rw [if_pos d]
        refine owB_pay i2 (by omega) ?_ ?_
        · show (hrM M z k).2 34 k ≠ 3
          rw [d]
          decide
        · show ((hrM M z k).2 33 k).toNat < 4
          rw [e33]
          exact hc k (by omega)
      · rw [if_neg d]
        exact i2
    · rw [if_neg c]
      exact i1
theorem hrM_38 (M : Mo) (z : Int) : ∀ k j : Nat, (hrM M z k).2 38 j = if j < k ∧ M.2 31 j = z then M.2 37 j else M.2 38 j := by
  intro k
  induction k with
  | zero => exact fun j => (if_neg (fun y => absurd y.1 (Nat.not_lt_zero j))).symm
  | succ k ih =>
    intro j
    obtain ⟨s1, s2, s3, s4⟩ := hrM_st M z k
    have e37 : (hrM M z k).2 37 k = M.2 37 k := congrFun (s2 37 (by omega)) k
    show (if M.2 31 k = z then hearM (hrM M z k) k else hrM M z k).2 38 j = _
    by_cases c : M.2 31 k = z
    · rw [if_pos c]
      have e : (hearM (hrM M z k) k).2 38 j = if j = k then (hrM M z k).2 37 k else (hrM M z k).2 38 j := by
        unfold hearM
        split <;> rfl
      rw [e]
      by_cases d : j = k
      · subst d
        rw [if_pos rfl, if_pos ⟨Nat.lt_succ_self j, c⟩, e37]
      · rw [if_neg d, ih j]
        by_cases f : j < k ∧ M.2 31 j = z
        · rw [if_pos f, if_pos ⟨by omega, f.2⟩]
        · rw [if_neg f, if_neg (fun y => f ⟨by omega, y.2⟩)]
    · rw [if_neg c, ih j]
      by_cases f : j < k ∧ M.2 31 j = z
      · rw [if_pos f, if_pos ⟨by omega, f.2⟩]
      · rw [if_neg f, if_neg (fun y => f ⟨by
          have : j ≠ k := fun e => c (by rw [← e]; exact y.2)
          omega, y.2⟩)]
theorem JI_up {M : Mo} {jj n i : Nat} {had : Nat → Int} (hI : Iv M jj) (h : JI M had n) (hi : i < 3) (hd : M.2 10 i = 1) : JI (linS M n i 1).1 had n ∧ (linS M n i 1).2 = hrN M i n ∧ (linS M n i 1).1.1 0 = 0 ∧ (∀ q, q = 12 ∨ q = 31 ∨ q = 32 → (linS M n i 1).1.2 q = M.2 q) ∧ (linS M n i 1).1.1 1 = M.1 1 ∧ (linS M n i 1).1.1 2 = M.1 2 ∧ (∀ x, (linS M n i 1).1.2 10 x = if x = i then 0 else M.2 10 x) := by
  obtain ⟨⟨c1, c2, c3, c4⟩, hch, how, hhr⟩ := h
  have e : linS M n (i : Int) 1 = (hrM (setA (setS M 0 0) 10 i 0) i n, hrN M i n) := by
    unfold linS
    rw [if_pos (show 0 ≤ (i : Int) ∧ (i : Int) < M.1 6 by omega), Int.toNat_natCast, if_pos hd.symm, if_pos rfl]
  rw [e]
  obtain ⟨s1, s2, s3, s4⟩ := hrM_st (setA (setS M 0 0) 10 i 0) (i : Int) n
  have rw1 := hrM_rows (setA (setS M 0 0) 10 i 0) (i : Int) n
  have h38 := hrM_38 (setA (setS M 0 0) 10 i 0) (i : Int) n
  have se : ∀ k, k < n → okSe M k := fun k hk => (hI.1.2.2.2.2.1 k (by omega)).1
  have hs1 : ∀ j, (hrM (setA (setS M 0 0) 10 i 0) i n).1 j = (setS M 0 0).1 j := fun j => congrFun s1 j
  refine ⟨⟨⟨(hs1 6).trans c1, (hs1 13).trans c2, (hs1 17).trans c3, (hs1 30).trans c4⟩, chB_eq hch (fun k => congrFun (rw1 15 (by omega)) k) (fun k => congrFun (rw1 32 (by omega)) k) (fun k => congrFun (rw1 35 (by omega)) k), hrM_ow (M := setA (setS M 0 0) 10 i 0) how (fun k hk => ?_) (fun k hk => ?_) n (Nat.le_refl _), fun k hk h10 => ?_⟩, rfl, hs1 0, fun q hq => ?_, hs1 1, hs1 2, fun x => congrFun (rw1 10 (by omega)) x⟩
  · have o := se k hk
    unfold okSe at o
    show (M.2 33 k).toNat < 4
    omega
  · have o := se k hk
    unfold okSe at o
    show 1 ≤ M.2 34 k
    omega
  · have o := se k hk
    unfold okSe at o
    have e37 : (hrM (setA (setS M 0 0) 10 i 0) i n).2 37 k = M.2 37 k := congrFun (s2 37 (by omega)) k
    have e31 : (hrM (setA (setS M 0 0) 10 i 0) i n).2 31 k = M.2 31 k := congrFun (s2 31 (by omega)) k
    rw [e31, rw1 10 (by omega)] at h10
    rw [h38 k, e37]
    by_cases c : k < n ∧ (setA (setS M 0 0) 10 i 0).2 31 k = (i : Int)
    · rw [if_pos c]
      rfl
    · rw [if_neg c]
      have c9 : M.2 31 k ≠ (i : Int) := fun y => c ⟨hk, y⟩
      have h10 : (if (M.2 31 k).toNat = i then (0 : Int) else M.2 10 (M.2 31 k).toNat) = 0 := h10
      rw [if_neg (show ¬ (M.2 31 k).toNat = i by omega)] at h10
      exact hhr k hk h10
  · rcases hq with rfl | rfl | rfl
    · exact rw1 12 (by omega)
    · exact s2 31 (by omega)
    · exact rw1 32 (by omega)
/-- a link that goes -/
theorem JI_dn {M : Mo} {jj n i : Nat} {had : Nat → Int} (hI : Iv M jj) (h : JI M had n) (hi : i < 3) (hd : M.2 10 i = 0) : JI (linS M n i 0).1 had n ∧ (linS M n i 0).2 = 0 ∧ (linS M n i 0).1.1 0 = 0 ∧ (∀ q, q = 12 ∨ q = 31 ∨ q = 32 → (linS M n i 0).1.2 q = M.2 q) ∧ (linS M n i 0).1.1 1 = M.1 1 ∧ (linS M n i 0).1.1 2 = M.1 2 ∧ (∀ x, (linS M n i 0).1.2 10 x = if x = i then 1 else M.2 10 x) := by
  obtain ⟨⟨c1, c2, c3, c4⟩, hch, how, hhr⟩ := h
  have e : linS M n (i : Int) 0 = ((if M.2 12 i = -1 then setA (setA (setS M 0 0) 10 i 1) 11 i (M.1 1) else setA (setA (setA (setS M 0 0) 10 i 1) 11 i (M.1 1)) 45 (M.2 12 i).toNat (M.2 36 (M.2 12 i).toNat)), 0) := by
    unfold linS
    rw [if_pos (show 0 ≤ (i : Int) ∧ (i : Int) < M.1 6 by omega), Int.toNat_natCast, if_pos hd.symm, if_neg (show ¬ (0 : Int) = 1 by decide)]
  rw [e]
  have hh : ∀ k, k < n → (if (M.2 31 k).toNat = i then (1 : Int) else M.2 10 (M.2 31 k).toNat) = 0 → M.2 38 k = M.2 37 k := fun k hk h10 => by
    by_cases c : (M.2 31 k).toNat = i
    · rw [if_pos c] at h10
      exact absurd h10 (by decide)
    · rw [if_neg c] at h10
      exact hhr k hk h10
  by_cases c : M.2 12 i = -1
  · rw [if_pos c]
    refine ⟨⟨⟨c1, c2, c3, c4⟩, hch, how, hh⟩, rfl, rfl, fun q hq => ?_, rfl, rfl, fun x => rfl⟩
    rcases hq with rfl | rfl | rfl <;> rfl
  · rw [if_neg c]
    refine ⟨⟨⟨c1, c2, c3, c4⟩, hch, how, hh⟩, rfl, rfl, fun q hq => ?_, rfl, rfl, fun x => rfl⟩
    rcases hq with rfl | rfl | rfl <;> rfl
/-- a session that begins -/
theorem JI_new {M : Mo} {jj n s c k : Nat} {hb : Int} {had : Nat → Int} (hI : Iv M jj) (h : JI M had n) (hn : n < 40) : JI (newM M (bkdM M s hb) n s c k) had (n + 1) := by
  obtain ⟨⟨c1, c2, c3, c4⟩, hch, how, hhr⟩ := h
  obtain ⟨m1, m30, mr, m12, m31, m32, m33, m34, m45, -⟩ := newM_st M n s c k hb
  have iz := hI.2.2.2.2.2.1.1 n (by omega) hn
  refine ⟨⟨(m1 6 (by decide) (by decide)).trans c1, (m1 13 (by decide) (by decide)).trans c2, (m1 17 (by decide) (by decide)).trans c3, by rw [m30, c4]; omega⟩, fun q hq => ?_, ?_, fun q hq h10 => ?_⟩
  · rw [mr 15 rfl, hch q hq]
    refine congrArg (had q + ·) ?_
    show _ = sumF (fun j => if (newM M (bkdM M s hb) n s c k).2 32 j = (q : Int) then (newM M (bkdM M s hb) n s c k).2 35 j else 0) n + (if (newM M (bkdM M s hb) n s c k).2 32 n = (q : Int) then (newM M (bkdM M s hb) n s c k).2 35 n else 0)
    rw [mr 35 rfl, iz.2.1, sumF_congr (f := fun j => if (newM M (bkdM M s hb) n s c k).2 32 j = (q : Int) then M.2 35 j else 0) (g := fun j => if M.2 32 j = (q : Int) then M.2 35 j else 0) n (fun j hj => by rw [m32 j, if_neg (show ¬ j = n by omega)])]
    split <;> omega
  · show sumF ((newM M (bkdM M s hb) n s c k).2 22) 4 = sumF (fun j => if (newM M (bkdM M s hb) n s c k).2 34 j = 3 then (newM M (bkdM M s hb) n s c k).2 46 j else 0) n + (if (newM M (bkdM M s hb) n s c k).2 34 n = 3 then (newM M (bkdM M s hb) n s c k).2 46 n else 0)
    rw [mr 22 rfl, mr 46 rfl, m34 n, if_pos rfl, if_neg (show ¬ (1 : Int) = 3 by decide), how, sumF_congr (f := fun j => if (newM M (bkdM M s hb) n s c k).2 34 j = 3 then M.2 46 j else 0) (g := fun j => if M.2 34 j = 3 then M.2 46 j else 0) n (fun j hj => by rw [m34 j, if_neg (show ¬ j = n by omega)])]
    omega
  · rw [mr 38 rfl, mr 37 rfl]
    by_cases e : q = n
    · subst e
      omega
    · rw [mr 10 rfl, m31 q, if_neg e] at h10
      exact hhr q (by omega) h10
