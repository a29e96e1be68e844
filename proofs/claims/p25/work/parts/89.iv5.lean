/-! passing: the bookings' rows apart -/
theorem setA_bk {N : Mo} {c a f t : Nat → Int} {q i : Nat} {v : Int} (hq : q < 26 ∨ 29 < q) : setA (bkM N c a f t) q i v = bkM (setA N q i v) c a f t := by
  unfold setA bkM setR
  refine Prod.ext rfl ?_
  funext j x
  dsimp only
  by_cases e9 : j = 29
  · have e : ¬ j = q := by omega
    rw [if_neg e, if_pos e9, if_pos e9]
  · rw [if_neg e9]
    by_cases e8 : j = 28
    · have e : ¬ j = q := by omega
      rw [if_neg e, if_neg e9, if_pos e8, if_pos e8]
    · rw [if_neg e8]
      by_cases e7 : j = 27
      · have e : ¬ j = q := by omega
        rw [if_neg e, if_neg e9, if_neg e8, if_pos e7, if_pos e7]
      · rw [if_neg e7]
        by_cases e6 : j = 26
        · have e : ¬ j = q := by omega
          rw [if_neg e, if_neg e9, if_neg e8, if_neg e7, if_pos e6, if_pos e6]
        · rw [if_neg e6, if_neg e9, if_neg e8, if_neg e7, if_neg e6, if_neg (show ¬ q = 29 by omega), if_neg (show ¬ q = 28 by omega), if_neg (show ¬ q = 27 by omega), if_neg (show ¬ q = 26 by omega)]
theorem setR_bk {N : Mo} {c a f t g : Nat → Int} {q : Nat} (hq : q < 26 ∨ 29 < q) : setR (bkM N c a f t) q g = bkM (setR N q g) c a f t := by
  unfold bkM setR
  refine Prod.ext rfl ?_
  funext j
  dsimp only
  by_cases e : j = q
  · rw [if_pos e, if_neg (show ¬ j = 29 by omega), if_neg (show ¬ j = 28 by omega), if_neg (show ¬ j = 27 by omega), if_neg (show ¬ j = 26 by omega), if_pos e]
  · rw [if_neg e, if_neg e]
theorem bk_bk {N : Mo} {c a f t c2 a2 f2 t2 : Nat → Int} : bkM (bkM N c a f t) c2 a2 f2 t2 = bkM N c2 a2 f2 t2 := by
  unfold bkM setR
  refine Prod.ext rfl ?_
  funext j
  dsimp only
  by_cases e9 : j = 29
  · simp [e9]
  · by_cases e8 : j = 28
    · simp [e8]
    · by_cases e7 : j = 27
      · simp [e7]
      · by_cases e6 : j = 26
        · simp [e6]
        · simp [e9, e8, e7, e6]
theorem srvTo_bk (M : Mo) (b1 b2 b3 b4 : Nat → Int) (n : Nat) (B : Nat → Int) (g : Int) (c : Nat) (s : (Nat → Int) × Int) : srvTo (bkM M b1 b2 b3 b4) n B g c s = srvTo M n B g c s := by
  induction c with
  | zero => rfl
  | succ c ih =>
    show srvAt (bkM M b1 b2 b3 b4) n B g c (srvTo (bkM M b1 b2 b3 b4) n B g c s) = srvAt M n B g c (srvTo M n B g c s)
    rw [ih]
    rfl
theorem powM_bk (M : Mo) (b1 b2 b3 b4 : Nat → Int) (n : Nat) : powM (bkM M b1 b2 b3 b4) n = powM M n := by
  have h1 : s1M (bkM M b1 b2 b3 b4) n = s1M M n := srvTo_bk M b1 b2 b3 b4 n _ 1 256 _
  have h2 : s2M (bkM M b1 b2 b3 b4) n = s2M M n := by
    show srvTo (bkM M b1 b2 b3 b4) n (BM M n) 0 256 (s1M (bkM M b1 b2 b3 b4) n) = _
    rw [h1, srvTo_bk]
    rfl
  have h3 : tbM (bkM M b1 b2 b3 b4) n = tbM M n := by
    funext k
    unfold tbM
    rw [h2]
    rfl
  unfold powM
  rw [h2, h3]
  rfl
theorem heardM_bk (M : Mo) (c a f t : Nat → Int) (k : Nat) : heardM (bkM M c a f t) k = bkM (heardM M k) c a f t := by
  unfold heardM
  rw [setA_bk (q := 38) (by decide), setA_bk (q := 42) (by decide), setA_bk (q := 43) (by decide), setA_bk (q := 44) (by decide)]
  rfl
theorem oneM_bk (A : Mo) (P : Nat → Int) (d : Int) (N : Mo) (k : Nat) (c a f t : Nat → Int) : oneM (bkM A c a f t) P d (bkM N c a f t) k = bkM (oneM A P d N k) c a f t := by
  unfold oneM
  by_cases h1 : A.2 34 k = 1
  · rw [if_pos h1, if_pos (show (bkM A c a f t).2 34 k = 1 from h1)]
    by_cases h2 : A.2 10 (A.2 31 k).toNat = 0
    · rw [if_pos h2, if_pos (show (bkM A c a f t).2 10 ((bkM A c a f t).2 31 k).toNat = 0 from h2)]
      rw [setA_bk (q := 41) (by decide), setA_bk (q := 15) (by decide), setA_bk (q := 35) (by decide), setA_bk (q := 36) (by decide), setA_bk (q := 39) (by decide), setA_bk (q := 40) (by decide), setA_bk (q := 37) (by decide), heardM_bk]
      rfl
    · rw [if_neg h2, if_neg (show ¬ (bkM A c a f t).2 10 ((bkM A c a f t).2 31 k).toNat = 0 from h2)]
      rw [setA_bk (q := 41) (by decide), setA_bk (q := 15) (by decide), setA_bk (q := 35) (by decide), setA_bk (q := 36) (by decide), setA_bk (q := 39) (by decide), setA_bk (q := 40) (by decide), setA_bk (q := 37) (by decide)]
      rfl
  · rw [if_neg h1, if_neg (show ¬ (bkM A c a f t).2 34 k = 1 from h1)]
theorem ptM_bk (A : Mo) (P : Nat → Int) (d : Int) (N : Mo) (c a f t : Nat → Int) : ∀ n, ptM (bkM A c a f t) P d n (bkM N c a f t) = bkM (ptM A P d n N) c a f t := by
  intro n
  induction n with
  | zero => rfl
  | succ n ih =>
    show oneM (bkM A c a f t) P d (ptM (bkM A c a f t) P d n (bkM N c a f t)) n = bkM (oneM A P d (ptM A P d n N) n) c a f t
    rw [ih, oneM_bk]
theorem m1M_bk (A : Mo) (n : Nat) (c a f t : Nat → Int) : m1M (bkM A c a f t) n = bkM (m1M A n) c a f t := by
  unfold m1M bp
  rw [powM_bk, setR_bk (q := 48) (by decide), setR_bk (q := 49) (by decide)]
  rfl
theorem lisM_bk (A : Mo) (c a f t : Nat → Int) : lisM (bkM A c a f t) = bkM (lisM A) c a f t := by
  unfold lisM
  by_cases h : A.1 1 % 1440 = 0
  · rw [if_pos h, if_pos (show (bkM A c a f t).1 1 % 1440 = 0 from h), setR_bk (q := 21) (by decide)]
    rfl
  · rw [if_neg h, if_neg (show ¬ (bkM A c a f t).1 1 % 1440 = 0 from h)]
/-- a minute of the reference is the class's, bookings apart -/
theorem pass1_bk {A M2 : Mo} {n : Nat} {c a f t : Nat → Int} (h : pass1 (bkM A c a f t) n M2) : ∃ c2 a2 f2 t2, lateI (A.1 1 + 1) c a f t c2 a2 f2 t2 (A.1 6).toNat ∧ M2 = bkM (pc1 A n) c2 a2 f2 t2 := by
  obtain ⟨c2, a2, f2, t2, h1, h2⟩ := h
  refine ⟨c2, a2, f2, t2, h1, ?_⟩
  rw [h2, powM_bk, m1M_bk, show dayM (bkM A c a f t) = dayM A from rfl, ptM_bk, show (bkM A c a f t).1 1 = A.1 1 from rfl, show setS (bkM (ptM A (powM A n) (dayM A) n (m1M A n)) c a f t) 1 (A.1 1 + 1) = bkM (setS (ptM A (powM A n) (dayM A) n (m1M A n)) 1 (A.1 1 + 1)) c a f t from rfl, bk_bk, lisM_bk]
  rfl
theorem jv_bk {A : Mo} {c a f t : Nat → Int} (h : Jv A) (hc : ∀ u, u < 8 → 0 ≤ c u ∧ c u ≤ 512) (hz : ∀ u : Nat, A.1 6 ≤ (u : Int) → u < 8 → c u = 0) : Jv (bkM A c a f t) := by
  obtain ⟨hO, iS, iR, iC, iE, z1, z2, z3⟩ := h
  have o0 := hO.1
  unfold okSc at o0
  refine ⟨⟨hO.1, fun i hi => ?_, hO.2.2⟩, iS, iR, iC, iE, z1, z2, fun i q1 q2 => ?_⟩
  · have hi2 : (i : Int) < A.1 6 := hi
    have o := hO.2.1 i hi
    unfold okSo at o ⊢
    exact ⟨o.1, o.2.1, o.2.2.1, o.2.2.2.1, o.2.2.2.2.1, o.2.2.2.2.2.1, hc i (by omega)⟩
  · obtain ⟨a1, a2, a3, a4, a5⟩ := z3 i q1 q2
    exact ⟨a1, a2, a3, a4, hz i q1 q2⟩
theorem keepB_at (now : Int) (q : Int × Int × Int) : keepB now q = true ↔ now < q.2.1 + 15 := by
  unfold keepB
  exact decide_eq_true_iff
/-- the reference behind k minutes -/
def PJ (M : Mo) (n k : Nat) (M9 : Mo) : Prop := M.1 1 + (k : Int) ≤ 20000 ∧ ∃ c a f t, M9 = bkM (pcN M n k) c a f t ∧ ∀ u, u < 8 → (0 ≤ c u ∧ c u ≤ M.2 26 u) ∧ ((u : Int) < M.1 6 → blF c a f t u = (bkL M u).filter (keepB (M.1 1 + k))) ∧ (M.1 6 ≤ (u : Int) → blF c a f t u = bkL M u)
theorem PJ_0 {M : Mo} {jj n : Nat} (h : Iv M jj) : PJ M n 0 (setS M 0 0) := by
  have o0 := h.1.1
  unfold okSc at o0
  obtain ⟨b1, b2⟩ := ivB_iff.mp h.2.2.2.2.2.2
  refine ⟨by omega, M.2 26, M.2 27, M.2 28, M.2 29, (bkM_self (setS M 0 0)).symm, fun u hu => ⟨⟨(b1 u hu).1.1, Int.le_refl _⟩, fun h6 => ?_, fun _ => rfl⟩⟩
  show bkL M u = _
  exact (List.filter_eq_self.mpr (fun q hq => (keepB_at _ q).mpr (by have := ((b2 u h6).1 q hq).2.2.2.1; omega))).symm
theorem PJ_1 {M M9 M2 : Mo} {jj n k : Nat} (hI : Iv M jj) (h : PJ M n k M9) (hk : (k : Int) + M.1 1 < 20000) (hp : pass1 M9 n M2) : PJ M n (k + 1) M2 := by
  obtain ⟨h1, c, a, f, t, rfl, h2⟩ := h
  obtain ⟨c2, a2, f2, t2, h3, rfl⟩ := pass1_bk hp
  obtain ⟨t1, t3, t4⟩ := pcN_t M n k
  rw [t1 6 (by decide) (by decide) (by decide), t4] at h3
  refine ⟨by omega, c2, a2, f2, t2, rfl, fun u hu => ?_⟩
  obtain ⟨g1, g2, g3⟩ := h2 u hu
  obtain ⟨l1, l2, l3⟩ := h3 u hu
  refine ⟨by omega, fun h6 => ?_, fun h6 => ?_⟩
  · rw [l2 (by omega), g2 h6, List.filter_filter]
    refine List.filter_congr (fun q hq => ?_)
    have e1 := keepB_at (M.1 1 + (k : Int) + 1) q
    have e2 := keepB_at (M.1 1 + (k : Int)) q
    rw [show M.1 1 + ((k + 1 : Nat) : Int) = M.1 1 + (k : Int) + 1 by omega]
    cases h9 : keepB (M.1 1 + (k : Int) + 1) q with
    | false => rfl
    | true => exact e2.mpr (by have := e1.mp h9; omega)
  · rw [l3 (by omega)]
    exact g3 h6
theorem PJ_iv {M M9 : Mo} {jj n k : Nat} (hI : Iv M jj) (hn : (n : Int) = M.1 30) (h : PJ M n k M9) : Iv M9 jj ∧ (n : Int) = M9.1 30 ∧ M9.1 1 = M.1 1 + k ∧ M9.1 0 = 0 := by
  obtain ⟨h1, c, a, f, t, rfl, h2⟩ := h
  obtain ⟨hO, iS, iR, iC, iE, iZ, iB⟩ := hI
  obtain ⟨t1, t3, t4⟩ := pcN_t M n k
  have hJ := pcN_J (M := M) (n := n) ⟨hO, iS, iR, iC, iE, iZ⟩ hn k h1
  obtain ⟨b1, b2⟩ := ivB_iff.mp iB
  have o0 := hO.1
  unfold okSc at o0
  have hz : ∀ u : Nat, (pcN M n k).1 6 ≤ (u : Int) → u < 8 → c u = 0 := fun u q1 q2 => by
    rw [t1 6 (by decide) (by decide) (by decide)] at q1
    have := (iZ.2.2 u q1 q2).2.2.2.2
    have := (h2 u q2).1
    omega
  have hJ2 := jv_bk (a := a) (f := f) (t := t) hJ (fun u hu => by have e1 := (h2 u hu).1; have e2 := b1 u hu; omega) hz
  obtain ⟨j1, j2, j3, j4, j5, j6⟩ := hJ2
  refine ⟨⟨j1, j2, j3, j4, j5, j6, ivB_sub iB (Nat.le_refl _) (fun u hu => (h2 u hu).1) (t1 6 (by decide) (by decide) (by decide)) (t1 17 (by decide) (by decide) (by decide)) (fun u hu => ?_) (fun u hu q hq => ?_)⟩, ?_, t4, t3⟩
  · show List.Sublist (blF c a f t u) (bkL M u)
    rw [(h2 u (by omega)).2.1 hu]
    exact List.filter_sublist
  · have hq2 : q ∈ blF c a f t u := hq
    rw [(h2 u (by omega)).2.1 hu] at hq2
    have := (keepB_at _ q).mp (List.mem_filter.mp hq2).2
    show (pcN M n k).1 1 < q.2.1 + 15
    omega
  · show (n : Int) = (pcN M n k).1 30
    rw [t1 30 (by decide) (by decide) (by decide)]
    exact hn
theorem passN_J {M : Mo} {jj n : Nat} (hI : Iv M jj) : ∀ (k : Nat) (M2 : Mo), M.1 1 + (k : Int) ≤ 20000 → passN n k (setS M 0 0) M2 → PJ M n k M2 := by
  intro k
  induction k with
  | zero =>
    intro M2 _ h
    have e : M2 = setS M 0 0 := h
    rw [e]
    exact PJ_0 hI
  | succ k ih =>
    intro M2 hk h
    obtain ⟨M1, h1, h2⟩ := h
    exact PJ_1 hI (ih M1 (by omega) h1) (by omega) h2
/-- the class's numbers behind passing are the reference's -/
theorem zm_pass {Z Z2 : Zs} {M M2 : Mo} {jj n k : Nat} (hZ : ZM Z M) (hI : Iv M jj) (h : PJ M n k M2) (zX : zmX Z2 (pcN M n k)) (zT : zmT Z2 (pcN M n k)) (zW : zmW Z2 (pcN M n k)) (hC : yC Z2 = yC Z) (hT : yT Z2 = yT Z) (h65 : yN Z2 65 = yN Z 65) (h66 : yN Z2 66 = yN Z 66) (hL : ∀ u, u < yC Z 7 → yL Z2 (6 + u) = (yL Z (6 + u)).filter (fun q => !decide (yN Z 65 q + 15 ≤ (pcN M n k).1 1))) : ZM Z2 M2 := by
  obtain ⟨h1, c, a, f, t, rfl, h2⟩ := h
  obtain ⟨t1, t3, t4⟩ := pcN_t M n k
  have o0 := hI.1.1
  unfold okSc at o0
  have eb : bkZ Z2 = bkZ Z := by
    funext q
    unfold bkZ
    rw [hT, h65, h66]
  have zc := hZ.1.1.2.2.1
  refine ⟨zX, zT, zW, fun q hq => ?_, fun u hu => ?_⟩
  · rw [hT]
    rw [hC] at hq
    exact hZ.2.2.2.1 q hq
  · rw [hC] at hu
    have hb := hZ.2.2.2.2 u hu
    show (yL Z2 (6 + u)).map (bkZ Z2) = blF c a f t u
    rw [(h2 u (by omega)).2.1 (by omega), ← hb, hL u hu, eb, List.filter_map]
    refine congrArg (List.map (bkZ Z)) (List.filter_congr (fun q hq => ?_))
    rw [t4]
    show (!decide (yN Z 65 q + 15 ≤ M.1 1 + (k : Int))) = decide (M.1 1 + (k : Int) < yN Z 65 q + 15)
    by_cases e : yN Z 65 q + 15 ≤ M.1 1 + (k : Int)
    · rw [decide_eq_true e, decide_eq_false (by omega)]
      rfl
    · rw [decide_eq_false e, decide_eq_true (by omega)]
      rfl
