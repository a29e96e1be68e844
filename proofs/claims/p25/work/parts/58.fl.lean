/-! reading the class's cells by numbers; flows by numbers -/
section RD
variable {t0 ao mo : Nat} {ad : Nat → Nat} {L : Ly} {X Y : Mm} {Z : Zs} {Mr M : Mo}
theorem CX.gk (h : CX t0 ao mo ad L X Z Mr) {c i : Nat} (hc : 1 ≤ c ∧ c ≤ 11) (hi : i < yC Z c) : gK X (lA L c i) = c := h.2.2.1 c i hc.1 hc.2 hi
theorem CX.gi (h : CX t0 ao mo ad L X Z Mr) {f c i : Nat} {v : Int} (hf : 64 ≤ f ∧ f < 704 ∧ f / 64 + 1 = c) (hi : i < yC Z c) (hv : yN Z f i = v) : gI X f (lA L c i) = v := by
  obtain ⟨h1, h2, rfl⟩ := hf
  exact (h.2.2.2.2.1 f i h1 h2 hi).trans hv
theorem CX.gp (h : CX t0 ao mo ad L X Z Mr) {f c i j g : Nat} (hf : 64 ≤ f ∧ f < 704 ∧ f / 64 + 1 = c ∧ isP f = true ∧ tgF f = g) (hi : i < yC Z c) (hv : yT Z f i = some j) : gP X f (lA L c i) = some (lA L g j) ∧ j < yC Z g := by
  obtain ⟨h1, h2, rfl, h3, rfl⟩ := hf
  obtain ⟨g1, g2⟩ := h.2.2.2.2.2.1 f i h1 h2 hi h3
  rw [hv] at g1
  exact ⟨g1, g2 j hv⟩
theorem CX.inj (h : CX t0 ao mo ad L X Z Mr) {c i j : Nat} (hi : i < yC Z c) (hj : j < yC Z c) (e : lA L c i = lA L c j) : i = j := h.2.2.2.1 c i j hi hj e
theorem CX.li (h : CX t0 ao mo ad L X Z Mr) {j c : Nat} {xs : List Nat} (hj : j < yC Z 1) (hc : kLs j = c) (hx : yL Z j = xs) : LI t0 X (lA L 1 j) (xs.map (lA L c)) (lD L j) (lC L j) := by
  subst hc hx
  exact (h.2.2.2.2.2.2.1 j hj).1
end RD
def aS (X : Mm) (q : Nat) : Nat := (gP X 320 q).getD 0
def aK (X : Mm) (q : Nat) : Nat := (gP X 321 q).getD 0
def aC (X : Mm) (q : Nat) : Nat := (gP X 322 q).getD 0
def aU (X : Mm) (q : Nat) : Int := gI X 388 (aS X q)
def aB (X : Mm) (dg : Int) (q : Nat) : Int := bdV (gI X 387 (aS X q)) (gI X 386 (aS X q)) (wantV (gI X 131 (aK X q)) (gI X 129 (aK X q)) (gI X 130 (aK X q)) dg)
def aM (X : Mm) (n : Int) (q : Nat) : Int := mwV n (gI X 389 (aS X q)) (gI X 328 q) (gI X 327 q)
def aF (X : Mm) (dg n : Int) (q : Nat) : Int := if aU X q = 1 then 0 else if aM X n q < aB X dg q then aM X n q else aB X dg q
def aR (X : Mm) (q : Nat) : Int := gI X 193 (aC X q)
def rnP (M : Mo) (n : Nat) (k : Nat) : Bool := decide (k < n ∧ M.2 34 k = 1)
theorem rnP_iff {M : Mo} {n k : Nat} : rnP M n k = true ↔ k < n ∧ M.2 34 k = 1 := by simp [rnP]
theorem rnP_filter (M : Mo) (n : Nat) : (List.range n).filter (rnM M) = (List.range n).filter (rnP M n) := by
  refine List.filter_congr (fun k hk => ?_)
  have := List.mem_range.mp hk
  simp [rnM, rnP, this]
section FL
variable {t0 ao mo : Nat} {ad : Nat → Nat} {L : Ly} {X Y : Mm} {Z : Zs} {Mr M : Mo} {n : Nat}
/-- a session's cells -/
def seC (L : Ly) (X : Mm) (M : Mo) (k : Nat) : Prop := gK X (lA L 6 k) = 6 ∧ (gP X 320 (lA L 6 k) = some (lA L 7 (M.2 31 k).toNat) ∧ gK X (lA L 7 (M.2 31 k).toNat) = 7) ∧ (gP X 321 (lA L 6 k) = some (lA L 3 (M.2 32 k).toNat) ∧ gK X (lA L 3 (M.2 32 k).toNat) = 3) ∧ (gP X 322 (lA L 6 k) = some (lA L 4 (M.2 33 k).toNat) ∧ gK X (lA L 4 (M.2 33 k).toNat) = 4) ∧ (gP X 324 (lA L 6 k) = some (lA L 10 k) ∧ gK X (lA L 10 k) = 10)
theorem se_C (h : CX t0 ao mo ad L X Z Mr) (z : zmX Z M) {k : Nat} (hk : k < yC Z 6) : seC L X M k ∧ (M.2 31 k).toNat < yC Z 7 ∧ (M.2 32 k).toNat < yC Z 3 ∧ (M.2 33 k).toNat < yC Z 4 ∧ k < yC Z 10 := by
  obtain ⟨hC, -, -, -, -, -, -, hE, -⟩ := z
  obtain ⟨⟨e1, e2, e3, e4⟩, -⟩ := hE k hk
  have p1 := h.gp (f := 320) (g := 7) (by decide) hk e1
  have p2 := h.gp (f := 321) (g := 3) (by decide) hk e2
  have p3 := h.gp (f := 322) (g := 4) (by decide) hk e3
  have p4 := h.gp (f := 324) (g := 10) (by decide) hk e4
  exact ⟨⟨h.gk (by decide) hk, ⟨p1.1, h.gk (by decide) p1.2⟩, ⟨p2.1, h.gk (by decide) p2.2⟩, ⟨p3.1, h.gk (by decide) p3.2⟩, p4.1, h.gk (by decide) p4.2⟩, p1.2, p2.2, p3.2, p4.2⟩
theorem se_fl (h : CX t0 ao mo ad L X Z Mr) (z : zmX Z M) (hO : OkM M) (hn : n = yC Z 6) {k : Nat} (hk : k < n) (hp : M.2 34 k = 1) : aS X (lA L 6 k) = lA L 7 (M.2 31 k).toNat ∧ aK X (lA L 6 k) = lA L 3 (M.2 32 k).toNat ∧ aC X (lA L 6 k) = lA L 4 (M.2 33 k).toNat ∧ aU X (lA L 6 k) = 1 - M.2 10 (M.2 31 k).toNat ∧ aB X (M.1 5) (lA L 6 k) = bndM M k ∧ aF X (M.1 5) (M.1 1) (lA L 6 k) = dwnM M k ∧ aR X (lA L 6 k) = M.2 19 (M.2 33 k).toNat := by
  subst hn
  obtain ⟨⟨s1, ⟨s2, -⟩, ⟨s3, -⟩, ⟨s4, -⟩, -⟩, i1, i2, i3, i4⟩ := se_C h z hk
  obtain ⟨hC, -, -, -, hS, hA, hD, hE, -⟩ := z
  have k1 : (k : Int) < M.1 30 := by
    have := hC.2.2.2.2.2.1
    omega
  have eS : aS X (lA L 6 k) = lA L 7 (M.2 31 k).toNat := by unfold aS; rw [s2]; rfl
  have eK : aK X (lA L 6 k) = lA L 3 (M.2 32 k).toNat := by unfold aK; rw [s3]; rfl
  have eC : aC X (lA L 6 k) = lA L 4 (M.2 33 k).toNat := by unfold aC; rw [s4]; rfl
  obtain ⟨-, -, a3, a4, a5, a6, -, -⟩ := hS _ i1
  obtain ⟨-, b2, b3, b4, -, -⟩ := hA _ i2
  obtain ⟨-, c2, -⟩ := hD _ i3
  obtain ⟨-, -, -, -, -, -, -, d1, d2, d3⟩ := hE k hk
  have o1 := hO.2.1 (M.2 31 k).toNat (by have := hC.2.2.1; omega)
  unfold okSo at o1
  have f386 := h.gi (f := 386) (by decide) i1 a3
  have f387 := h.gi (f := 387) (by decide) i1 a4
  have f388 := h.gi (f := 388) (by decide) i1 a5
  have f389 := h.gi (f := 389) (by decide) i1 a6
  have f129 := h.gi (f := 129) (by decide) i2 b2
  have f130 := h.gi (f := 130) (by decide) i2 b3
  have f131 := h.gi (f := 131) (by decide) i2 b4
  have f193 := h.gi (f := 193) (by decide) i3 c2
  have f328 := h.gi (f := 328) (by decide) hk rfl
  have f327 := h.gi (f := 327) (by decide) hk rfl
  have eU : aU X (lA L 6 k) = 1 - M.2 10 (M.2 31 k).toNat := by unfold aU; rw [eS]; exact f388
  have eB : aB X (M.1 5) (lA L 6 k) = bndM M k := by
    unfold aB
    rw [eS, eK, f386, f387, f129, f130, f131]
    have ew : wantV (M.2 15 (M.2 32 k).toNat) (M.2 14 (M.2 32 k).toNat) (M.2 16 (M.2 32 k).toNat) (M.1 5) = wantM M (M.2 32 k).toNat := rfl
    rw [ew]
    unfold bdV bndM wntM
    by_cases e : M.2 9 (M.2 31 k).toNat = 0
    · rw [if_neg (show ¬ M.2 9 (M.2 31 k).toNat = 1 by omega), if_pos (show M.2 34 k = 1 ∧ M.2 9 (M.2 31 k).toNat = 0 from ⟨hp, e⟩)]
      split <;> split <;> omega
    · rw [if_pos (show M.2 9 (M.2 31 k).toNat = 1 by omega), if_neg (show ¬ (M.2 34 k = 1 ∧ M.2 9 (M.2 31 k).toNat = 0) from fun z => e z.2), if_pos (by omega)]
  refine ⟨eS, eK, eC, eU, eB, ?_, by unfold aR; rw [eC]; exact f193⟩
  unfold aF aM
  rw [eU, eB, eS, f389, f328, f327]
  unfold dwnM
  by_cases e : M.2 10 (M.2 31 k).toNat = 1
  · rw [if_neg (show ¬ (1 - M.2 10 (M.2 31 k).toNat = 1) by omega), if_pos (show M.2 34 k = 1 ∧ M.2 10 (M.2 31 k).toNat = 1 from ⟨hp, e⟩)]
    have ec : mwV (M.1 1) (M.2 11 (M.2 31 k).toNat) (yN Z 328 k) (yN Z 327 k) = capM M k := by
      have := d3 hp e
      unfold mwV capM
      rw [this]
      rcases d1 with z | z
      · simp [z]
      · simp [z]
    rw [ec]
    split <;> split <;> omega
  · rw [if_pos (show (1 - M.2 10 (M.2 31 k).toNat = 1) by omega), if_neg (fun z => e z.2)]
/-- what serveFirst is told -/
theorem fl_sf (h : CX t0 ao mo ad L X Z Mr) (z : zmX Z M) (hO : OkM M) (hn : n = yC Z 6) : sfI X (((List.range n).filter (rnP M n)).map (lA L 6)) (aS X) (aK X) (aU X) (aB X (M.1 5)) (aF X (M.1 5) (M.1 1)) (M.1 5) (M.1 1) ∧ ruK X (((List.range n).filter (rnP M n)).map (lA L 6)) (aC X) (aR X) := by
  subst hn
  have key : ∀ q ∈ (((List.range (yC Z 6)).filter (rnP M (yC Z 6))).map (lA L 6)), ∃ k, k < yC Z 6 ∧ M.2 34 k = 1 ∧ lA L 6 k = q := fun q hq => by
    obtain ⟨k, hk, hp, e⟩ := rs_mem hq
    exact ⟨k, hk, (rnP_iff.mp hp).2, e⟩
  constructor
  · intro q hq
    obtain ⟨k, hk, hp, rfl⟩ := key q hq
    obtain ⟨⟨s1, ⟨s2, s5⟩, ⟨s3, s6⟩, ⟨s4, s7⟩, -⟩, i1, i2, i3, i4⟩ := se_C h z hk
    obtain ⟨e1, e2, e3, e4, e5, e6, e7⟩ := se_fl h z hO rfl hk hp
    obtain ⟨hC, -, -, -, hS, hA, hD, hE, -⟩ := z
    obtain ⟨-, -, a3, a4, a5, a6, -, -⟩ := hS _ i1
    obtain ⟨-, b2, b3, b4, -, -⟩ := hA _ i2
    obtain ⟨-, -, -, -, -, -, -, d1, d2, d3⟩ := hE k hk
    have o1 := hO.2.1 (M.2 31 k).toNat (by have := hC.2.2.1; omega)
    have o2 := hO.2.2.1 (M.2 32 k).toNat (by have := hC.2.2.2.1; omega)
    have o3 := hO.1
    unfold okSo at o1
    unfold okCa at o2
    unfold okSc at o3
    have bi := bndM_in hO (k := k) (by have := hC.2.2.2.2.2.1; omega)
    have di := dwnM_in hO (k := k) (by have := hC.2.2.2.2.2.1; omega)
    have f386 := h.gi (f := 386) (by decide) i1 a3
    have f387 := h.gi (f := 387) (by decide) i1 a4
    have f388 := h.gi (f := 388) (by decide) i1 a5
    have f389 := h.gi (f := 389) (by decide) i1 a6
    have f129 := h.gi (f := 129) (by decide) i2 b2
    have f130 := h.gi (f := 130) (by decide) i2 b3
    have f131 := h.gi (f := 131) (by decide) i2 b4
    have f328 := h.gi (f := 328) (by decide) hk rfl
    have f327 := h.gi (f := 327) (by decide) hk rfl
    refine ⟨s1, by rw [e1]; exact s2, by rw [e1]; exact s5, rfl, by rw [e4]; omega, by rw [e2]; exact s3, by rw [e2]; exact s6, by rw [e1, f387]; omega, by rw [e1, f386]; omega, by rw [e2, f131, f129]; omega, by rw [e2, f129]; omega, by rw [e2, f130]; omega, by rw [e1, f389]; omega, by rw [f328]; exact d1, by rw [f327]; exact d2, rfl, by rw [e5]; exact bi, rfl, by rw [e6]; exact di⟩
  · intro q hq
    obtain ⟨k, hk, hp, rfl⟩ := key q hq
    obtain ⟨⟨s1, ⟨s2, s5⟩, ⟨s3, s6⟩, ⟨s4, s7⟩, -⟩, i1, i2, i3, i4⟩ := se_C h z hk
    obtain ⟨e1, e2, e3, e4, e5, e6, e7⟩ := se_fl h z hO rfl hk hp
    have o4 := hO.2.2.2.1 (M.2 33 k).toNat (by have := z.1.2.2.2.2.1; omega)
    unfold okCd at o4
    refine ⟨by rw [e3]; exact s4, by rw [e3]; exact s7, rfl, by rw [e7]; omega⟩
theorem lf_sum {v : Nat → Int} {f : Nat → Int} {p : Nat → Bool} {a : Nat → Nat} (h1 : ∀ k, k < n → p k = true → v (a k) = f k) (h2 : ∀ k, k < n → ¬ p k = true → f k = 0) {rs : List Nat} (hrs : rs = ((List.range n).filter p).map a) (s : Int) : lfF v rs rs.length s = s - sumF f n := by
  rw [fold_all hrs (fun q s => s - v q) (lfF v rs) (fun _ => rfl) (fun _ _ => rfl)]
  have key : ∀ j, j ≤ n → idF p (fun k s => s - v (a k)) j s = s - sumF f j := by
    intro j
    induction j with
    | zero => intro _; show s = s - 0; omega
    | succ j ih =>
      intro hj
      have h := ih (by omega)
      show (if p j = true then idF p (fun k s => s - v (a k)) j s - v (a j) else idF p (fun k s => s - v (a k)) j s) = s - (sumF f j + f j)
      by_cases e : p j = true
      · rw [if_pos e, h1 j (by omega) e]
        omega
      · have := h2 j (by omega) e
        rw [if_neg e]
        omega
  exact key n (Nat.le_refl _)
/-- what is shared behind what goes first -/
theorem fl_srv (h : CX t0 ao mo ad L X Z Mr) (z : zmX Z M) (hO : OkM M) (hn : n = yC Z 6) {rs : List Nat} (hrs : rs = ((List.range n).filter (rnP M n)).map (lA L 6)) {G : Nat → Int} (hG : ∀ q ∈ rs, G q = aF X (M.1 5) (M.1 1) q) : srR n (rnP M n) (lA L 6) M (BM M n) (svR (aU X) (aB X (M.1 5)) (aR X) 0 rs 4 (svR (aU X) (aB X (M.1 5)) (aR X) 1 rs 4 (lfF (aF X (M.1 5) (M.1 1)) rs rs.length (M.1 3 + M.1 4), G))) (s2M M n) := by
  have hk9 : ∀ k : Nat, k < n → (k : Int) < M.1 30 := fun k hk => by have := z.1.2.2.2.2.2.1; omega
  have hBM : ∀ k, k < n → BM M n k = bndM M k := fun k hk => if_pos hk
  have hPM : ∀ k, k < n → PM M n k = dwnM M k := fun k hk => if_pos hk
  have hn40 : n ≤ 40 := by have := hO.1; unfold okSc at this; have := z.1.2.2.2.2.2.1; omega
  have hH : svH n (rnP M n) (lA L 6) (aU X) (aB X (M.1 5)) (aR X) M (BM M n) := ⟨fun i j hi hj e => h.inj (hn ▸ hi) (hn ▸ hj) e, fun k => rnP_iff, fun k hk hp => by
    obtain ⟨e1, e2, e3, e4, e5, e6, e7⟩ := se_fl h z hO hn hk (rnP_iff.mp hp).2
    exact ⟨e4, by rw [e5, hBM k hk], e7, by rw [hBM k hk]; exact (bndM_in hO (hk9 k hk)).1⟩⟩
  have hlf : lfF (aF X (M.1 5) (M.1 1)) rs rs.length (M.1 3 + M.1 4) = lfM M n := by
    unfold lfM
    exact lf_sum (p := rnP M n) (a := lA L 6) (fun k hk hp => (se_fl h z hO hn hk (rnP_iff.mp hp).2).2.2.2.2.2.1) (fun k hk hp => if_neg (fun e => hp (rnP_iff.mpr ⟨hk, e.1⟩))) hrs _
  rw [hlf]
  refine sv_all hH (Or.inl rfl) hn40 hrs (sv_all hH (Or.inr rfl) hn40 hrs ⟨fun k hk hp => ?_, ?_, ?_, fun k hk hs hb => ?_⟩)
  · have hm : lA L 6 k ∈ rs := by
      rw [hrs]
      exact List.mem_map.mpr ⟨k, List.mem_filter.mpr ⟨List.mem_range.mpr hk, hp⟩, rfl⟩
    show G (lA L 6 k) = PM M n k
    rw [hG _ hm, hPM k hk]
    exact (se_fl h z hO hn hk (rnP_iff.mp hp).2).2.2.2.2.2.1
  · show lfM M n = (if 0 < lfM M n then lfM M n else 0) ∨ (lfM M n < 0 ∧ (if 0 < lfM M n then lfM M n else 0) = 0)
    split <;> omega
  · show 0 ≤ if 0 < lfM M n then lfM M n else 0
    split <;> omega
  · show PM M n k = 0
    rw [hPM k hk]
    exact if_neg (fun e => by have := hs.2; omega)
theorem s2_val {k : Nat} (hO : OkM M) (hn : (n : Int) = M.1 30) (hk : k < n) : (s2M M n).1 k = dwnM M k ∨ (svd M k ∧ ((1400 ≤ bndM M k ∧ (s2M M n).1 k = 1400) ∨ (bndM M k < 1400 ∧ (s2M M n).1 k = bndM M k))) := by
  have e : BM M n k = bndM M k := if_pos hk
  have eP : PM M n k = dwnM M k := if_pos hk
  have h2 := srv_val (M := M) (n := n) (B := BM M n) (g := 0) (s := s1M M n) (Or.inl rfl) 256 k
  have h1 := srv_val (M := M) (n := n) (B := BM M n) (g := 1) (s := (PM M n, if 0 < lfM M n then lfM M n else 0)) (Or.inr rfl) 256 k
  have d2 : (s2M M n).1 k = (srvTo M n (BM M n) 0 256 (s1M M n)).1 k := rfl
  have d1 : (s1M M n).1 k = (srvTo M n (BM M n) 1 256 (PM M n, if 0 < lfM M n then lfM M n else 0)).1 k := rfl
  rw [← d2] at h2
  rw [← d1] at h1
  dsimp only at h1
  rw [e] at h1 h2
  rw [eP] at h1
  rcases h2 with h2 | ⟨-, h2, h3⟩
  · rcases h1 with h1 | ⟨-, h1, h4⟩
    · exact Or.inl (h2.trans h1)
    · rcases h4 with h4 | h4
      · exact Or.inr ⟨h1, Or.inl ⟨h4.2.1, h2.trans h4.2.2⟩⟩
      · have := h4.1
        omega
  · rcases h3 with h3 | h3
    · have := h3.1
      omega
    · exact Or.inr ⟨h2, Or.inr h3.2⟩
/-- the running sessions are at most eight -/
theorem rn_8 (z : zmX Z M) (hO : OkM M) (hR : ivR M) (hn : n = yC Z 6) : ((List.range n).filter (rnP M n)).length ≤ 8 := by
  have hnd : ((List.range n).filter (rnP M n)).Nodup := List.Pairwise.filter _ List.nodup_range
  have hm : (((List.range n).filter (rnP M n)).map (fun k => (M.2 31 k).toNat)).Nodup := by
    refine List.pairwise_map.mpr (List.Pairwise.imp_of_mem (fun {x y} hx hy hxy e => hxy ?_) hnd)
    have hx := rnP_iff.mp (List.mem_filter.mp hx).2
    have hy := rnP_iff.mp (List.mem_filter.mp hy).2
    have h6 := z.1.2.2.2.2.2.1
    have r1 := hR x (by omega) hx.2
    have r2 := hR y (by omega) hy.2
    rw [e, r2] at r1
    omega
  have hs : (((List.range n).filter (rnP M n)).map (fun k => (M.2 31 k).toNat)) ⊆ List.range 8 := by
    intro u hu
    obtain ⟨k, hk, rfl⟩ := List.mem_map.mp hu
    have hk := rnP_iff.mp (List.mem_filter.mp hk).2
    have h6 := z.1.2.2.2.2.2.1
    have o := (hO.2.2.2.2.1 k (by omega)).1
    have o2 := hO.1
    unfold okSe at o
    unfold okSc at o2
    exact List.mem_range.mpr (by omega)
  have := List.Nodup.length_le_of_subset hm hs
  rw [List.length_map, List.length_range] at this
  exact this
theorem cnt_len {tb p : Nat → Bool} {B : Nat → Int} {h : Int} (ht : ∀ k, tb k = true → p k = true) : ∀ n : Nat, cntF tb B h n ≤ (((List.range n).filter p).length : Int) := by
  intro n
  induction n with
  | zero => exact Int.le_refl _
  | succ n ih =>
    rw [List.range_succ, List.filter_append, List.length_append]
    show cntF tb B h n + (if tb n = true ∧ h < B n then 1 else 0) ≤ _
    by_cases e : tb n = true ∧ h < B n
    · rw [if_pos e]
      have : ([n].filter p).length = 1 := by simp [ht n e.1]
      omega
    · rw [if_neg e]
      omega
/-- what the sharing is told -/
theorem fl_shr (h : CX t0 ao mo ad L X Z Mr) (z : zmX Z M) (hO : OkM M) (hR : ivR M) (hn : n = yC Z 6) {s : Int × (Nat → Int)} (hs : srR n (rnP M n) (lA L 6) M (BM M n) s (s2M M n)) : flH n (rnP M n) (lA L 6) (aU X) (aB X (M.1 5)) (tbM M n) (BM M n) (s2M M n).1 ∧ flA n (rnP M n) (lA L 6) (tbM M n) (BM M n) (s2M M n).1 1400 s.2 ∧ posI s.1 = (s2M M n).2 ∧ cntF (tbM M n) (BM M n) 1400 n ≤ 8 ∧ (∀ k, k < n → 0 ≤ BM M n k ∧ BM M n k ≤ 50000) ∧ (∀ k, k < n → 0 ≤ (s2M M n).1 k ∧ (s2M M n).1 k ≤ 50000) := by
  have hk9 : ∀ k : Nat, k < n → (k : Int) < M.1 30 := fun k hk => by have := z.1.2.2.2.2.2.1; omega
  have hn9 : (n : Int) = M.1 30 := by have := z.1.2.2.2.2.2.1; omega
  have hBM : ∀ k, k < n → BM M n k = bndM M k := fun k hk => if_pos hk
  have htb : ∀ k, tbM M n k = true ↔ k < n ∧ svd M k ∧ (s2M M n).1 k = 1400 := fun k => by
    unfold tbM svd
    simp
  have hv : ∀ k, k < n → 0 ≤ (s2M M n).1 k ∧ (s2M M n).1 k ≤ 50000 := fun k hk => by
    have b1 := bndM_in hO (hk9 k hk)
    have d1 := dwnM_in hO (hk9 k hk)
    rcases s2_val hO hn9 hk with e | ⟨-, e | e⟩ <;> omega
  have ht1 : ∀ k, tbM M n k = true → rnP M n k = true := fun k hk => rnP_iff.mpr ⟨((htb k).mp hk).1, ((htb k).mp hk).2.1.1⟩
  refine ⟨⟨fun i j hi hj e => h.inj (hn ▸ hi) (hn ▸ hj) e, fun k hk => ?_, fun k hk hp hu h14 => ?_, fun k hk hp => ?_⟩, fun k hk hp => ?_, ?_, ?_, fun k hk => by rw [hBM k hk]; exact bndM_in hO (hk9 k hk), hv⟩
  · obtain ⟨k1, k2, k3⟩ := (htb k).mp hk
    obtain ⟨e1, e2, e3, e4, e5, e6, e7⟩ := se_fl h z hO hn k1 k2.1
    refine ⟨k1, rnP_iff.mpr ⟨k1, k2.1⟩, by rw [e4, k2.2]; rfl, ?_, k3⟩
    rw [hBM k k1]
    have d0 : dwnM M k = 0 := if_neg (fun y => by have := k2.2; omega)
    rcases s2_val hO hn9 k1 with e | ⟨-, e | e⟩ <;> omega
  · obtain ⟨e1, e2, e3, e4, e5, e6, e7⟩ := se_fl h z hO hn hk (rnP_iff.mp hp).2
    have hsv : svd M k := ⟨(rnP_iff.mp hp).2, by omega⟩
    have d0 : dwnM M k = 0 := if_neg (fun y => by have := hsv.2; omega)
    refine (htb k).mpr ⟨hk, hsv, ?_⟩
    rcases s2_val hO hn9 hk with e | ⟨-, e | e⟩ <;> omega
  · rw [hBM k hk]
    exact (se_fl h z hO hn hk (rnP_iff.mp hp).2).2.2.2.2.1
  · rw [hs.1 k hk hp]
    unfold lvF
    by_cases e : tbM M n k = true
    · rw [if_pos e]
      obtain ⟨k1, k2, k3⟩ := (htb k).mp e
      have d0 : dwnM M k = 0 := if_neg (fun y => by have := k2.2; omega)
      have := hBM k hk
      rcases s2_val hO hn9 k1 with y | ⟨-, y | y⟩ <;> rw [if_neg (by omega)] <;> exact k3
    · rw [if_neg e]
  · have := hs.2.1
    have := hs.2.2.1
    unfold posI
    split <;> omega
  · have h1 := cnt_len (h := 1400) (B := BM M n) ht1 n
    have h2 := rn_8 z hO hR hn
    omega
end FL
