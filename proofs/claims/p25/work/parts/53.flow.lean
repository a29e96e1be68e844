/-! flows: the class's walks over its running sessions against the reference's by numbers -/
theorem getD_fold {α : Type} (rs : List Nat) (step : Nat → α → α) (F : Nat → α → α) (h0 : ∀ s, F 0 s = s) (h1 : ∀ i s, F (i + 1) s = step (rs.getD i 0) (F i s)) (s : α) : ∀ i, i ≤ rs.length → F i s = (rs.take i).foldl (fun s q => step q s) s := by
  intro i
  induction i with
  | zero => intro _; rw [h0]; rfl
  | succ i ih =>
    intro hi
    have e : rs[i]? = some (rs[i]'(by omega)) := List.getElem?_eq_getElem (by omega)
    rw [h1, ih (by omega), List.getD_eq_getElem?_getD, e, List.take_succ, List.foldl_append, e]
    rfl
def idF {α : Type} (p : Nat → Bool) (step : Nat → α → α) : Nat → α → α
  | 0, s => s
  | k + 1, s => if p k = true then step k (idF p step k s) else idF p step k s
theorem fold_id {α : Type} (p : Nat → Bool) (a : Nat → Nat) (step : Nat → α → α) (s : α) (n : Nat) : (((List.range n).filter p).map a).foldl (fun s q => step q s) s = idF p (fun k => step (a k)) n s := by
  induction n with
  | zero => rfl
  | succ n ih =>
    rw [List.range_succ, List.filter_append, List.map_append, List.foldl_append, ih]
    show _ = if p n = true then _ else _
    by_cases h : p n = true
    · rw [if_pos h]
      simp [h]
    · rw [if_neg h]
      simp [h]
theorem fold_all {α : Type} {rs : List Nat} {n : Nat} {p : Nat → Bool} {a : Nat → Nat} (hrs : rs = ((List.range n).filter p).map a) (step : Nat → α → α) (F : Nat → α → α) (h0 : ∀ s, F 0 s = s) (h1 : ∀ i s, F (i + 1) s = step (rs.getD i 0) (F i s)) (s : α) : F rs.length s = idF p (fun k => step (a k)) n s := by
  rw [getD_fold rs step F h0 h1 s rs.length (Nat.le_refl _), List.take_length, hrs, fold_id]
/-- who takes: by numbers and by addresses -/
def flH (n : Nat) (p : Nat → Bool) (a : Nat → Nat) (U BD : Nat → Int) (tb : Nat → Bool) (B P : Nat → Int) : Prop := (∀ i j, i < n → j < n → a i = a j → i = j) ∧ (∀ k, tb k = true → k < n ∧ p k = true ∧ U (a k) = 1 ∧ 1400 ≤ B k ∧ P k = 1400) ∧ (∀ k, k < n → p k = true → U (a k) = 1 → 1400 ≤ P k → tb k = true) ∧ (∀ k, k < n → p k = true → BD (a k) = B k)
def flA (n : Nat) (p : Nat → Bool) (a : Nat → Nat) (tb : Nat → Bool) (B P : Nat → Int) (h : Int) (g : Nat → Int) : Prop := ∀ k, k < n → p k = true → g (a k) = lvF tb B P h k
section FLOW
variable {n : Nat} {p : Nat → Bool} {a : Nat → Nat} {U BD : Nat → Int} {tb : Nat → Bool} {B P : Nat → Int} {h : Int} {g : Nat → Int}
theorem tk_lv (hF : flH n p a U BD tb B P) (hh : 1400 ≤ h) {k : Nat} (hk : k < n) (hp : p k = true) : (U (a k) = 1 ∧ 1400 ≤ lvF tb B P h k ∧ lvF tb B P h k < BD (a k)) ↔ (tb k = true ∧ h < B k) := by
  obtain ⟨h1, h2, h3, h4⟩ := hF
  rw [h4 k hk hp]
  unfold lvF
  by_cases e : tb k = true
  · obtain ⟨g1, g2, g3, g4, g5⟩ := h2 k e
    rw [if_pos e]
    constructor
    · rintro ⟨z1, z2, z3⟩
      refine ⟨e, ?_⟩
      split at z3 <;> omega
    · rintro ⟨-, z⟩
      refine ⟨g3, ?_, ?_⟩ <;> split <;> omega
  · rw [if_neg e]
    exact ⟨fun z => absurd (h3 k hk hp z.1 z.2.1) e, fun z => absurd z.1 e⟩
theorem ra_lv (hF : flH n p a U BD tb B P) (hg : flA n p a tb B P h g) (hh : 1400 ≤ h) {m ri : Int} (hm : 0 ≤ m) : ∀ j, j ≤ n → (idF p (fun k => raS U BD ri (a k)) j (m, g)).1 = m - (if cntF tb B h j < m then cntF tb B h j else m) ∧ ∀ k, k < n → p k = true → (idF p (fun k => raS U BD ri (a k)) j (m, g)).2 (a k) = if k < j ∧ tb k = true ∧ h < B k ∧ cntF tb B h k < m then h + ri else lvF tb B P h k := by
  intro j
  induction j with
  | zero =>
    intro _
    refine ⟨?_, fun k hk hp => ?_⟩
    · show m = m - (if (0 : Int) < m then 0 else m)
      split <;> omega
    · rw [if_neg (fun z => by have := z.1; omega)]
      exact hg k hk hp
  | succ j ih =>
    intro hj
    obtain ⟨i1, i2⟩ := ih (by omega)
    have hc0 := cntF_in tb B h j
    have hcs : cntF tb B h (j + 1) = cntF tb B h j + (if tb j = true ∧ h < B j then 1 else 0) := rfl
    have hst : idF p (fun k => raS U BD ri (a k)) (j + 1) (m, g) = if p j = true then raS U BD ri (a j) (idF p (fun k => raS U BD ri (a k)) j (m, g)) else idF p (fun k => raS U BD ri (a k)) j (m, g) := rfl
    rw [hst, hcs]
    generalize idF p (fun k => raS U BD ri (a k)) j (m, g) = s at i1 i2
    have hoth : ∀ k, k < n → p k = true → k ≠ j → s.2 (a k) = if k < j + 1 ∧ tb k = true ∧ h < B k ∧ cntF tb B h k < m then h + ri else lvF tb B P h k := fun k hk hp hkj => by
      rw [i2 k hk hp]
      have e : (k < j + 1) ↔ (k < j) := by omega
      simp only [e]
    by_cases hp : p j = true
    · rw [if_pos hp]
      have hs2 : s.2 (a j) = lvF tb B P h j := by rw [i2 j (by omega) hp, if_neg (fun z => by have := z.1; omega)]
      have htk : (U (a j) = 1 ∧ 1400 ≤ s.2 (a j) ∧ s.2 (a j) < BD (a j)) ↔ (tb j = true ∧ h < B j) := by
        rw [hs2]
        exact tk_lv hF hh (by omega) hp
      unfold raS
      by_cases cc : 0 < s.1 ∧ (U (a j) = 1 ∧ 1400 ≤ s.2 (a j) ∧ s.2 (a j) < BD (a j))
      · rw [if_pos cc]
        have ht := htk.mp cc.2
        have c1 := cc.1
        rw [if_pos ht]
        refine ⟨?_, fun k hk hpk => ?_⟩
        · show s.1 - 1 = _
          split at i1 <;> split <;> omega
        · show (if a k = a j then s.2 (a j) + ri else s.2 (a k)) = _
          by_cases e : k = j
          · subst e
            rw [if_pos rfl, hs2, if_pos ⟨by omega, ht.1, ht.2, by split at i1 <;> omega⟩]
            unfold lvF
            rw [if_pos ht.1, if_neg (by omega)]
          · rw [if_neg (fun z => e (hF.1 k j hk (by omega) z))]
            exact hoth k hk hpk e
      · rw [if_neg cc]
        refine ⟨?_, fun k hk hpk => ?_⟩
        · by_cases ht : tb j = true ∧ h < B j
          · rw [if_pos ht]
            have : ¬ 0 < s.1 := fun z => cc ⟨z, htk.mpr ht⟩
            split at i1 <;> split <;> omega
          · rw [if_neg ht]
            split at i1 <;> split <;> omega
        · by_cases e : k = j
          · subst e
            rw [hs2, if_neg]
            rintro ⟨-, z1, z2, z3⟩
            exact cc ⟨by split at i1 <;> omega, htk.mpr ⟨z1, z2⟩⟩
          · exact hoth k hk hpk e
    · rw [if_neg hp]
      have ht : ¬ (tb j = true ∧ h < B j) := fun z => hp (hF.2.1 j z.1).2.1
      rw [if_neg ht]
      refine ⟨by split at i1 <;> split <;> omega, fun k hk hpk => hoth k hk hpk (fun e => hp (e ▸ hpk))⟩
theorem cntF_lt {tb : Nat → Bool} {B : Nat → Int} {h : Int} {k n : Nat} (hk : k < n) (ht : tb k = true ∧ h < B k) : cntF tb B h k < cntF tb B h n := by
  have h1 : cntF tb B h (k + 1) ≤ cntF tb B h n := cntF_mono hk
  have h2 : cntF tb B h (k + 1) = cntF tb B h k + 1 := by
    show cntF tb B h k + (if tb k = true ∧ h < B k then 1 else 0) = _
    rw [if_pos ht]
  omega
/-- all takers have so much more -/
theorem ra_all (hF : flH n p a U BD tb B P) (hg : flA n p a tb B P h g) (hh : 1400 ≤ h) {ri : Int} (hr : 0 ≤ ri) (hB : ∀ k, k < n → tb k = true → h < B k → h + ri ≤ B k) : flA n p a tb B P (h + ri) (idF p (fun k => raS U BD ri (a k)) n (cntF tb B h n, g)).2 := by
  intro k hk hp
  rw [(ra_lv hF hg hh (cntF_in tb B h n).1 n (Nat.le_refl _)).2 k hk hp]
  by_cases e : tb k = true
  · by_cases e2 : h < B k
    · have := hB k hk e e2
      rw [if_pos ⟨hk, e, e2, cntF_lt hk ⟨e, e2⟩⟩]
      unfold lvF
      rw [if_pos e, if_neg (by omega)]
    · rw [if_neg (fun z => e2 z.2.2.1)]
      unfold lvF
      rw [if_pos e, if_pos e]
      split <;> split <;> omega
  · rw [if_neg (fun z => e z.2.1)]
    unfold lvF
    rw [if_neg e, if_neg e]
/-- the first takers have one more -/
theorem ra_few (hF : flH n p a U BD tb B P) (hg : flA n p a tb B P h g) (hh : 1400 ≤ h) {m : Int} (hm : 0 ≤ m) : ∀ k, k < n → p k = true → (idF p (fun k => raS U BD 1 (a k)) n (m, g)).2 (a k) = fnF tb B P h m k := by
  intro k hk hp
  rw [(ra_lv hF hg hh hm n (Nat.le_refl _)).2 k hk hp]
  unfold fnF
  have e : k < n ∧ tb k = true ∧ h < B k ∧ cntF tb B h k < m ↔ tb k = true ∧ h < B k ∧ cntF tb B h k < m := ⟨fun z => z.2, fun z => ⟨hk, z⟩⟩
  simp only [e]
/-- counting takers, and how far they may rise -/
def mnS (U BD g : Nat → Int) (q : Nat) (s : Int × Int) : Int × Int := if U q = 1 ∧ 1400 ≤ g q ∧ g q < BD q then (s.1 + 1, if BD q - g q < s.2 then BD q - g q else s.2) else s
def mnF (U BD g : Nat → Int) (rs : List Nat) : Nat → Int × Int → Int × Int
  | 0, s => s
  | n + 1, s => mnS U BD g (rs.getD n 0) (mnF U BD g rs n s)
theorem mn_lv (hF : flH n p a U BD tb B P) (hg : flA n p a tb B P h g) (hh : 1400 ≤ h) {r : Int} : ∀ j, j ≤ n → (idF p (fun k => mnS U BD g (a k)) j (0, r)).1 = cntF tb B h j ∧ (idF p (fun k => mnS U BD g (a k)) j (0, r)).2 ≤ r ∧ (∀ k, k < j → tb k = true → h < B k → (idF p (fun k => mnS U BD g (a k)) j (0, r)).2 ≤ B k - h) ∧ ((idF p (fun k => mnS U BD g (a k)) j (0, r)).2 = r ∨ ∃ k, k < j ∧ tb k = true ∧ h < B k ∧ (idF p (fun k => mnS U BD g (a k)) j (0, r)).2 = B k - h) := by
  intro j
  induction j with
  | zero => exact fun _ => ⟨rfl, Int.le_refl _, fun k hk => absurd hk (Nat.not_lt_zero k), Or.inl rfl⟩
  | succ j ih =>
    intro hj
    obtain ⟨i1, i2, i3, i4⟩ := ih (by omega)
    have hcs : cntF tb B h (j + 1) = cntF tb B h j + (if tb j = true ∧ h < B j then 1 else 0) := rfl
    have hst : idF p (fun k => mnS U BD g (a k)) (j + 1) (0, r) = if p j = true then mnS U BD g (a j) (idF p (fun k => mnS U BD g (a k)) j (0, r)) else idF p (fun k => mnS U BD g (a k)) j (0, r) := rfl
    rw [hst, hcs]
    generalize idF p (fun k => mnS U BD g (a k)) j (0, r) = s at i1 i2 i3 i4
    have keep : ¬ (tb j = true ∧ h < B j) → s.1 = cntF tb B h j + (if tb j = true ∧ h < B j then 1 else 0) ∧ s.2 ≤ r ∧ (∀ k, k < j + 1 → tb k = true → h < B k → s.2 ≤ B k - h) ∧ (s.2 = r ∨ ∃ k, k < j + 1 ∧ tb k = true ∧ h < B k ∧ s.2 = B k - h) := fun ht => by
      rw [if_neg ht]
      refine ⟨by omega, i2, fun k hk z1 z2 => ?_, ?_⟩
      · rcases Nat.lt_succ_iff_lt_or_eq.mp hk with z | rfl
        · exact i3 k z z1 z2
        · exact absurd ⟨z1, z2⟩ ht
      · rcases i4 with z | ⟨k, z1, z2⟩
        · exact Or.inl z
        · exact Or.inr ⟨k, by omega, z2⟩
    by_cases hp : p j = true
    · rw [if_pos hp]
      have hs2 : g (a j) = lvF tb B P h j := hg j (by omega) hp
      have htk := tk_lv hF hh (by omega) hp
      have hbd := hF.2.2.2 j (by omega) hp
      unfold mnS
      rw [hs2]
      by_cases cc : U (a j) = 1 ∧ 1400 ≤ lvF tb B P h j ∧ lvF tb B P h j < BD (a j)
      · have ht := htk.mp cc
        have hlv : lvF tb B P h j = h := by
          unfold lvF
          rw [if_pos ht.1, if_neg (by omega)]
        rw [if_pos cc, if_pos ht, hlv, hbd]
        dsimp only
        refine ⟨by omega, by split <;> omega, fun k hk z1 z2 => ?_, ?_⟩
        · rcases Nat.lt_succ_iff_lt_or_eq.mp hk with z | rfl
          · have := i3 k z z1 z2
            split <;> omega
          · split <;> omega
        · by_cases e : B j - h < s.2
          · rw [if_pos e]
            exact Or.inr ⟨j, by omega, ht.1, ht.2, rfl⟩
          · rw [if_neg e]
            rcases i4 with z | ⟨k, z1, z2⟩
            · exact Or.inl z
            · exact Or.inr ⟨k, by omega, z2⟩
      · rw [if_neg cc]
        exact keep (fun z => cc (htk.mpr z))
    · rw [if_neg hp]
      exact keep (fun z => hp (hF.2.1 j z.1).2.1)
end FLOW
theorem idF_far {α : Type} {p : Nat → Bool} {step : Nat → α → α} {n : Nat} (h : ∀ k, n ≤ k → p k = false) (s : α) : ∀ d, idF p step (n + d) s = idF p step n s := by
  intro d
  induction d with
  | zero => rfl
  | succ d ih =>
    show (if p (n + d) = true then _ else idF p step (n + d) s) = _
    rw [if_neg (by rw [h _ (by omega)]; decide), ih]
/-- serving: the class's state, the reference's -/
def srR (n : Nat) (p : Nat → Bool) (a : Nat → Nat) (M : Mo) (B : Nat → Int) (s : Int × (Nat → Int)) (t : (Nat → Int) × Int) : Prop := (∀ k, k < n → p k = true → s.2 (a k) = t.1 k) ∧ (s.1 = t.2 ∨ (s.1 < 0 ∧ t.2 = 0)) ∧ 0 ≤ t.2 ∧ ∀ k, k < n → svd M k → B k = 0 → t.1 k = 0
section SERVE
variable {n : Nat} {p : Nat → Bool} {a : Nat → Nat} {U BD RK : Nat → Int} {M : Mo} {B : Nat → Int} {g : Int}
def svH (n : Nat) (p : Nat → Bool) (a : Nat → Nat) (U BD RK : Nat → Int) (M : Mo) (B : Nat → Int) : Prop := (∀ i j, i < n → j < n → a i = a j → i = j) ∧ (∀ k, p k = true ↔ k < n ∧ M.2 34 k = 1) ∧ (∀ k, k < n → p k = true → U (a k) = 1 - M.2 10 (M.2 31 k).toNat ∧ BD (a k) = B k ∧ RK (a k) = M.2 19 (M.2 33 k).toNat ∧ 0 ≤ B k)
theorem sv_one (hH : svH n p a U BD RK M B) (hg : g = 0 ∨ g = 1) {s : Int × (Nat → Int)} {t : (Nat → Int) × Int} (hR : srR n p a M B s t) {k : Nat} (hk : k < n) (hp : p k = true) {r : Int} (hr : M.2 19 (M.2 33 k).toNat = r) (hs : svd M k) : srR n p a M B (svS U BD RK g r (a k) s) (srvK B g k t) := by
  obtain ⟨h1, h2, h3, h4⟩ := hR
  obtain ⟨g1, g2, g3, g4⟩ := hH.2.2 k hk hp
  have hU : U (a k) = 1 := by
    have := hs.2
    omega
  unfold svS srvK ndV
  rw [g2, g3, hr, hU]
  have hG : ((if 1400 ≤ B k then (1 : Int) else 0) = g) ↔ (1400 ≤ B k ↔ g = 1) := by
    rcases hg with rfl | rfl <;> by_cases e : 1400 ≤ B k <;> simp [e]
  simp only [hG, true_and]
  by_cases c1 : (1400 ≤ B k ↔ g = 1)
  · have hm : (if 1400 < B k then (1400 : Int) else B k) = if g = 1 then 1400 else B k := by
      rcases hg with rfl | rfl
      · have : ¬ 1400 ≤ B k := fun z => by have := c1.mp z; omega
        rw [if_neg (by omega), if_neg (by omega)]
      · have := c1.mpr rfl
        rw [if_pos rfl]
        split <;> omega
    rw [hm]
    have hm0 : 0 ≤ (if g = 1 then (1400 : Int) else B k) := by split <;> omega
    have hmz : (if g = 1 then (1400 : Int) else B k) ≤ 0 → (if g = 1 then (1400 : Int) else B k) = 0 ∧ B k = 0 := fun z => by
      by_cases e : g = 1
      · rw [if_pos e] at z
        omega
      · rw [if_neg e] at z ⊢
        omega
    have hmb : B k = 0 → (if g = 1 then (1400 : Int) else B k) = 0 := fun z => by
      rcases hg with rfl | rfl
      · rw [if_neg (by omega)]
        exact z
      · have := c1.mpr rfl
        omega
    generalize (if g = 1 then (1400 : Int) else B k) = mm at hm0 hmz hmb
    simp only [c1, true_and]
    rcases h2 with h2 | ⟨h2, h5⟩
    · rw [h2]
      by_cases c2 : mm ≤ t.2
      · rw [if_pos c2, if_pos c2]
        refine ⟨fun j hj hpj => ?_, Or.inl rfl, ?_, fun j hj hsj hb => ?_⟩
        · show (if a j = a k then mm else s.2 (a j)) = if j = k then mm else t.1 j
          by_cases e : j = k
          · subst e
            rw [if_pos rfl, if_pos rfl]
          · rw [if_neg (fun z => e (hH.1 j k hj hk z)), if_neg e]
            exact h1 j hj hpj
        · show 0 ≤ t.2 - mm
          omega
        · show (if j = k then mm else t.1 j) = 0
          by_cases e : j = k
          · subst e
            rw [if_pos rfl]
            exact hmb hb
          · rw [if_neg e]
            exact h4 j hj hsj hb
      · rw [if_neg c2, if_neg c2]
        exact ⟨h1, Or.inl h2, h3, h4⟩
    · rw [if_neg (by omega)]
      by_cases c2 : mm ≤ t.2
      · have c3 := hmz (by omega)
        rw [if_pos c2]
        refine ⟨fun j hj hpj => ?_, Or.inr ⟨h2, ?_⟩, ?_, fun j hj hsj hb => ?_⟩
        · show s.2 (a j) = if j = k then mm else t.1 j
          by_cases e : j = k
          · subst e
            rw [if_pos rfl, h1 j hj hpj, h4 j hj hs c3.2, c3.1]
          · rw [if_neg e]
            exact h1 j hj hpj
        · show t.2 - mm = 0
          omega
        · show 0 ≤ t.2 - mm
          omega
        · show (if j = k then mm else t.1 j) = 0
          by_cases e : j = k
          · rw [if_pos e]
            exact c3.1
          · rw [if_neg e]
            exact h4 j hj hsj hb
      · rw [if_neg c2]
        exact ⟨h1, Or.inr ⟨h2, h5⟩, h3, h4⟩
  · rw [if_neg (fun z => c1 z.1), if_neg (fun z => c1 z.1)]
    exact ⟨h1, h2, h3, h4⟩
theorem sv_blk (hH : svH n p a U BD RK M B) (hg : g = 0 ∨ g = 1) (hn : n ≤ 40) {t : Nat} {s : Int × (Nat → Int)} {u : (Nat → Int) × Int} (hR : srR n p a M B s (srvTo M n B g (64 * t) u)) : ∀ j, j ≤ 64 → srR n p a M B (idF p (fun k => svS U BD RK g (3 - t) (a k)) j s) (srvTo M n B g (64 * t + j) u) := by
  intro j
  induction j with
  | zero => exact fun _ => hR
  | succ j ih =>
    intro hj
    have h := ih (by omega)
    show srR n p a M B (if p j = true then svS U BD RK g (3 - t) (a j) (idF p (fun k => svS U BD RK g (3 - t) (a k)) j s) else idF p (fun k => svS U BD RK g (3 - t) (a k)) j s) (srvAt M n B g (64 * t + j) (srvTo M n B g (64 * t + j) u))
    generalize idF p (fun k => svS U BD RK g (3 - t) (a k)) j s = s1 at h
    generalize srvTo M n B g (64 * t + j) u = u1 at h
    have em : (64 * t + j) % 64 = j := by omega
    unfold srvAt
    rw [em]
    by_cases hp : p j = true
    · rw [if_pos hp]
      have hjn := (hH.2.1 j).mp hp
      obtain ⟨g1, g2, g3, g4⟩ := hH.2.2 j hjn.1 hp
      by_cases hr : M.2 19 (M.2 33 j).toNat = 3 - t
      · by_cases hs : M.2 10 (M.2 31 j).toNat = 0
        · rw [if_pos ⟨hjn.1, ⟨hjn.2, hs⟩, by unfold kap; rw [hr]; omega⟩]
          exact sv_one hH hg h hjn.1 hp hr ⟨hjn.2, hs⟩
        · rw [if_neg (fun z => hs z.2.1.2)]
          unfold svS
          rw [if_neg (fun z => by have := z.2.1; omega)]
          exact h
      · rw [if_neg (fun z => hr (by have := z.2.2; unfold kap at this; omega))]
        unfold svS
        rw [if_neg (fun z => hr (by have := z.1.1; omega))]
        exact h
    · rw [if_neg hp, if_neg (fun z => hp ((hH.2.1 j).mpr ⟨z.1, z.2.1.1⟩))]
      exact h
theorem sv_all (hH : svH n p a U BD RK M B) (hg : g = 0 ∨ g = 1) (hn : n ≤ 40) {rs : List Nat} (hrs : rs = ((List.range n).filter p).map a) {s : Int × (Nat → Int)} {u : (Nat → Int) × Int} (hR : srR n p a M B s u) : srR n p a M B (svR U BD RK g rs 4 s) (srvTo M n B g 256 u) := by
  have hfar : ∀ k, n ≤ k → p k = false := fun k hk => by
    cases e : p k with
    | false => rfl
    | true => have := ((hH.2.1 k).mp e).1; omega
  have key : ∀ t, t ≤ 4 → srR n p a M B (svR U BD RK g rs t s) (srvTo M n B g (64 * t) u) := by
    intro t
    induction t with
    | zero => exact fun _ => hR
    | succ t ih =>
      intro ht
      have h := sv_blk hH hg hn (ih (by omega)) 64 (Nat.le_refl _)
      have e : svR U BD RK g rs (t + 1) s = svF U BD RK g (3 - t) rs rs.length (svR U BD RK g rs t s) := rfl
      rw [e, fold_all hrs (svS U BD RK g (3 - t)) (svF U BD RK g (3 - t) rs) (fun _ => rfl) (fun _ _ => rfl)]
      rw [show 64 = n + (64 - n) by omega, idF_far hfar] at h
      rw [show 64 * (t + 1) = 64 * t + (n + (64 - n)) by omega]
      rw [show n + (64 - n) = 64 by omega] at h ⊢
      exact h
  exact key 4 (Nat.le_refl _)
end SERVE
