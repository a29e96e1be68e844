/-! the memory as functions: kind of a cell, int fields, reference fields, arrays; field k of class c is 64 * c + k -/
abbrev Mm : Type := (Nat → Nat) × (Nat → Nat → Int) × (Nat → Nat → Option Nat) × (Nat → Nat) × (Nat → Nat → Int) × (Nat → Nat → Option Nat)
def gK (X : Mm) : Nat → Nat := X.1
def gI (X : Mm) : Nat → Nat → Int := X.2.1
def gP (X : Mm) : Nat → Nat → Option Nat := X.2.2.1
def gN (X : Mm) : Nat → Nat := X.2.2.2.1
def gA (X : Mm) : Nat → Nat → Int := X.2.2.2.2.1
def gO (X : Mm) : Nat → Nat → Option Nat := X.2.2.2.2.2
def u1 {α : Type} (g : Nat → α) (a : Nat) (v : α) : Nat → α := fun x => if x = a then v else g x
def u2 {α : Type} (g : Nat → Nat → α) (f a : Nat) (v : α) : Nat → Nat → α := fun y x => if y = f ∧ x = a then v else g y x
def sI (X : Mm) (f a : Nat) (v : Int) : Mm := (gK X, u2 (gI X) f a v, gP X, gN X, gA X, gO X)
def sP (X : Mm) (f a : Nat) (v : Option Nat) : Mm := (gK X, gI X, u2 (gP X) f a v, gN X, gA X, gO X)
def sA (X : Mm) (a i : Nat) (v : Int) : Mm := (gK X, gI X, gP X, gN X, u2 (gA X) a i v, gO X)
def sO (X : Mm) (a i : Nat) (v : Option Nat) : Mm := (gK X, gI X, gP X, gN X, gA X, u2 (gO X) a i v)
/-- a whole row -/
def sAr (X : Mm) (a : Nat) (f : Nat → Int) : Mm := (gK X, gI X, gP X, gN X, u1 (gA X) a f, gO X)
def sOr (X : Mm) (a : Nat) (f : Nat → Option Nat) : Mm := (gK X, gI X, gP X, gN X, gA X, u1 (gO X) a f)
/-- a new object, of kind t; a new array of n places -/
def alO (X : Mm) (a t : Nat) : Mm := (u1 (gK X) a t, fun f x => if x = a then 0 else gI X f x, fun f x => if x = a then none else gP X f x, gN X, gA X, gO X)
def alA (X : Mm) (a t n : Nat) : Mm := (u1 (gK X) a t, gI X, gP X, u1 (gN X) a n, fun x i => if x = a then 0 else gA X x i, fun x i => if x = a then none else gO X x i)
theorem gI_sI (X : Mm) (f a : Nat) (v : Int) (g x : Nat) : gI (sI X f a v) g x = if g = f ∧ x = a then v else gI X g x := rfl
theorem gI_sP (X : Mm) (f a : Nat) (v : Option Nat) : gI (sP X f a v) = gI X := rfl
theorem gI_sA (X : Mm) (a i : Nat) (v : Int) : gI (sA X a i v) = gI X := rfl
theorem gI_sO (X : Mm) (a i : Nat) (v : Option Nat) : gI (sO X a i v) = gI X := rfl
theorem gP_sP (X : Mm) (f a : Nat) (v : Option Nat) (g x : Nat) : gP (sP X f a v) g x = if g = f ∧ x = a then v else gP X g x := rfl
theorem gP_sI (X : Mm) (f a : Nat) (v : Int) : gP (sI X f a v) = gP X := rfl
theorem gP_sA (X : Mm) (a i : Nat) (v : Int) : gP (sA X a i v) = gP X := rfl
theorem gP_sO (X : Mm) (a i : Nat) (v : Option Nat) : gP (sO X a i v) = gP X := rfl
theorem gA_sA (X : Mm) (a i : Nat) (v : Int) (x j : Nat) : gA (sA X a i v) x j = if x = a ∧ j = i then v else gA X x j := rfl
theorem gA_sI (X : Mm) (f a : Nat) (v : Int) : gA (sI X f a v) = gA X := rfl
theorem gA_sP (X : Mm) (f a : Nat) (v : Option Nat) : gA (sP X f a v) = gA X := rfl
theorem gA_sO (X : Mm) (a i : Nat) (v : Option Nat) : gA (sO X a i v) = gA X := rfl
theorem gO_sO (X : Mm) (a i : Nat) (v : Option Nat) (x j : Nat) : gO (sO X a i v) x j = if x = a ∧ j = i then v else gO X x j := rfl
theorem gO_sI (X : Mm) (f a : Nat) (v : Int) : gO (sI X f a v) = gO X := rfl
theorem gO_sP (X : Mm) (f a : Nat) (v : Option Nat) : gO (sP X f a v) = gO X := rfl
theorem gO_sA (X : Mm) (a i : Nat) (v : Int) : gO (sA X a i v) = gO X := rfl
theorem gK_sI (X : Mm) (f a : Nat) (v : Int) : gK (sI X f a v) = gK X := rfl
theorem gK_sP (X : Mm) (f a : Nat) (v : Option Nat) : gK (sP X f a v) = gK X := rfl
theorem gK_sA (X : Mm) (a i : Nat) (v : Int) : gK (sA X a i v) = gK X := rfl
theorem gK_sO (X : Mm) (a i : Nat) (v : Option Nat) : gK (sO X a i v) = gK X := rfl
theorem gN_sI (X : Mm) (f a : Nat) (v : Int) : gN (sI X f a v) = gN X := rfl
theorem gN_sP (X : Mm) (f a : Nat) (v : Option Nat) : gN (sP X f a v) = gN X := rfl
theorem gN_sA (X : Mm) (a i : Nat) (v : Int) : gN (sA X a i v) = gN X := rfl
theorem gN_sO (X : Mm) (a i : Nat) (v : Option Nat) : gN (sO X a i v) = gN X := rfl
def fl (c : Nat) (X : Mm) (a : Nat) : List Value := (List.range (nF c)).map fun k => if isR c k then rv (gP X (64 * c + k) a) else iv (gI X (64 * c + k) a)
def cE (kA : Nat → ClassId) (X : Mm) (a : Nat) : Option va_E :=
  if gK X a = 0 then none
  else if gK X a < 20 then some (.inr (gK X a - 1, fl (gK X a - 1) X a))
  else if gK X a = 20 then some (.inl (kA 0, gN X a, .inl fun i => zI (gA X a i)))
  else if gK X a = 21 then some (.inl (kA 1, gN X a, .inl fun i => zI (gA X a i)))
  else if gK X a = 22 then some (.inl (kA 2, gN X a, .inr (.inl fun i => zL (gA X a i))))
  else some (.inl (kA 3, gN X a, .inr (.inr (.inr (.inr (gO X a))))))
theorem cE_ext {kA : Nat → ClassId} {X Y : Mm} {a : Nat} (h1 : gK Y a = gK X a) (h2 : ∀ f, gI Y f a = gI X f a) (h3 : ∀ f, gP Y f a = gP X f a) (h4 : gN Y a = gN X a) (h5 : ∀ i, gA Y a i = gA X a i) (h6 : ∀ i, gO Y a i = gO X a i) : cE kA Y a = cE kA X a := by
  have hfl : ∀ c, fl c Y a = fl c X a := fun c => by
    unfold fl
    exact List.map_congr_left fun k _ => by rw [h2, h3]
  have e5 : gA Y a = gA X a := funext h5
  have e6 : gO Y a = gO X a := funext h6
  unfold cE
  rw [h1, h4, e5, e6, hfl]
theorem fl_len (c : Nat) (X : Mm) (a : Nat) : (fl c X a).length = nF c := by simp [fl]
theorem fl_get {c k : Nat} (X : Mm) (a : Nat) (hk : k < nF c) : (fl c X a)[k]? = some (if isR c k then rv (gP X (64 * c + k) a) else iv (gI X (64 * c + k) a)) := by
  simp [fl, hk]
theorem fl_sI {c k : Nat} (X : Mm) (a : Nat) (v : Int) (hr : isR c k = false) : fl c (sI X (64 * c + k) a v) a = (fl c X a).set k (iv v) := by
  refine List.ext_getElem? fun j => ?_
  by_cases hj : j < nF c
  · rw [fl_get _ _ hj, List.getElem?_set]
    by_cases e : k = j
    · subst e
      rw [if_pos rfl, if_pos (show k < (fl c X a).length by rw [fl_len]; exact hj)]
      simp [hr, gI_sI]
    · rw [if_neg e, fl_get _ _ hj, gI_sI, gP_sI]
      simp [Ne.symm e]
  · rw [List.getElem?_eq_none (by rw [fl_len]; omega), List.getElem?_eq_none (by rw [List.length_set, fl_len]; omega)]
theorem fl_sP {c k : Nat} (X : Mm) (a : Nat) (v : Option Nat) (hr : isR c k = true) : fl c (sP X (64 * c + k) a v) a = (fl c X a).set k (rv v) := by
  refine List.ext_getElem? fun j => ?_
  by_cases hj : j < nF c
  · rw [fl_get _ _ hj, List.getElem?_set]
    by_cases e : k = j
    · subst e
      rw [if_pos rfl, if_pos (show k < (fl c X a).length by rw [fl_len]; exact hj)]
      simp [hr, gP_sP]
    · rw [if_neg e, fl_get _ _ hj, gP_sP, gI_sP]
      simp [Ne.symm e]
  · rw [List.getElem?_eq_none (by rw [fl_len]; omega), List.getElem?_eq_none (by rw [List.length_set, fl_len]; omega)]
/-- what a method may change: all that came behind the law's start -/
def Ab (b : Nat) : Nat → Prop := fun q => b ≤ q
/-- a cell of the start that nobody changes: an array of references, of which only class and length are known -/
def wk (k3 : ClassId) (a : Nat) (E : va_E) (H : Heap) : Prop := ∃ cell : Cell, H[a]? = some cell ∧ cell.cls = k3 ∧ (∀ k, cell.vm ≠ .statics k) ∧ cell.vm ≠ .unknown ∧ ∀ x, E = .inl x → cell.slots.size.toInt32 = Int32.ofNat x.2.1
theorem wk.kept {k3 : ClassId} {a : Nat} {E : va_E} {H H1 : Heap} (h : wk k3 a E H) (hq : H1[a]? = H[a]?) : wk k3 a E H1 := by
  obtain ⟨cell, h1, h2⟩ := h
  exact ⟨cell, hq.trans h1, h2⟩
def wd (D : va_G) (kA : Nat → ClassId) (b : Nat) (X : Mm) (H : Heap) : Prop := ∀ (a : Nat) (E : va_E), cE kA X a = some E → (gK X a ≠ 24 → va_at D vwCl (a, E) H) ∧ (gK X a = 24 → wk (kA 3) a E H) ∧ (gK X a = 24 ↔ a < b)
theorem wd.lt {D : va_G} {kA : Nat → ClassId} {b : Nat} {X : Mm} {H : Heap} (h : wd D kA b X H) {a : Nat} {E : va_E} (he : cE kA X a = some E) : a < H.size := by
  obtain ⟨h1, h2, -⟩ := h a E he
  by_cases e : gK X a = 24
  · obtain ⟨cell, g, -⟩ := h2 e
    exact (Array.getElem?_eq_some_iff.mp g).1
  · exact (h1 e).lt
theorem wd.kept {D : va_G} {kA : Nat → ClassId} {b : Nat} {X : Mm} {H H1 : Heap} (h : wd D kA b X H) (hq : ∀ q : Nat, q < H.size → H1[q]? = H[q]?) : wd D kA b X H1 := fun a E hE => ⟨fun hn => ((h a E hE).1 hn).kept (hq a (h.lt hE)), fun hn => ((h a E hE).2.1 hn).kept (hq a (h.lt hE)), (h a E hE).2.2⟩
theorem wd.P1 {D : va_G} {kA : Nat → ClassId} {b : Nat} {X : Mm} {H : Heap} {a : Nat} {E : va_E} (h : wd D kA b X H) (he : cE kA X a = some E) (hn : gK X a ≠ 24 := by omega) : va_P D vwCl [(a, E)] H := by
  intro k q hk
  have hz : k < 1 := (List.getElem?_eq_some_iff.mp hk).1
  rw [show k = 0 by omega] at hk
  cases hk
  exact (h a E he).1 hn
/-- the memory as a list of cells -/
def lsW (kA : Nat → ClassId) (X : Mm) (n : Nat) : va_W := (List.range n).filterMap fun q => if gK X q = 24 then none else (cE kA X q).map fun E => (q, E)
theorem lsW_mem {kA : Nat → ClassId} {X : Mm} {n : Nat} {q : Nat × va_E} (h : q ∈ lsW kA X n) : cE kA X q.1 = some q.2 ∧ gK X q.1 ≠ 24 := by
  obtain ⟨r, -, hr⟩ := List.mem_filterMap.mp h
  split at hr
  · cases hr
  · rename_i hn
    cases hc : cE kA X r with
    | none => rw [hc] at hr; cases hr
    | some E => rw [hc] at hr; cases hr; exact ⟨hc, hn⟩
theorem lsW_of {kA : Nat → ClassId} {X : Mm} {n a : Nat} {E : va_E} (ha : a < n) (h : cE kA X a = some E) (hn : gK X a ≠ 24) : ∃ k : Nat, (lsW kA X n)[k]? = some (a, E) := by
  refine List.getElem?_of_mem (List.mem_filterMap.mpr ⟨a, List.mem_range.mpr ha, ?_⟩)
  rw [if_neg hn, h]
  rfl
theorem lsW_inj (kA : Nat → ClassId) (X : Mm) : ∀ (n i j : Nat) (p q : Nat × va_E), (lsW kA X n)[i]? = some p → (lsW kA X n)[j]? = some q → p.1 = q.1 → i = j := by
  intro n
  induction n with
  | zero => intro i j p q h; simp [lsW] at h
  | succ n ih =>
    have e : lsW kA X (n + 1) = lsW kA X n ++ (if gK X n = 24 then [] else match cE kA X n with | none => [] | some E => [(n, E)]) := by
      unfold lsW
      rw [List.range_succ, List.filterMap_append]
      congr 1
      by_cases hn : gK X n = 24
      · simp [hn]
      · cases hc : cE kA X n <;> simp [hn, hc]
    have low : ∀ (i : Nat) (p : Nat × va_E), (lsW kA X n)[i]? = some p → p.1 < n := fun i p h => by
      obtain ⟨r, h1, hr⟩ := List.mem_filterMap.mp (List.mem_of_getElem? h)
      split at hr
      · cases hr
      · cases hc : cE kA X r with
        | none => rw [hc] at hr; cases hr
        | some E => rw [hc] at hr; cases hr; exact List.mem_range.mp h1
    have last : ∀ (i : Nat) (p : Nat × va_E), (lsW kA X (n + 1))[i]? = some p → (lsW kA X n)[i]? = some p ∨ (i = (lsW kA X n).length ∧ p.1 = n) := by
      intro i p h
      rw [e] at h
      by_cases hl : i < (lsW kA X n).length
      · rw [List.getElem?_append_left hl] at h
        exact Or.inl h
      · rw [List.getElem?_append_right (by omega)] at h
        by_cases hn : gK X n = 24
        · rw [if_pos hn] at h
          simp at h
        · rw [if_neg hn] at h
          cases hc : cE kA X n with
          | none => rw [hc] at h; simp at h
          | some E =>
            rw [hc] at h
            dsimp only at h
            have hz := (List.getElem?_eq_some_iff.mp h).1
            have hz : i - (lsW kA X n).length < 1 := hz
            have hi : i = (lsW kA X n).length := by omega
            rw [hi, Nat.sub_self] at h
            cases h
            exact Or.inr ⟨hi, rfl⟩
    intro i j p q hi hj hpq
    rcases last i p hi with h1 | ⟨h1, h2⟩ <;> rcases last j q hj with h3 | ⟨h3, h4⟩
    · exact ih i j p q h1 h3 hpq
    · have := low i p h1
      omega
    · have := low j q h3
      omega
    · omega
theorem wd.PD {D : va_G} {kA : Nat → ClassId} {b : Nat} {X : Mm} {H : Heap} (h : wd D kA b X H) : va_P D vwCl (lsW kA X H.size) H ∧ va_D (Ab b) (lsW kA X H.size) := by
  refine ⟨fun k q hk => (h q.1 q.2 (lsW_mem (List.mem_of_getElem? hk)).1).1 (lsW_mem (List.mem_of_getElem? hk)).2, lsW_inj kA X H.size, fun k q hk => ?_⟩
  obtain ⟨h1, h2⟩ := lsW_mem (List.mem_of_getElem? hk)
  have := (h q.1 q.2 h1).2.2
  exact Nat.not_lt.mp fun z => h2 (this.mpr z)
theorem wd.at {D : va_G} {kA : Nat → ClassId} {b : Nat} {X : Mm} {H : Heap} {a : Nat} {E : va_E} (h : wd D kA b X H) (he : cE kA X a = some E) (hn : gK X a ≠ 24) : ∃ k : Nat, (lsW kA X H.size)[k]? = some (a, E) := lsW_of (h.lt he) he hn
/-- one cell changes -/
theorem wd.set {D : va_G} {kA : Nat → ClassId} {b : Nat} {X Y : Mm} {H H0 H1 : Heap} {locs locs1 : List Loc} {a k : Nat} {E E1 : va_E} (h : wd D kA b X H) (hb : b ≤ H0.size) (hS : va_S (Ab b) H0 H locs) (hS1 : va_S (Ab b) H0 H1 locs1) (hk : (lsW kA X H.size)[k]? = some (a, E))
    (hP : va_P D vwCl ((lsW kA X H.size).set k (a, E1)) H1) (he : cE kA Y a = some E1) (hKa : gK Y a = gK X a) (hY : ∀ q : Nat, q ≠ a → cE kA Y q = cE kA X q ∧ gK Y q = gK X q) : wd D kA b Y H1 := by
  have hl := (List.getElem?_eq_some_iff.mp hk).1
  obtain ⟨hEa, hna⟩ := lsW_mem (List.mem_of_getElem? hk)
  dsimp only at hEa hna
  intro q F hF
  by_cases e : q = a
  · subst e
    cases he.symm.trans hF
    exact ⟨fun _ => hP k (q, E1) (List.getElem?_set_self hl), fun z => absurd (hKa.symm.trans z) hna, by rw [hKa]; exact (h q E hEa).2.2⟩
  · obtain ⟨h1, h2⟩ := hY q e
    rw [h1] at hF
    have hlt := h.lt hF
    obtain ⟨h3, h5, h4⟩ := h q F hF
    rw [h2]
    refine ⟨fun hz => ?_, fun hz => ?_, h4⟩
    rotate_left
    · have hqb : ¬ Ab b q := Nat.not_le.mpr (h4.mp hz)
      have hql : q < H0.size := Nat.lt_of_lt_of_le (h4.mp hz) hb
      exact (h5 hz).kept ((hS1.2.1 q hql hqb).trans (hS.2.1 q hql hqb).symm)
    · obtain ⟨j, hj⟩ := lsW_of (n := H.size) hlt hF hz
      have hjk : k ≠ j := fun z => by
        subst z
        rw [hk] at hj
        cases hj
        exact e rfl
      exact hP j (q, F) (by rw [List.getElem?_set_ne hjk]; exact hj)
/-- a cell more -/
theorem wd.push {D : va_G} {kA : Nat → ClassId} {b : Nat} {X Y : Mm} {H H0 H1 : Heap} {locs locs1 : List Loc} {a : Nat} {E1 : va_E} (h : wd D kA b X H) (hb : b ≤ H0.size) (hS : va_S (Ab b) H0 H locs) (hS1 : va_S (Ab b) H0 H1 locs1)
    (hP : va_P D vwCl (lsW kA X H.size ++ [(a, E1)]) H1) (hD : va_D (Ab b) (lsW kA X H.size ++ [(a, E1)])) : gK X a = 0 ∧ b ≤ a ∧ (cE kA Y a = some E1 → gK Y a ≠ 24 → (∀ q : Nat, q ≠ a → cE kA Y q = cE kA X q ∧ gK Y q = gK X q) → wd D kA b Y H1) := by
  have hlast : (lsW kA X H.size ++ [(a, E1)])[(lsW kA X H.size).length]? = some (a, E1) := by rw [List.getElem?_append_right (Nat.le_refl _), Nat.sub_self]; rfl
  have hba : b ≤ a := hD.2 _ _ hlast
  have h0 : gK X a = 0 := by
    refine Classical.byContradiction fun hn => ?_
    have : ∃ E, cE kA X a = some E := by
      unfold cE
      rw [if_neg hn]
      repeat' split
      all_goals exact ⟨_, rfl⟩
    obtain ⟨E, hE⟩ := this
    have h24 : gK X a ≠ 24 := fun z => by
      have := (h a E hE).2.2.mp z
      omega
    obtain ⟨j, hj⟩ := lsW_of (n := H.size) (h.lt hE) hE h24
    have hjl := (List.getElem?_eq_some_iff.mp hj).1
    have := hD.1 j _ (a, E) (a, E1) (by rw [List.getElem?_append_left hjl]; exact hj) hlast rfl
    omega
  refine ⟨h0, hba, fun he hn hY => ?_⟩
  intro q F hF
  by_cases e : q = a
  · subst e
    cases he.symm.trans hF
    exact ⟨fun _ => hP _ _ hlast, fun z => absurd z hn, ⟨fun z => absurd z hn, fun z => by omega⟩⟩
  · obtain ⟨h1, h2⟩ := hY q e
    rw [h1] at hF
    have hlt := h.lt hF
    obtain ⟨h3, h5, h4⟩ := h q F hF
    rw [h2]
    refine ⟨fun hz => ?_, fun hz => ?_, h4⟩
    rotate_left
    · have hqb : ¬ Ab b q := Nat.not_le.mpr (h4.mp hz)
      have hql : q < H0.size := Nat.lt_of_lt_of_le (h4.mp hz) hb
      exact (h5 hz).kept ((hS1.2.1 q hql hqb).trans (hS.2.1 q hql hqb).symm)
    · obtain ⟨j, hj⟩ := lsW_of (n := H.size) hlt hF hz
      have hjl := (List.getElem?_eq_some_iff.mp hj).1
      exact hP j (q, F) (by rw [List.getElem?_append_left hjl]; exact hj)
theorem cE_obj {kA : Nat → ClassId} {X : Mm} {a c : Nat} (h : gK X a = c + 1) (hc : c < 19) : cE kA X a = some (.inr (c, fl c X a)) := by
  unfold cE
  rw [h, if_neg (by omega), if_pos (by omega), Nat.add_sub_cancel]
theorem cE_20 {kA : Nat → ClassId} {X : Mm} {a : Nat} (h : gK X a = 20) : cE kA X a = some (.inl (kA 0, gN X a, .inl fun i => zI (gA X a i))) := by simp [cE, h]
theorem cE_21 {kA : Nat → ClassId} {X : Mm} {a : Nat} (h : gK X a = 21) : cE kA X a = some (.inl (kA 1, gN X a, .inl fun i => zI (gA X a i))) := by simp [cE, h]
theorem cE_22 {kA : Nat → ClassId} {X : Mm} {a : Nat} (h : gK X a = 22) : cE kA X a = some (.inl (kA 2, gN X a, .inr (.inl fun i => zL (gA X a i)))) := by simp [cE, h]
theorem cE_23 {kA : Nat → ClassId} {X : Mm} {a : Nat} (h : gK X a = 23 ∨ gK X a = 24) : cE kA X a = some (.inl (kA 3, gN X a, .inr (.inr (.inr (.inr (gO X a)))))) := by rcases h with h | h <;> simp [cE, h]
