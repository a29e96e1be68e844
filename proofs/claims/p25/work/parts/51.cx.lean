/-! the class's memory as numbers: the addresses L, the counts, int fields, reference fields, lists, rows and their lengths Z; beside it the reference's numbers Mr -/
abbrev Ly : Type := (Nat → Nat → Nat) × (Nat → Nat) × (Nat → Nat)
abbrev Zs : Type := (Nat → Nat) × (Nat → Nat → Int) × (Nat → Nat → Option Nat) × (Nat → List Nat) × (Nat → Nat → Int) × (Nat → Nat)
def lA (L : Ly) : Nat → Nat → Nat := L.1
def lD (L : Ly) : Nat → Nat := L.2.1
def lC (L : Ly) : Nat → Nat := L.2.2
def yC (Z : Zs) : Nat → Nat := Z.1
def yN (Z : Zs) : Nat → Nat → Int := Z.2.1
def yT (Z : Zs) : Nat → Nat → Option Nat := Z.2.2.1
def yL (Z : Zs) : Nat → List Nat := Z.2.2.2.1
def yR (Z : Zs) : Nat → Nat → Int := Z.2.2.2.2.1
def yK (Z : Zs) : Nat → Nat := Z.2.2.2.2.2
def zsN (Z : Zs) (f i : Nat) (v : Int) : Zs := (yC Z, u2 (yN Z) f i v, yT Z, yL Z, yR Z, yK Z)
def zsT (Z : Zs) (f i : Nat) (v : Option Nat) : Zs := (yC Z, yN Z, u2 (yT Z) f i v, yL Z, yR Z, yK Z)
def zsL (Z : Zs) (j : Nat) (xs : List Nat) : Zs := (yC Z, yN Z, yT Z, u1 (yL Z) j xs, yR Z, yK Z)
def zsR (Z : Zs) (k i : Nat) (v : Int) : Zs := (yC Z, yN Z, yT Z, yL Z, u2 (yR Z) k i v, yK Z)
/-- a field of all objects anew; a new object; a new row; a new list; a row that grows -/
def zsF (Z : Zs) (f : Nat) (g : Nat → Int) : Zs := (yC Z, fun h x => if h = f then g x else yN Z h x, yT Z, yL Z, yR Z, yK Z)
def zNew (Z : Zs) (c : Nat) : Zs := (u1 (yC Z) c (yC Z c + 1), fun f i => if f / 64 + 1 = c ∧ i = yC Z c then 0 else yN Z f i, fun f i => if f / 64 + 1 = c ∧ i = yC Z c then none else yT Z f i, yL Z, yR Z, yK Z)
def zRow (Z : Zs) (n : Nat) : Zs := (u1 (yC Z) 20 (yC Z 20 + 1), yN Z, yT Z, yL Z, u1 (yR Z) (yC Z 20) (fun _ => 0), u1 (yK Z) (yC Z 20) n)
def zLst (Z : Zs) : Zs := (u1 (yC Z) 1 (yC Z 1 + 1), yN Z, yT Z, u1 (yL Z) (yC Z 1) [], yR Z, yK Z)
def zGrw (Z : Zs) (k n : Nat) (r : Nat → Int) : Zs := (yC Z, yN Z, yT Z, yL Z, u1 (yR Z) k r, u1 (yK Z) k n)
/-- the kind that a reference field leads to; of a list's elements; the reference fields -/
def tgF (f : Nat) : Nat := if f = 64 then 4 else if f = 192 then 5 else if f = 256 then 9 else if f = 320 then 7 else if f = 321 then 3 else if f = 322 then 4 else if f = 323 then 9 else if f = 324 then 10 else if f = 385 then 5 else if f = 390 then 6 else if f = 577 then 20 else if f = 580 then 8 else 1
def isP (f : Nat) : Bool := f == 64 || f == 192 || f == 256 || f == 320 || f == 321 || f == 322 || f == 323 || f == 324 || f == 385 || f == 390 || f == 391 || f == 577 || f == 580 || f == 640 || f == 641 || f == 642 || f == 643 || f == 644 || f == 645
def kLs (j : Nat) : Nat := if j = 0 then 5 else if j = 1 then 7 else if j = 2 then 3 else if j = 3 then 4 else if j = 4 then 6 else if j = 5 then 6 else 2
theorem kLs_in (j : Nat) : 2 ≤ kLs j ∧ kLs j ≤ 7 := by
  unfold kLs
  repeat' split
  all_goals omega
theorem tgF_in (f : Nat) : 1 ≤ tgF f ∧ tgF f ≤ 20 := by
  unfold tgF
  repeat' split
  all_goals omega
def CX (t0 ao mo : Nat) (ad : Nat → Nat) (L : Ly) (X : Mm) (Z : Zs) (Mr : Mo) : Prop :=
  RR mo ad X Mr ∧ (gK X t0 = 24 ∧ gN X t0 = 0) ∧
  (∀ c i, 1 ≤ c → c ≤ 11 → i < yC Z c → gK X (lA L c i) = c) ∧
  (∀ c i j, i < yC Z c → j < yC Z c → lA L c i = lA L c j → i = j) ∧
  (∀ f i, 64 ≤ f → f < 704 → i < yC Z (f / 64 + 1) → gI X f (lA L (f / 64 + 1) i) = yN Z f i) ∧
  (∀ f i, 64 ≤ f → f < 704 → i < yC Z (f / 64 + 1) → isP f = true → gP X f (lA L (f / 64 + 1) i) = (yT Z f i).map (lA L (tgF f)) ∧ ∀ j, yT Z f i = some j → j < yC Z (tgF f)) ∧
  (∀ j, j < yC Z 1 → LI t0 X (lA L 1 j) ((yL Z j).map (lA L (kLs j))) (lD L j) (lC L j) ∧ ∀ v ∈ yL Z j, v < yC Z (kLs j)) ∧
  (∀ i j, i < yC Z 1 → j < yC Z 1 → gK X (lD L i) = 23 → lD L i = lD L j → i = j) ∧
  (∀ k, k < yC Z 20 → gK X (lA L 20 k) = 20 ∧ gN X (lA L 20 k) = yK Z k ∧ (∀ i, gA X (lA L 20 k) i = yR Z k i) ∧ ∀ j, adK j ≠ 0 → lA L 20 k ≠ ad j) ∧ yC Z 2 = 0
theorem RR.kind {mo : Nat} {ad : Nat → Nat} {X : Mm} {Mr : Mo} (h : RR mo ad X Mr) {a : Nat} (ha : inR mo ad a) : gK X a = 12 ∨ gK X a = 20 ∨ gK X a = 21 := by
  obtain ⟨k, hk, rfl⟩ := ha
  have h1 := (h.1 k hk).1
  rcases adK_kind k with z | z <;> omega
section CXS
variable {t0 ao mo : Nat} {ad : Nat → Nat} {L : Ly} {X Y : Mm} {Z : Zs} {Mr M2 : Mo}
theorem CX.dk (h : CX t0 ao mo ad L X Z Mr) {j : Nat} (hj : j < yC Z 1) : gK X (lD L j) = 23 ∨ gK X (lD L j) = 24 := by
  rcases (h.2.2.2.2.2.2.1 j hj).1.2.2.2.2.1 with z | z
  · exact Or.inl z.1
  · exact Or.inr z.2.1
/-- the reference's cells may change, and new ones come -/
theorem CX.ref (h : CX t0 ao mo ad L X Z Mr) (hR : RR mo ad Y M2) (hq : ∀ a, gK X a ≠ 0 → ¬ inR mo ad a → eqc X Y a) : CX t0 ao mo ad L Y Z M2 := by
  have hdk := fun j hj => h.dk (j := j) hj
  obtain ⟨h1, h2, h3, h4, h5, h6, h7, h8, h9, hO⟩ := h
  have hn : ∀ a, gK X a ≠ 0 → gK X a ≠ 12 → gK X a ≠ 20 → gK X a ≠ 21 → eqc X Y a := fun a g0 g1 g2 g3 => hq a g0 (fun z => by rcases h1.kind z with z | z | z <;> omega)
  have ho : ∀ c i, 1 ≤ c → c ≤ 11 → i < yC Z c → eqc X Y (lA L c i) := fun c i c1 c2 hi => by
    have := h3 c i c1 c2 hi
    exact hn _ (by omega) (by omega) (by omega) (by omega)
  have ht := hn t0 (by omega) (by omega) (by omega) (by omega)
  have hD : ∀ j, j < yC Z 1 → eqc X Y (lD L j) := fun j hj => by
    have := hdk j hj
    exact hn _ (by omega) (by omega) (by omega) (by omega)
  refine ⟨hR, ⟨ht.1.trans h2.1, ht.2.2.2.1.trans h2.2⟩, fun c i c1 c2 hi => (ho c i c1 c2 hi).1.trans (h3 c i c1 c2 hi), h4, fun f i f1 f2 hi => ((ho _ i (by omega) (by omega) hi).2.1 f).trans (h5 f i f1 f2 hi), fun f i f1 f2 hi hp => ⟨((ho _ i (by omega) (by omega) hi).2.2.1 f).trans (h6 f i f1 f2 hi hp).1, (h6 f i f1 f2 hi hp).2⟩, fun j hj => ⟨(h7 j hj).1.kept (ho 1 j (by omega) (by omega) hj) (hD j hj) (fun v hv => ?_), (h7 j hj).2⟩, fun i j hi hj hk e => h8 i j hi hj ((hD i hi).1.symm.trans hk) e, fun k hk => ?_, ?_⟩
  · obtain ⟨u, hu, rfl⟩ := List.mem_map.mp hv
    have := kLs_in j
    exact ho _ u (by omega) (by omega) ((h7 j hj).2 u hu)
  · obtain ⟨g1, g2, g3, g4⟩ := h9 k hk
    have e := hq (lA L 20 k) (by omega) (fun z => by
      obtain ⟨j, hj, z⟩ := z
      exact g4 j hj z)
    exact ⟨e.1.trans g1, e.2.2.2.1.trans g2, fun i => (e.2.2.2.2.1 i).trans (g3 i), g4⟩
  · exact hO
theorem CX.kept (h : CX t0 ao mo ad L X Z Mr) (hq : ∀ a, gK X a ≠ 0 → eqc X Y a) : CX t0 ao mo ad L Y Z Mr := h.ref (h.1.kept (fun a ha => hq a (by rcases h.1.kind ha with z | z | z <;> omega))) (fun a g _ => hq a g)
/-- an int field -/
theorem CX.putI (h : CX t0 ao mo ad L X Z Mr) {f c i a : Nat} {v : Int} (hc : f / 64 + 1 = c) (h1 : 64 ≤ f) (h2 : f < 704) (hi : i < yC Z c) (ha : a = lA L c i) : CX t0 ao mo ad L (sI X f a v) (zsN Z f i v) Mr := by
  subst hc ha
  obtain ⟨hR, ht, hk, hj, hn, hp, hl, hd, hr, hO⟩ := h
  have hka := hk (f / 64 + 1) i (by omega) (by omega) hi
  refine ⟨hR.kept (fun a ha => eqc_sI (fun e => ?_)), ht, hk, hj, fun g j g1 g2 hj2 => ?_, hp, fun j hj2 => ⟨(hl j hj2).1.same rfl (funext fun x => if_neg (fun z => by omega)) rfl rfl rfl, (hl j hj2).2⟩, hd, hr, hO⟩
  · subst e
    rcases hR.kind ha with z | z | z <;> omega
  · show (if g = f ∧ lA L (g / 64 + 1) j = lA L (f / 64 + 1) i then v else gI X g (lA L (g / 64 + 1) j)) = if g = f ∧ j = i then v else yN Z g j
    by_cases e : g = f
    · subst e
      by_cases e2 : j = i
      · subst e2
        rw [if_pos ⟨rfl, rfl⟩, if_pos ⟨rfl, rfl⟩]
      · rw [if_neg (fun z => e2 (hj _ _ _ hj2 hi z.2)), if_neg (fun z => e2 z.2)]
        exact hn g j g1 g2 hj2
    · rw [if_neg (fun z => e z.1), if_neg (fun z => e z.1)]
      exact hn g j g1 g2 hj2
/-- a reference field -/
theorem CX.putP (h : CX t0 ao mo ad L X Z Mr) {f c i a : Nat} {r v : Option Nat} (hc : f / 64 + 1 = c) (h1 : 64 ≤ f) (h2 : f < 704) (hi : i < yC Z c) (ha : a = lA L c i) (hv : r = v.map (lA L (tgF f))) (hv2 : ∀ j, v = some j → j < yC Z (tgF f)) : CX t0 ao mo ad L (sP X f a r) (zsT Z f i v) Mr := by
  subst hc ha hv
  obtain ⟨hR, ht, hk, hj, hn, hp, hl, hd, hr, hO⟩ := h
  have hka := hk (f / 64 + 1) i (by omega) (by omega) hi
  refine ⟨hR.kept (fun a ha => eqc_sP (fun e => ?_)), ht, hk, hj, hn, fun g j g1 g2 hj2 gp => ?_, fun j hj2 => ⟨(hl j hj2).1.same rfl rfl (funext fun x => if_neg (fun z => by omega)) rfl rfl, (hl j hj2).2⟩, hd, hr, hO⟩
  · subst e
    rcases hR.kind ha with z | z | z <;> omega
  · show (if g = f ∧ lA L (g / 64 + 1) j = lA L (f / 64 + 1) i then v.map (lA L (tgF f)) else gP X g (lA L (g / 64 + 1) j)) = (if g = f ∧ j = i then v else yT Z g j).map (lA L (tgF g)) ∧ ∀ q, (if g = f ∧ j = i then v else yT Z g j) = some q → q < yC Z (tgF g)
    by_cases e : g = f
    · subst e
      by_cases e2 : j = i
      · subst e2
        rw [if_pos ⟨rfl, rfl⟩, if_pos ⟨rfl, rfl⟩]
        exact ⟨rfl, hv2⟩
      · rw [if_neg (fun z => e2 (hj _ _ _ hj2 hi z.2)), if_neg (fun z => e2 z.2)]
        exact hp g j g1 g2 hj2 gp
    · rw [if_neg (fun z => e z.1), if_neg (fun z => e z.1)]
      exact hp g j g1 g2 hj2 gp
/-- a whole field -/
theorem CX.putF (h : CX t0 ao mo ad L X Z Mr) {f c : Nat} {g : Nat → Int} (hc : f / 64 + 1 = c) (h1 : 64 ≤ f) (h2 : f < 704) : CX t0 ao mo ad L (sIf X f g) (zsF Z f (fun i => g (lA L c i))) Mr := by
  subst hc
  obtain ⟨hR, ht, hk, hj, hn, hp, hl, hd, hr, hO⟩ := h
  refine ⟨⟨hR.1, hR.2.1, hR.2.2⟩, ht, hk, hj, fun e j g1 g2 hj2 => ?_, hp, fun j hj2 => ⟨(hl j hj2).1.same rfl (funext fun x => if_neg (fun z => by omega)) rfl rfl rfl, (hl j hj2).2⟩, hd, hr, hO⟩
  show (if e = f then g (lA L (e / 64 + 1) j) else gI X e (lA L (e / 64 + 1) j)) = if e = f then g (lA L (f / 64 + 1) j) else yN Z e j
  by_cases ef : e = f
  · subst ef
    rw [if_pos rfl, if_pos rfl]
  · rw [if_neg ef, if_neg ef]
    exact hn e j g1 g2 hj2
/-- a place of a row -/
theorem CX.putA (h : CX t0 ao mo ad L X Z Mr) {k i a : Nat} {v : Int} (hk : k < yC Z 20) (ha : a = lA L 20 k) : CX t0 ao mo ad L (sA X a i v) (zsR Z k i v) Mr := by
  subst ha
  obtain ⟨hR, ht, hkk, hj, hn, hp, hl, hd, hr, hO⟩ := h
  obtain ⟨q1, q2, q3, q4⟩ := hr k hk
  refine ⟨hR.kept (fun a ha => eqc_sA (fun e => ?_)), ht, hkk, hj, hn, hp, fun j hj2 => ⟨(hl j hj2).1.same rfl rfl rfl rfl rfl, (hl j hj2).2⟩, hd, fun k2 hk2 => ?_, hO⟩
  · subst e
    obtain ⟨j, hj2, z⟩ := ha
    exact q4 j hj2 z
  · obtain ⟨g1, g2, g3, g4⟩ := hr k2 hk2
    refine ⟨g1, g2, fun x => ?_, g4⟩
    show (if lA L 20 k2 = lA L 20 k ∧ x = i then v else gA X (lA L 20 k2) x) = if k2 = k ∧ x = i then v else yR Z k2 x
    by_cases e : k2 = k
    · subst e
      by_cases e2 : x = i
      · rw [if_pos ⟨rfl, e2⟩, if_pos ⟨rfl, e2⟩]
      · rw [if_neg (fun z => e2 z.2), if_neg (fun z => e2 z.2)]
        exact g3 x
    · rw [if_neg (fun z => e (hj 20 _ _ hk2 hk z.1)), if_neg (fun z => e z.1)]
      exact g3 x
end CXS
