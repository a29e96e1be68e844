/-! the reference: its memory as numbers M: scalars by field, rows by field and place -/
def adKL : List Nat := [20, 20, 20, 20, 20]
def adNL : List Nat := [4, 40, 40, 3, 3]
def adK (k : Nat) : Nat := adKL.getD k 0
def adN (k : Nat) : Nat := adNL.getD k 0
abbrev Mo : Type := (Nat → Int) × (Nat → Nat → Int)
def setS (M : Mo) (k : Nat) (v : Int) : Mo := (fun j => if j = k then v else M.1 j, M.2)
def setA (M : Mo) (k i : Nat) (v : Int) : Mo := (M.1, fun j x => if j = k then (if x = i then v else M.2 k x) else M.2 j x)
/-- a whole row -/
def setR (M : Mo) (k : Nat) (f : Nat → Int) : Mo := (M.1, fun j => if j = k then f else M.2 j)
/-- one cell is the same in X and Y -/
def eqc (X Y : Mm) (a : Nat) : Prop := gK Y a = gK X a ∧ (∀ f, gI Y f a = gI X f a) ∧ (∀ f, gP Y f a = gP X f a) ∧ gN Y a = gN X a ∧ (∀ i, gA Y a i = gA X a i) ∧ ∀ i, gO Y a i = gO X a i
theorem eqc.rf (X : Mm) (a : Nat) : eqc X X a := ⟨rfl, fun _ => rfl, fun _ => rfl, rfl, fun _ => rfl, fun _ => rfl⟩
theorem eqc.tr {X Y Z : Mm} {a : Nat} (h : eqc X Y a) (g : eqc Y Z a) : eqc X Z a := ⟨g.1.trans h.1, fun f => (g.2.1 f).trans (h.2.1 f), fun f => (g.2.2.1 f).trans (h.2.2.1 f), g.2.2.2.1.trans h.2.2.2.1, fun i => (g.2.2.2.2.1 i).trans (h.2.2.2.2.1 i), fun i => (g.2.2.2.2.2 i).trans (h.2.2.2.2.2 i)⟩
theorem eqc_sI {X : Mm} {f a q : Nat} {v : Int} (h : q ≠ a) : eqc X (sI X f a v) q := ⟨rfl, fun g => by rw [gI_sI, if_neg (fun z => h z.2)], fun _ => rfl, rfl, fun _ => rfl, fun _ => rfl⟩
theorem eqc_sP {X : Mm} {f a q : Nat} {v : Option Nat} (h : q ≠ a) : eqc X (sP X f a v) q := ⟨rfl, fun _ => rfl, fun g => by rw [gP_sP, if_neg (fun z => h z.2)], rfl, fun _ => rfl, fun _ => rfl⟩
theorem eqc_sA {X : Mm} {i a q : Nat} {v : Int} (h : q ≠ a) : eqc X (sA X a i v) q := ⟨rfl, fun _ => rfl, fun _ => rfl, rfl, fun g => by rw [gA_sA, if_neg (fun z => h z.1)], fun _ => rfl⟩
theorem eqc_sO {X : Mm} {i a q : Nat} {v : Option Nat} (h : q ≠ a) : eqc X (sO X a i v) q := ⟨rfl, fun _ => rfl, fun _ => rfl, rfl, fun _ => rfl, fun g => by rw [gO_sO, if_neg (fun z => h z.1)]⟩
theorem eqc_alO {X : Mm} {a q t : Nat} (h : q ≠ a) : eqc X (alO X a t) q := ⟨if_neg h, fun _ => if_neg h, fun _ => if_neg h, rfl, fun _ => rfl, fun _ => rfl⟩
theorem eqc_alA {X : Mm} {a q t n : Nat} (h : q ≠ a) : eqc X (alA X a t n) q := ⟨if_neg h, fun _ => rfl, fun _ => rfl, if_neg h, fun _ => if_neg h, fun _ => if_neg h⟩
/-- the reference mo, its rows at ad k -/
def RR (mo : Nat) (ad : Nat → Nat) (X : Mm) (M : Mo) : Prop := (∀ k, adK k ≠ 0 → gK X (ad k) = adK k ∧ gN X (ad k) = adN k) ∧ (∀ j k, adK j ≠ 0 → adK k ≠ 0 → ad j = ad k → j = k) ∧ ∀ k i, adK k ≠ 0 → gA X (ad k) i = M.2 k i
def inR (mo : Nat) (ad : Nat → Nat) (a : Nat) : Prop := ∃ k, adK k ≠ 0 ∧ a = ad k
theorem RR.kept {mo : Nat} {ad : Nat → Nat} {X Y : Mm} {M : Mo} (h : RR mo ad X M) (hq : ∀ a, inR mo ad a → eqc X Y a) : RR mo ad Y M := by
  obtain ⟨h2, h3, h5⟩ := h
  refine ⟨fun k hk => ?_, h3, fun k i hk => ((hq _ ⟨k, hk, rfl⟩).2.2.2.2.1 i).trans (h5 k i hk)⟩
  have q1 := hq _ ⟨k, hk, rfl⟩
  exact ⟨q1.1.trans (h2 k hk).1, q1.2.2.2.1.trans (h2 k hk).2⟩
theorem adK_kind (k : Nat) : adK k = 0 ∨ (adK k = 20 ∧ k < 5) := by
  rcases Nat.lt_or_ge k 5 with h | h
  · have hd : ∀ k, k < 5 → adK k = 20 := by decide +kernel
    exact Or.inr ⟨hd k h, h⟩
  · left
    show adKL.getD k 0 = 0
    rw [List.getD_eq_getElem?_getD, List.getElem?_eq_none (by show 5 ≤ k; exact h)]
    rfl
theorem RR_setA {mo : Nat} {ad : Nat → Nat} {X : Mm} {M : Mo} (h : RR mo ad X M) {k i : Nat} {v : Int} (hk : adK k ≠ 0) : RR mo ad (sA X (ad k) i v) (setA M k i v) := by
  obtain ⟨h2, h3, h5⟩ := h
  refine ⟨h2, h3, fun j x hj => ?_⟩
  rw [gA_sA]
  by_cases e : j = k
  · subst e
    by_cases ex : x = i
    · simp [setA, ex]
    · simp [setA, ex, h5 j x hj]
  · rw [if_neg (fun z => e (h3 j k hj hk z.1)), h5 j x hj]
    simp [setA, e]
section VR
variable {p : Program} {l : Launch} {e : Env} {R : Room} {s : State} {m : MethodId} {args : Array Value} {below : List Frame} {meth : Method} {c : Code}
variable {D : va_G} {kA : Nat → ClassId} {b t0 nL cells slots : Nat} {Q : State → Prop} {own nm : String} {cc : ByteArray} {X : Mm} {pc pc' tgt : Nat} {lv : List (Option Value)} {st : List Value}
variable {mo : Nat} {ad : Nat → Nat} {X0 : Mm} {M : Mo}

variable {y : MethodName} {cy : ByteArray} {n fr lc : Nat} {ret : Option FieldType} {post : Option Value → Mo → Prop}
theorem ivc {a b : Int} (h : a = b) : some (iv a) = some (iv b) := by rw [h]
end VR
