/-! the reference: its memory as numbers M: scalars by field, rows by field and place -/
def adKL : List Nat := [0, 0, 0, 0, 0, 0, 0, 20, 20, 21, 21, 20, 20, 0, 20, 20, 20, 0, 20, 20, 21, 21, 20, 20, 20, 20, 20, 20, 20, 20, 0, 20, 20, 20, 20, 20, 20, 20, 20, 20, 20, 20, 20, 20, 20, 20, 20, 21, 20, 20]
def adNL : List Nat := [0, 0, 0, 0, 0, 0, 0, 8, 8, 8, 8, 8, 8, 0, 12, 12, 12, 0, 12, 12, 12, 12, 12, 12, 160, 9, 8, 12000, 12000, 12000, 0, 40, 40, 40, 40, 40, 40, 40, 40, 40, 40, 40, 40, 40, 40, 40, 40, 40, 40, 40]
def adK (k : Nat) : Nat := adKL.getD k 0
def adN (k : Nat) : Nat := adNL.getD k 0
abbrev Mo : Type := (Nat → Int) × (Nat → Nat → Int)
def setS (M : Mo) (k : Nat) (v : Int) : Mo := (fun j => if j = k then v else M.1 j, M.2)
def setA (M : Mo) (k i : Nat) (v : Int) : Mo := (M.1, fun j x => if j = k then (if x = i then v else M.2 k x) else M.2 j x)
/-- a whole row -/
def setR (M : Mo) (k : Nat) (f : Nat → Int) : Mo := (M.1, fun j => if j = k then f else M.2 j)
/-- one cell is the same in X and Y -/
def eqc (X Y : Mm) (a : Nat) : Prop := gK Y a = gK X a ∧ (∀ f, gI Y f a = gI X f a) ∧ (∀ f, gP Y f a = gP X f a) ∧ gN Y a = gN X a ∧ (∀ i, gA Y a i = gA X a i) ∧ ∀ i, gO Y a i = gO X a i
theorem eqc.rf (X : Mm) (a : Nat) : eqc X X a := ⟨rfl, fun _ => rfl, fun _ => rfl, rfl, fun _ => rfl, fun _ => rfl⟩
theorem eqc.tr {X Y Z : Mm} {a : Nat} (h : eqc X Y a) (g : eqc Y Z a) : eqc X Z a := ⟨g.1.trans h.1, fun f => (g.2.1 f).trans (h.2.1 f), fun f => (g.2.2.1 f).trans (h.2.2.1 f), g.2.2.2.1.trans h.2.2.2.1, fun i => (g.2.2.2.2.1 i).trans (h.2.2.2.2.1 i), fun i => (g.2.2.2.2.2 i).trans (h.2.2.2.2.2 i)⟩
theorem eqc_sI {X : Mm} {f a q : Nat} {v : Int} (h : q ≠ a) : eqc X (sI X f a v) q := ⟨rfl, fun g => by rw [gI_sI, if_neg (fun z => h z.2)], fun _ => rfl, rfl, fun _ => rfl, fun _ => rfl⟩
theorem eqc_sP {X : Mm} {f a q : Nat} {v : Option Nat} (h : q ≠ a) : eqc X (sP X f a v) q := ⟨rfl, fun _ => rfl, fun g => by rw [gP_sP, if_neg (fun z => h z.2)], rfl, fun _ => rfl, fun _ => rfl⟩
theorem eqc_sA {X : Mm} {i a q : Nat} {v : Int} (h : q ≠ a) : eqc X (sA X a i v) q := ⟨rfl, fun _ => rfl, fun _ => rfl, rfl, fun g => by rw [gA_sA, if_neg (fun z => h z.1)], fun _ => rfl⟩
theorem eqc_sO {X : Mm} {i a q : Nat} {v : Option Nat} (h : q ≠ a) : eqc X (sO X a i v) q := ⟨rfl, fun _ => rfl, fun _ => rfl, rfl, fun _ => rfl, fun g => by rw [gO_sO, if_neg (fun z => h z.1)]⟩
theorem eqc_alO {X : Mm} {a q t : Nat} (h : q ≠ a) : eqc X (alO X a t) q := ⟨if_neg h, fun _ => if_neg h, fun _ => if_neg h, rfl, fun _ => rfl, fun _ => rfl⟩
theorem eqc_alA {X : Mm} {a q t n : Nat} (h : q ≠ a) : eqc X (alA X a t n) q := ⟨if_neg h, fun _ => rfl, fun _ => rfl, if_neg h, fun _ => if_neg h, fun _ => if_neg h⟩
/-- the reference mo, its rows at ad k -/
def RR (mo : Nat) (ad : Nat → Nat) (X : Mm) (M : Mo) : Prop := gK X mo = 12 ∧ (∀ k, adK k ≠ 0 → gP X (704 + k) mo = some (ad k) ∧ gK X (ad k) = adK k ∧ gN X (ad k) = adN k) ∧ (∀ j k, adK j ≠ 0 → adK k ≠ 0 → ad j = ad k → j = k) ∧ (∀ k, adK k = 0 → gI X (704 + k) mo = M.1 k) ∧ ∀ k i, adK k ≠ 0 → gA X (ad k) i = M.2 k i
def inR (mo : Nat) (ad : Nat → Nat) (a : Nat) : Prop := a = mo ∨ ∃ k, adK k ≠ 0 ∧ a = ad k
theorem RR.kept {mo : Nat} {ad : Nat → Nat} {X Y : Mm} {M : Mo} (h : RR mo ad X M) (hq : ∀ a, inR mo ad a → eqc X Y a) : RR mo ad Y M := by
  obtain ⟨h1, h2, h3, h4, h5⟩ := h
  have q0 := hq mo (Or.inl rfl)
  refine ⟨q0.1.trans h1, fun k hk => ?_, h3, fun k hk => (q0.2.1 _).trans (h4 k hk), fun k i hk => ((hq _ (Or.inr ⟨k, hk, rfl⟩)).2.2.2.2.1 i).trans (h5 k i hk)⟩
  have q1 := hq _ (Or.inr ⟨k, hk, rfl⟩)
  exact ⟨(q0.2.2.1 _).trans (h2 k hk).1, q1.1.trans (h2 k hk).2.1, q1.2.2.2.1.trans (h2 k hk).2.2⟩
theorem adK_kind (k : Nat) : adK k = 0 ∨ adK k = 20 ∨ adK k = 21 := by
  unfold adK
  rcases Nat.lt_or_ge k 50 with h | h
  · have hd : ∀ k, k < 50 → adKL.getD k 0 = 0 ∨ adKL.getD k 0 = 20 ∨ adKL.getD k 0 = 21 := by decide +kernel
    exact hd k h
  · left
    rw [List.getD_eq_getElem?_getD, List.getElem?_eq_none (by show 50 ≤ k; exact h)]
    rfl
theorem RR.ne {mo : Nat} {ad : Nat → Nat} {X : Mm} {M : Mo} (h : RR mo ad X M) {k : Nat} (hk : adK k ≠ 0) : ad k ≠ mo := fun e => by
  have h1 := (h.2.1 k hk).2.1
  rw [e, h.1] at h1
  rcases adK_kind k with z | z | z <;> omega
theorem RR_setS {mo : Nat} {ad : Nat → Nat} {X : Mm} {M : Mo} (h : RR mo ad X M) {k : Nat} {v : Int} (hk : adK k = 0) : RR mo ad (sI X (704 + k) mo v) (setS M k v) := by
  obtain ⟨h1, h2, h3, h4, h5⟩ := h
  refine ⟨h1, h2, h3, fun j hj => ?_, h5⟩
  rw [gI_sI]
  by_cases e : j = k
  · subst e
    simp [setS]
  · rw [if_neg (fun z => e (by omega)), h4 j hj]
    simp [setS, e]
theorem RR_setA {mo : Nat} {ad : Nat → Nat} {X : Mm} {M : Mo} (h : RR mo ad X M) {k i : Nat} {v : Int} (hk : adK k ≠ 0) : RR mo ad (sA X (ad k) i v) (setA M k i v) := by
  obtain ⟨h1, h2, h3, h4, h5⟩ := h
  refine ⟨h1, h2, h3, h4, fun j x hj => ?_⟩
  rw [gA_sA]
  by_cases e : j = k
  · subst e
    by_cases ex : x = i
    · simp [setA, ex]
    · simp [setA, ex, h5 j x hj]
  · rw [if_neg (fun z => e (h3 j k hj hk z.1)), h5 j x hj]
    simp [setA, e]
section VR
variable {p : Program} {l : Launch} {e : Env} {R : Room} {s : State} {m : MethodId} {args : Array Value} {below : List Frame} {meth : Method} {c : Code}
variable {D : va_G} {kA : Nat → ClassId} {b t0 nL cells slots : Nat} {Q : State → Prop} {own nm : String} {cc : ByteArray} {X : Mm} {pc pc' tgt : Nat} {lv : List (Option Value)} {st : List Value}
variable {mo : Nat} {ad : Nat → Nat} {X0 : Mm} {M : Mo}

def VR (p : Program) (l : Launch) (e : Env) (R : Room) (s : State) (m : MethodId) (args : Array Value) (below : List Frame) (meth : Method) (c : Code) (D : va_G) (kA : Nat → ClassId) (b nL cells slots : Nat) (Q : State → Prop) (mo : Nat) (ad : Nat → Nat) (X0 : Mm) (M : Mo) (pc : Nat) (lv : List (Option Value)) (st : List Value) : Prop :=
  ∀ X : Mm, RR mo ad X M → (∀ a, ¬ inR mo ad a → eqc X0 X a) → V p l e R s m args below meth c D kA b nL cells slots Q X pc lv st
/-- the contract of a method of the reference -/
def Cr (l : Launch) (D : va_G) (kA : Nat → ClassId) (b t0 mo : Nat) (ad : Nat → Nat) (y : MethodName) (cc : ByteArray) (n : Nat) (ret : Option FieldType) (fr lc : Nat) (av : List Value) (M : Mo) (post : Option Value → Mo → Prop) : Prop :=
  ∀ X0 : Mm, RR mo ad X0 M → Ct l D kA b t0 y cc n ret fr lc av X0 0 0 (fun v Y => ∃ M2 : Mo, post v M2 ∧ RR mo ad Y M2 ∧ ∀ a, ¬ inR mo ad a → eqc X0 Y a) (fun _ _ => False)
theorem VR_of {X1 : Mm} (h : VR p l e R s m args below meth c D kA b nL (cells) (slots) (Q) mo ad X0 M (pc) (lv) (st)) (hR : RR mo ad X1 M) (hS : ∀ a, ¬ inR mo ad a → eqc X0 X1 a) : V p l e R s m args below meth c D kA b nL cells slots Q X1 pc lv st := h X1 hR hS
theorem R_iconst (C : Cx p l s m args meth c D kA b t0 nL own nm cc) {n : Int} (d : DI cc pc (.iconst n) 1 pc')
    (k : VR p l e R s m args below meth c D kA b nL (cells) (slots) (Q) mo ad X0 M (pc') (lv) (iv n :: st)) : VR p l e R s m args below meth c D kA b nL (cells) (slots) (Q) mo ad X0 M (pc) (lv) (st) := fun X hR hS => V_iconst C d (k X hR hS)
theorem R_bipush (C : Cx p l s m args meth c D kA b t0 nL own nm cc) {n : Int} (d : DI cc pc (.bipush n) 2 pc') (hv : (Int8.ofInt n).toInt32 = zI n)
    (k : VR p l e R s m args below meth c D kA b nL (cells) (slots) (Q) mo ad X0 M (pc') (lv) (iv n :: st)) : VR p l e R s m args below meth c D kA b nL (cells) (slots) (Q) mo ad X0 M (pc) (lv) (st) := fun X hR hS => V_bipush C d hv (k X hR hS)
theorem R_sipush (C : Cx p l s m args meth c D kA b t0 nL own nm cc) {n : Int} (d : DI cc pc (.sipush n) 3 pc') (hv : (Int16.ofInt n).toInt32 = zI n)
    (k : VR p l e R s m args below meth c D kA b nL (cells) (slots) (Q) mo ad X0 M (pc') (lv) (iv n :: st)) : VR p l e R s m args below meth c D kA b nL (cells) (slots) (Q) mo ad X0 M (pc) (lv) (st) := fun X hR hS => V_sipush C d hv (k X hR hS)
theorem R_ldc (C : Cx p l s m args meth c D kA b t0 nL own nm cc) {i : Nat} {n : Int} (d : DI cc pc (.ldc i) 2 pc') (hw : Cond.constant own i (zI n) ∈ TBL)
    (k : VR p l e R s m args below meth c D kA b nL (cells) (slots) (Q) mo ad X0 M (pc') (lv) (iv n :: st)) : VR p l e R s m args below meth c D kA b nL (cells) (slots) (Q) mo ad X0 M (pc) (lv) (st) := fun X hR hS => V_ldc C d hw (k X hR hS)
theorem R_ldcw (C : Cx p l s m args meth c D kA b t0 nL own nm cc) {i : Nat} {n : Int} (d : DI cc pc (.ldc_w i) 3 pc') (hw : Cond.constant own i (zI n) ∈ TBL)
    (k : VR p l e R s m args below meth c D kA b nL (cells) (slots) (Q) mo ad X0 M (pc') (lv) (iv n :: st)) : VR p l e R s m args below meth c D kA b nL (cells) (slots) (Q) mo ad X0 M (pc) (lv) (st) := fun X hR hS => V_ldcw C d hw (k X hR hS)
theorem R_ldc2 (C : Cx p l s m args meth c D kA b t0 nL own nm cc) {i : Nat} {n : Int} (d : DI cc pc (.ldc2_w i) 3 pc') (hw : Cond.constantLong own i (zL n) ∈ TBL)
    (k : VR p l e R s m args below meth c D kA b nL (cells) (slots) (Q) mo ad X0 M (pc') (lv) (lo n :: st)) : VR p l e R s m args below meth c D kA b nL (cells) (slots) (Q) mo ad X0 M (pc) (lv) (st) := fun X hR hS => V_ldc2 C d hw (k X hR hS)
theorem R_lconst (C : Cx p l s m args meth c D kA b t0 nL own nm cc) {n : Fin 2} {z : Int} (d : DI cc pc (.lconst n) 1 pc') (hv : Int64.ofNat (n : Nat) = zL z)
    (k : VR p l e R s m args below meth c D kA b nL (cells) (slots) (Q) mo ad X0 M (pc') (lv) (lo z :: st)) : VR p l e R s m args below meth c D kA b nL (cells) (slots) (Q) mo ad X0 M (pc) (lv) (st) := fun X hR hS => V_lconst C d hv (k X hR hS)
theorem R_null (C : Cx p l s m args meth c D kA b t0 nL own nm cc)  (d : DI cc pc (.aconst_null) 1 pc')
    (k : VR p l e R s m args below meth c D kA b nL (cells) (slots) (Q) mo ad X0 M (pc') (lv) (rv none :: st)) : VR p l e R s m args below meth c D kA b nL (cells) (slots) (Q) mo ad X0 M (pc) (lv) (st) := fun X hR hS => V_null C d (k X hR hS)
theorem R_iload (C : Cx p l s m args meth c D kA b t0 nL own nm cc) {i : Nat} {z : Int} (d : DI cc pc (.iload i) 2 pc') (h : lv[(i : Nat)]? = some (some (iv z)))
    (k : VR p l e R s m args below meth c D kA b nL (cells) (slots) (Q) mo ad X0 M (pc') (lv) (iv z :: st)) : VR p l e R s m args below meth c D kA b nL (cells) (slots) (Q) mo ad X0 M (pc) (lv) (st) := fun X hR hS => V_iload C d h (k X hR hS)
theorem R_iload_n (C : Cx p l s m args meth c D kA b t0 nL own nm cc) {i : Fin 4} {z : Int} (d : DI cc pc (.iload_n i) 1 pc') (h : lv[(i : Nat)]? = some (some (iv z)))
    (k : VR p l e R s m args below meth c D kA b nL (cells) (slots) (Q) mo ad X0 M (pc') (lv) (iv z :: st)) : VR p l e R s m args below meth c D kA b nL (cells) (slots) (Q) mo ad X0 M (pc) (lv) (st) := fun X hR hS => V_iload_n C d h (k X hR hS)
theorem R_lload (C : Cx p l s m args meth c D kA b t0 nL own nm cc) {i : Nat} {z : Int} (d : DI cc pc (.lload i) 2 pc') (h : lv[(i : Nat)]? = some (some (lo z)))
    (k : VR p l e R s m args below meth c D kA b nL (cells) (slots) (Q) mo ad X0 M (pc') (lv) (lo z :: st)) : VR p l e R s m args below meth c D kA b nL (cells) (slots) (Q) mo ad X0 M (pc) (lv) (st) := fun X hR hS => V_lload C d h (k X hR hS)
theorem R_lload_n (C : Cx p l s m args meth c D kA b t0 nL own nm cc) {i : Fin 4} {z : Int} (d : DI cc pc (.lload_n i) 1 pc') (h : lv[(i : Nat)]? = some (some (lo z)))
    (k : VR p l e R s m args below meth c D kA b nL (cells) (slots) (Q) mo ad X0 M (pc') (lv) (lo z :: st)) : VR p l e R s m args below meth c D kA b nL (cells) (slots) (Q) mo ad X0 M (pc) (lv) (st) := fun X hR hS => V_lload_n C d h (k X hR hS)
theorem R_aload (C : Cx p l s m args meth c D kA b t0 nL own nm cc) {i : Nat} {r : Option Nat} (d : DI cc pc (.aload i) 2 pc') (h : lv[i]? = some (some (rv r)))
    (k : VR p l e R s m args below meth c D kA b nL (cells) (slots) (Q) mo ad X0 M (pc') (lv) (rv r :: st)) : VR p l e R s m args below meth c D kA b nL (cells) (slots) (Q) mo ad X0 M (pc) (lv) (st) := fun X hR hS => V_aload C d h (k X hR hS)
theorem R_aload_n (C : Cx p l s m args meth c D kA b t0 nL own nm cc) {i : Fin 4} {r : Option Nat} (d : DI cc pc (.aload_n i) 1 pc') (h : lv[(i : Nat)]? = some (some (rv r)))
    (k : VR p l e R s m args below meth c D kA b nL (cells) (slots) (Q) mo ad X0 M (pc') (lv) (rv r :: st)) : VR p l e R s m args below meth c D kA b nL (cells) (slots) (Q) mo ad X0 M (pc) (lv) (st) := fun X hR hS => V_aload_n C d h (k X hR hS)
theorem R_istore (C : Cx p l s m args meth c D kA b t0 nL own nm cc) {i : Nat} {z : Int} (d : DI cc pc (.istore i) 2 pc') (hn : i < nL) (hk : okS lv i = true)
    (k : VR p l e R s m args below meth c D kA b nL (cells) (slots) (Q) mo ad X0 M (pc') ((lv.set i (some (iv z)))) (st)) : VR p l e R s m args below meth c D kA b nL (cells) (slots) (Q) mo ad X0 M (pc) (lv) (iv z :: st) := fun X hR hS => V_istore C d hn hk (k X hR hS)
theorem R_istore_n (C : Cx p l s m args meth c D kA b t0 nL own nm cc) {i : Fin 4} {z : Int} (d : DI cc pc (.istore_n i) 1 pc') (hn : (i : Nat) < nL) (hk : okS lv (i : Nat) = true)
    (k : VR p l e R s m args below meth c D kA b nL (cells) (slots) (Q) mo ad X0 M (pc') ((lv.set (i : Nat) (some (iv z)))) (st)) : VR p l e R s m args below meth c D kA b nL (cells) (slots) (Q) mo ad X0 M (pc) (lv) (iv z :: st) := fun X hR hS => V_istore_n C d hn hk (k X hR hS)
theorem R_astore (C : Cx p l s m args meth c D kA b t0 nL own nm cc) {i a : Nat} (d : DI cc pc (.astore i) 2 pc') (hn : i < nL) (hk : okS lv i = true)
    (k : VR p l e R s m args below meth c D kA b nL (cells) (slots) (Q) mo ad X0 M (pc') ((lv.set i (some (rv (some a))))) (st)) : VR p l e R s m args below meth c D kA b nL (cells) (slots) (Q) mo ad X0 M (pc) (lv) (rv (some a) :: st) := fun X hR hS => V_astore C d hn hk (k X hR hS)
theorem R_astore_n (C : Cx p l s m args meth c D kA b t0 nL own nm cc) {i : Fin 4} {a : Nat} (d : DI cc pc (.astore_n i) 1 pc') (hn : (i : Nat) < nL) (hk : okS lv (i : Nat) = true)
    (k : VR p l e R s m args below meth c D kA b nL (cells) (slots) (Q) mo ad X0 M (pc') ((lv.set (i : Nat) (some (rv (some a))))) (st)) : VR p l e R s m args below meth c D kA b nL (cells) (slots) (Q) mo ad X0 M (pc) (lv) (rv (some a) :: st) := fun X hR hS => V_astore_n C d hn hk (k X hR hS)
theorem R_lstore (C : Cx p l s m args meth c D kA b t0 nL own nm cc) {i : Nat} {z : Int} (d : DI cc pc (.lstore i) 2 pc') (hn : i + 1 < nL) (hk : okS lv i = true)
    (k : VR p l e R s m args below meth c D kA b nL (cells) (slots) (Q) mo ad X0 M (pc') ((lv.set i (some (lo z))).set (i + 1) none) (st)) : VR p l e R s m args below meth c D kA b nL (cells) (slots) (Q) mo ad X0 M (pc) (lv) (lo z :: st) := fun X hR hS => V_lstore C d hn hk (k X hR hS)
theorem R_lstore_n (C : Cx p l s m args meth c D kA b t0 nL own nm cc) {i : Fin 4} {z : Int} (d : DI cc pc (.lstore_n i) 1 pc') (hn : (i : Nat) + 1 < nL) (hk : okS lv (i : Nat) = true)
    (k : VR p l e R s m args below meth c D kA b nL (cells) (slots) (Q) mo ad X0 M (pc') ((lv.set (i : Nat) (some (lo z))).set ((i : Nat) + 1) none) (st)) : VR p l e R s m args below meth c D kA b nL (cells) (slots) (Q) mo ad X0 M (pc) (lv) (lo z :: st) := fun X hR hS => V_lstore_n C d hn hk (k X hR hS)
theorem R_iinc (C : Cx p l s m args meth c D kA b t0 nL own nm cc) {i : Nat} {n z : Int} (d : DI cc pc (.iinc i n) 3 pc') (hn : i < nL) (h : lv[i]? = some (some (iv z))) (hk : okS lv i = true)
    (k : VR p l e R s m args below meth c D kA b nL (cells) (slots) (Q) mo ad X0 M (pc') (lv.set i (some (iv (z + n)))) (st)) : VR p l e R s m args below meth c D kA b nL (cells) (slots) (Q) mo ad X0 M (pc) (lv) (st) := fun X hR hS => V_iinc C d hn h hk (k X hR hS)
theorem R_pop (C : Cx p l s m args meth c D kA b t0 nL own nm cc) {v : Value} (d : DI cc pc (.pop) 1 pc') (hv : v.category = 1)
    (k : VR p l e R s m args below meth c D kA b nL (cells) (slots) (Q) mo ad X0 M (pc') (lv) (st)) : VR p l e R s m args below meth c D kA b nL (cells) (slots) (Q) mo ad X0 M (pc) (lv) (v :: st) := fun X hR hS => V_pop C d hv (k X hR hS)
theorem R_dup (C : Cx p l s m args meth c D kA b t0 nL own nm cc) {v : Value} (d : DI cc pc (.dup) 1 pc') (hv : v.category = 1)
    (k : VR p l e R s m args below meth c D kA b nL (cells) (slots) (Q) mo ad X0 M (pc') (lv) (v :: v :: st)) : VR p l e R s m args below meth c D kA b nL (cells) (slots) (Q) mo ad X0 M (pc) (lv) (v :: st) := fun X hR hS => V_dup C d hv (k X hR hS)
theorem R_dup_x1 (C : Cx p l s m args meth c D kA b t0 nL own nm cc) {v w : Value} (d : DI cc pc (.dup_x1) 1 pc') (hv : v.category = 1) (hw : w.category = 1)
    (k : VR p l e R s m args below meth c D kA b nL (cells) (slots) (Q) mo ad X0 M (pc') (lv) (v :: w :: v :: st)) : VR p l e R s m args below meth c D kA b nL (cells) (slots) (Q) mo ad X0 M (pc) (lv) (v :: w :: st) := fun X hR hS => V_dup_x1 C d hv hw (k X hR hS)
theorem R_dup2 (C : Cx p l s m args meth c D kA b t0 nL own nm cc) {v w : Value} (d : DI cc pc (.dup2) 1 pc') (hv : v.category = 1) (hw : w.category = 1)
    (k : VR p l e R s m args below meth c D kA b nL (cells) (slots) (Q) mo ad X0 M (pc') (lv) (v :: w :: v :: w :: st)) : VR p l e R s m args below meth c D kA b nL (cells) (slots) (Q) mo ad X0 M (pc) (lv) (v :: w :: st) := fun X hR hS => V_dup2 C d hv hw (k X hR hS)
theorem R_iadd (C : Cx p l s m args meth c D kA b t0 nL own nm cc) {x y : Int} (d : DI cc pc (.iadd) 1 pc')
    (k : VR p l e R s m args below meth c D kA b nL (cells) (slots) (Q) mo ad X0 M (pc') (lv) (iv (x + y) :: st)) : VR p l e R s m args below meth c D kA b nL (cells) (slots) (Q) mo ad X0 M (pc) (lv) (iv y :: iv x :: st) := fun X hR hS => V_iadd C d (k X hR hS)
theorem R_isub (C : Cx p l s m args meth c D kA b t0 nL own nm cc) {x y : Int} (d : DI cc pc (.isub) 1 pc')
    (k : VR p l e R s m args below meth c D kA b nL (cells) (slots) (Q) mo ad X0 M (pc') (lv) (iv (x - y) :: st)) : VR p l e R s m args below meth c D kA b nL (cells) (slots) (Q) mo ad X0 M (pc) (lv) (iv y :: iv x :: st) := fun X hR hS => V_isub C d (k X hR hS)
theorem R_imul (C : Cx p l s m args meth c D kA b t0 nL own nm cc) {x y : Int} (d : DI cc pc (.imul) 1 pc')
    (k : VR p l e R s m args below meth c D kA b nL (cells) (slots) (Q) mo ad X0 M (pc') (lv) (iv (x * y) :: st)) : VR p l e R s m args below meth c D kA b nL (cells) (slots) (Q) mo ad X0 M (pc) (lv) (iv y :: iv x :: st) := fun X hR hS => V_imul C d (k X hR hS)
theorem R_ineg (C : Cx p l s m args meth c D kA b t0 nL own nm cc) {x : Int} (d : DI cc pc (.ineg) 1 pc')
    (k : VR p l e R s m args below meth c D kA b nL (cells) (slots) (Q) mo ad X0 M (pc') (lv) (iv (-x) :: st)) : VR p l e R s m args below meth c D kA b nL (cells) (slots) (Q) mo ad X0 M (pc) (lv) (iv x :: st) := fun X hR hS => V_ineg C d (k X hR hS)
theorem R_idiv (C : Cx p l s m args meth c D kA b t0 nL own nm cc) {x y : Int} (d : DI cc pc (.idiv) 1 pc') (hrx : rng x) (hry : rng y) (hy : y ≠ 0)
    (k : VR p l e R s m args below meth c D kA b nL (cells) (slots) (Q) mo ad X0 M (pc') (lv) (iv (x.tdiv y) :: st)) : VR p l e R s m args below meth c D kA b nL (cells) (slots) (Q) mo ad X0 M (pc) (lv) (iv y :: iv x :: st) := fun X hR hS => V_idiv C d hrx hry hy (k X hR hS)
theorem R_irem (C : Cx p l s m args meth c D kA b t0 nL own nm cc) {x y : Int} (d : DI cc pc (.irem) 1 pc') (hrx : rng x) (hry : rng y) (hy : y ≠ 0)
    (k : VR p l e R s m args below meth c D kA b nL (cells) (slots) (Q) mo ad X0 M (pc') (lv) (iv (x.tmod y) :: st)) : VR p l e R s m args below meth c D kA b nL (cells) (slots) (Q) mo ad X0 M (pc) (lv) (iv y :: iv x :: st) := fun X hR hS => V_irem C d hrx hry hy (k X hR hS)
theorem R_idivN (C : Cx p l s m args meth c D kA b t0 nL own nm cc) {x y : Int} (d : DI cc pc (.idiv) 1 pc') (hrx : rng x) (hry : rng y) (h0 : 0 ≤ x) (hy : 0 < y)
    (k : VR p l e R s m args below meth c D kA b nL (cells) (slots) (Q) mo ad X0 M (pc') (lv) (iv (x / y) :: st)) : VR p l e R s m args below meth c D kA b nL (cells) (slots) (Q) mo ad X0 M (pc) (lv) (iv y :: iv x :: st) := fun X hR hS => V_idivN C d hrx hry h0 hy (k X hR hS)
theorem R_iremN (C : Cx p l s m args meth c D kA b t0 nL own nm cc) {x y : Int} (d : DI cc pc (.irem) 1 pc') (hrx : rng x) (hry : rng y) (h0 : 0 ≤ x) (hy : 0 < y)
    (k : VR p l e R s m args below meth c D kA b nL (cells) (slots) (Q) mo ad X0 M (pc') (lv) (iv (x % y) :: st)) : VR p l e R s m args below meth c D kA b nL (cells) (slots) (Q) mo ad X0 M (pc) (lv) (iv y :: iv x :: st) := fun X hR hS => V_iremN C d hrx hry h0 hy (k X hR hS)
theorem R_ldivN (C : Cx p l s m args meth c D kA b t0 nL own nm cc) {x y : Int} (d : DI cc pc (.ldiv) 1 pc') (hrx : rngL x) (hry : rngL y) (h0 : 0 ≤ x) (hy : 0 < y)
    (k : VR p l e R s m args below meth c D kA b nL (cells) (slots) (Q) mo ad X0 M (pc') (lv) (lo (x / y) :: st)) : VR p l e R s m args below meth c D kA b nL (cells) (slots) (Q) mo ad X0 M (pc) (lv) (lo y :: lo x :: st) := fun X hR hS => V_ldivN C d hrx hry h0 hy (k X hR hS)
theorem R_ior (C : Cx p l s m args meth c D kA b t0 nL own nm cc) {x y : Int} (d : DI cc pc (.ior) 1 pc') (hx0 : x = 0 ∨ x = 1) (hy0 : y = 0 ∨ y = 1)
    (k : VR p l e R s m args below meth c D kA b nL (cells) (slots) (Q) mo ad X0 M (pc') (lv) (iv (if x = 0 then y else 1) :: st)) : VR p l e R s m args below meth c D kA b nL (cells) (slots) (Q) mo ad X0 M (pc) (lv) (iv y :: iv x :: st) := fun X hR hS => V_ior C d hx0 hy0 (k X hR hS)
theorem R_ladd (C : Cx p l s m args meth c D kA b t0 nL own nm cc) {x y : Int} (d : DI cc pc (.ladd) 1 pc')
    (k : VR p l e R s m args below meth c D kA b nL (cells) (slots) (Q) mo ad X0 M (pc') (lv) (lo (x + y) :: st)) : VR p l e R s m args below meth c D kA b nL (cells) (slots) (Q) mo ad X0 M (pc) (lv) (lo y :: lo x :: st) := fun X hR hS => V_ladd C d (k X hR hS)
theorem R_lmul (C : Cx p l s m args meth c D kA b t0 nL own nm cc) {x y : Int} (d : DI cc pc (.lmul) 1 pc')
    (k : VR p l e R s m args below meth c D kA b nL (cells) (slots) (Q) mo ad X0 M (pc') (lv) (lo (x * y) :: st)) : VR p l e R s m args below meth c D kA b nL (cells) (slots) (Q) mo ad X0 M (pc) (lv) (lo y :: lo x :: st) := fun X hR hS => V_lmul C d (k X hR hS)
theorem R_ldiv (C : Cx p l s m args meth c D kA b t0 nL own nm cc) {x y : Int} (d : DI cc pc (.ldiv) 1 pc') (hrx : rngL x) (hry : rngL y) (hy : y ≠ 0)
    (k : VR p l e R s m args below meth c D kA b nL (cells) (slots) (Q) mo ad X0 M (pc') (lv) (lo (x.tdiv y) :: st)) : VR p l e R s m args below meth c D kA b nL (cells) (slots) (Q) mo ad X0 M (pc) (lv) (lo y :: lo x :: st) := fun X hR hS => V_ldiv C d hrx hry hy (k X hR hS)
theorem R_i2l (C : Cx p l s m args meth c D kA b t0 nL own nm cc) {x : Int} (d : DI cc pc (.i2l) 1 pc') (hr : rng x)
    (k : VR p l e R s m args below meth c D kA b nL (cells) (slots) (Q) mo ad X0 M (pc') (lv) (lo x :: st)) : VR p l e R s m args below meth c D kA b nL (cells) (slots) (Q) mo ad X0 M (pc) (lv) (iv x :: st) := fun X hR hS => V_i2l C d hr (k X hR hS)
theorem R_l2i (C : Cx p l s m args meth c D kA b t0 nL own nm cc) {x : Int} (d : DI cc pc (.l2i) 1 pc')
    (k : VR p l e R s m args below meth c D kA b nL (cells) (slots) (Q) mo ad X0 M (pc') (lv) (iv x :: st)) : VR p l e R s m args below meth c D kA b nL (cells) (slots) (Q) mo ad X0 M (pc) (lv) (lo x :: st) := fun X hR hS => V_l2i C d (k X hR hS)
theorem R_lcmp (C : Cx p l s m args meth c D kA b t0 nL own nm cc) {x y : Int} (d : DI cc pc (.lcmp) 1 pc') (hrx : rngL x) (hry : rngL y)
    (k : VR p l e R s m args below meth c D kA b nL (cells) (slots) (Q) mo ad X0 M (pc') (lv) (iv (if y < x then 1 else if x = y then 0 else -1) :: st)) : VR p l e R s m args below meth c D kA b nL (cells) (slots) (Q) mo ad X0 M (pc) (lv) (lo y :: lo x :: st) := fun X hR hS => V_lcmp C d hrx hry (k X hR hS)
theorem R_if_eq (C : Cx p l s m args meth c D kA b t0 nL own nm cc) {x : Int} {off : Int} (d : DB cc pc (.ifCond .eq off) off 3 pc' tgt) (hr : rng x)
    (kt : x = 0 → VR p l e R s m args below meth c D kA b nL (cells) (slots) (Q) mo ad X0 M (tgt) (lv) (st)) (kf : x ≠ 0 → VR p l e R s m args below meth c D kA b nL (cells) (slots) (Q) mo ad X0 M (pc') (lv) (st)) : VR p l e R s m args below meth c D kA b nL (cells) (slots) (Q) mo ad X0 M (pc) (lv) (iv x :: st) := fun X hR hS => V_if_eq C d hr (fun h => kt h X hR hS) (fun h => kf h X hR hS)
theorem R_if_ne (C : Cx p l s m args meth c D kA b t0 nL own nm cc) {x : Int} {off : Int} (d : DB cc pc (.ifCond .ne off) off 3 pc' tgt) (hr : rng x)
    (kt : x ≠ 0 → VR p l e R s m args below meth c D kA b nL (cells) (slots) (Q) mo ad X0 M (tgt) (lv) (st)) (kf : x = 0 → VR p l e R s m args below meth c D kA b nL (cells) (slots) (Q) mo ad X0 M (pc') (lv) (st)) : VR p l e R s m args below meth c D kA b nL (cells) (slots) (Q) mo ad X0 M (pc) (lv) (iv x :: st) := fun X hR hS => V_if_ne C d hr (fun h => kt h X hR hS) (fun h => kf h X hR hS)
theorem R_if_lt (C : Cx p l s m args meth c D kA b t0 nL own nm cc) {x : Int} {off : Int} (d : DB cc pc (.ifCond .lt off) off 3 pc' tgt) (hr : rng x)
    (kt : x < 0 → VR p l e R s m args below meth c D kA b nL (cells) (slots) (Q) mo ad X0 M (tgt) (lv) (st)) (kf : 0 ≤ x → VR p l e R s m args below meth c D kA b nL (cells) (slots) (Q) mo ad X0 M (pc') (lv) (st)) : VR p l e R s m args below meth c D kA b nL (cells) (slots) (Q) mo ad X0 M (pc) (lv) (iv x :: st) := fun X hR hS => V_if_lt C d hr (fun h => kt h X hR hS) (fun h => kf h X hR hS)
theorem R_if_ge (C : Cx p l s m args meth c D kA b t0 nL own nm cc) {x : Int} {off : Int} (d : DB cc pc (.ifCond .ge off) off 3 pc' tgt) (hr : rng x)
    (kt : 0 ≤ x → VR p l e R s m args below meth c D kA b nL (cells) (slots) (Q) mo ad X0 M (tgt) (lv) (st)) (kf : x < 0 → VR p l e R s m args below meth c D kA b nL (cells) (slots) (Q) mo ad X0 M (pc') (lv) (st)) : VR p l e R s m args below meth c D kA b nL (cells) (slots) (Q) mo ad X0 M (pc) (lv) (iv x :: st) := fun X hR hS => V_if_ge C d hr (fun h => kt h X hR hS) (fun h => kf h X hR hS)
theorem R_if_gt (C : Cx p l s m args meth c D kA b t0 nL own nm cc) {x : Int} {off : Int} (d : DB cc pc (.ifCond .gt off) off 3 pc' tgt) (hr : rng x)
    (kt : 0 < x → VR p l e R s m args below meth c D kA b nL (cells) (slots) (Q) mo ad X0 M (tgt) (lv) (st)) (kf : x ≤ 0 → VR p l e R s m args below meth c D kA b nL (cells) (slots) (Q) mo ad X0 M (pc') (lv) (st)) : VR p l e R s m args below meth c D kA b nL (cells) (slots) (Q) mo ad X0 M (pc) (lv) (iv x :: st) := fun X hR hS => V_if_gt C d hr (fun h => kt h X hR hS) (fun h => kf h X hR hS)
theorem R_if_le (C : Cx p l s m args meth c D kA b t0 nL own nm cc) {x : Int} {off : Int} (d : DB cc pc (.ifCond .le off) off 3 pc' tgt) (hr : rng x)
    (kt : x ≤ 0 → VR p l e R s m args below meth c D kA b nL (cells) (slots) (Q) mo ad X0 M (tgt) (lv) (st)) (kf : 0 < x → VR p l e R s m args below meth c D kA b nL (cells) (slots) (Q) mo ad X0 M (pc') (lv) (st)) : VR p l e R s m args below meth c D kA b nL (cells) (slots) (Q) mo ad X0 M (pc) (lv) (iv x :: st) := fun X hR hS => V_if_le C d hr (fun h => kt h X hR hS) (fun h => kf h X hR hS)
theorem R_icmp_eq (C : Cx p l s m args meth c D kA b t0 nL own nm cc) {x y : Int} {off : Int} (d : DB cc pc (.if_icmp .eq off) off 3 pc' tgt) (hrx : rng x) (hry : rng y)
    (kt : x = y → VR p l e R s m args below meth c D kA b nL (cells) (slots) (Q) mo ad X0 M (tgt) (lv) (st)) (kf : x ≠ y → VR p l e R s m args below meth c D kA b nL (cells) (slots) (Q) mo ad X0 M (pc') (lv) (st)) : VR p l e R s m args below meth c D kA b nL (cells) (slots) (Q) mo ad X0 M (pc) (lv) (iv y :: iv x :: st) := fun X hR hS => V_icmp_eq C d hrx hry (fun h => kt h X hR hS) (fun h => kf h X hR hS)
theorem R_icmp_ne (C : Cx p l s m args meth c D kA b t0 nL own nm cc) {x y : Int} {off : Int} (d : DB cc pc (.if_icmp .ne off) off 3 pc' tgt) (hrx : rng x) (hry : rng y)
    (kt : x ≠ y → VR p l e R s m args below meth c D kA b nL (cells) (slots) (Q) mo ad X0 M (tgt) (lv) (st)) (kf : x = y → VR p l e R s m args below meth c D kA b nL (cells) (slots) (Q) mo ad X0 M (pc') (lv) (st)) : VR p l e R s m args below meth c D kA b nL (cells) (slots) (Q) mo ad X0 M (pc) (lv) (iv y :: iv x :: st) := fun X hR hS => V_icmp_ne C d hrx hry (fun h => kt h X hR hS) (fun h => kf h X hR hS)
theorem R_icmp_lt (C : Cx p l s m args meth c D kA b t0 nL own nm cc) {x y : Int} {off : Int} (d : DB cc pc (.if_icmp .lt off) off 3 pc' tgt) (hrx : rng x) (hry : rng y)
    (kt : x < y → VR p l e R s m args below meth c D kA b nL (cells) (slots) (Q) mo ad X0 M (tgt) (lv) (st)) (kf : y ≤ x → VR p l e R s m args below meth c D kA b nL (cells) (slots) (Q) mo ad X0 M (pc') (lv) (st)) : VR p l e R s m args below meth c D kA b nL (cells) (slots) (Q) mo ad X0 M (pc) (lv) (iv y :: iv x :: st) := fun X hR hS => V_icmp_lt C d hrx hry (fun h => kt h X hR hS) (fun h => kf h X hR hS)
theorem R_icmp_ge (C : Cx p l s m args meth c D kA b t0 nL own nm cc) {x y : Int} {off : Int} (d : DB cc pc (.if_icmp .ge off) off 3 pc' tgt) (hrx : rng x) (hry : rng y)
    (kt : y ≤ x → VR p l e R s m args below meth c D kA b nL (cells) (slots) (Q) mo ad X0 M (tgt) (lv) (st)) (kf : x < y → VR p l e R s m args below meth c D kA b nL (cells) (slots) (Q) mo ad X0 M (pc') (lv) (st)) : VR p l e R s m args below meth c D kA b nL (cells) (slots) (Q) mo ad X0 M (pc) (lv) (iv y :: iv x :: st) := fun X hR hS => V_icmp_ge C d hrx hry (fun h => kt h X hR hS) (fun h => kf h X hR hS)
theorem R_icmp_gt (C : Cx p l s m args meth c D kA b t0 nL own nm cc) {x y : Int} {off : Int} (d : DB cc pc (.if_icmp .gt off) off 3 pc' tgt) (hrx : rng x) (hry : rng y)
    (kt : y < x → VR p l e R s m args below meth c D kA b nL (cells) (slots) (Q) mo ad X0 M (tgt) (lv) (st)) (kf : x ≤ y → VR p l e R s m args below meth c D kA b nL (cells) (slots) (Q) mo ad X0 M (pc') (lv) (st)) : VR p l e R s m args below meth c D kA b nL (cells) (slots) (Q) mo ad X0 M (pc) (lv) (iv y :: iv x :: st) := fun X hR hS => V_icmp_gt C d hrx hry (fun h => kt h X hR hS) (fun h => kf h X hR hS)
theorem R_icmp_le (C : Cx p l s m args meth c D kA b t0 nL own nm cc) {x y : Int} {off : Int} (d : DB cc pc (.if_icmp .le off) off 3 pc' tgt) (hrx : rng x) (hry : rng y)
    (kt : x ≤ y → VR p l e R s m args below meth c D kA b nL (cells) (slots) (Q) mo ad X0 M (tgt) (lv) (st)) (kf : y < x → VR p l e R s m args below meth c D kA b nL (cells) (slots) (Q) mo ad X0 M (pc') (lv) (st)) : VR p l e R s m args below meth c D kA b nL (cells) (slots) (Q) mo ad X0 M (pc) (lv) (iv y :: iv x :: st) := fun X hR hS => V_icmp_le C d hrx hry (fun h => kt h X hR hS) (fun h => kf h X hR hS)
theorem R_acmp_eq (C : Cx p l s m args meth c D kA b t0 nL own nm cc) {x y : Option Nat} {off : Int} (d : DB cc pc (.if_acmp .eq off) off 3 pc' tgt)
    (kt : x = y → VR p l e R s m args below meth c D kA b nL (cells) (slots) (Q) mo ad X0 M (tgt) (lv) (st)) (kf : x ≠ y → VR p l e R s m args below meth c D kA b nL (cells) (slots) (Q) mo ad X0 M (pc') (lv) (st)) : VR p l e R s m args below meth c D kA b nL (cells) (slots) (Q) mo ad X0 M (pc) (lv) (rv y :: rv x :: st) := fun X hR hS => V_acmp_eq C d (fun h => kt h X hR hS) (fun h => kf h X hR hS)
theorem R_acmp_ne (C : Cx p l s m args meth c D kA b t0 nL own nm cc) {x y : Option Nat} {off : Int} (d : DB cc pc (.if_acmp .ne off) off 3 pc' tgt)
    (kt : x ≠ y → VR p l e R s m args below meth c D kA b nL (cells) (slots) (Q) mo ad X0 M (tgt) (lv) (st)) (kf : x = y → VR p l e R s m args below meth c D kA b nL (cells) (slots) (Q) mo ad X0 M (pc') (lv) (st)) : VR p l e R s m args below meth c D kA b nL (cells) (slots) (Q) mo ad X0 M (pc) (lv) (rv y :: rv x :: st) := fun X hR hS => V_acmp_ne C d (fun h => kt h X hR hS) (fun h => kf h X hR hS)
theorem R_ifnull (C : Cx p l s m args meth c D kA b t0 nL own nm cc) {x : Option Nat} {off : Int} (d : DB cc pc (.ifnull off) off 3 pc' tgt)
    (kt : x = none → VR p l e R s m args below meth c D kA b nL (cells) (slots) (Q) mo ad X0 M (tgt) (lv) (st)) (kf : x ≠ none → VR p l e R s m args below meth c D kA b nL (cells) (slots) (Q) mo ad X0 M (pc') (lv) (st)) : VR p l e R s m args below meth c D kA b nL (cells) (slots) (Q) mo ad X0 M (pc) (lv) (rv x :: st) := fun X hR hS => V_ifnull C d (fun h => kt h X hR hS) (fun h => kf h X hR hS)
theorem R_goto (C : Cx p l s m args meth c D kA b t0 nL own nm cc) {off : Int} (d : DB cc pc (.goto off) off 3 pc' tgt)
    (k : VR p l e R s m args below meth c D kA b nL (cells) (slots) (Q) mo ad X0 M (tgt) (lv) (st)) : VR p l e R s m args below meth c D kA b nL (cells) (slots) (Q) mo ad X0 M (pc) (lv) (st) := fun X hR hS => V_goto C d (k X hR hS)
theorem R_tin (C : Cx p l s m args meth c D kA b t0 nL own nm cc) {dflt lo9 hi9 : Int} {offs : Array Int} {len : Nat} {x off : Int} (d : DI cc pc (.tableswitch dflt lo9 hi9 offs) len pc') (hr : rng x) (h1 : lo9 ≤ x) (h2 : x ≤ hi9) (ho : offs[(x - lo9).toNat]? = some off) (ht : (pc : Int) + off = (tgt : Int))
    (k : VR p l e R s m args below meth c D kA b nL (cells) (slots) (Q) mo ad X0 M (tgt) (lv) (st)) : VR p l e R s m args below meth c D kA b nL (cells) (slots) (Q) mo ad X0 M (pc) (lv) (iv x :: st) := fun X hR hS => V_tin C d hr h1 h2 ho ht (k X hR hS)
theorem R_tout (C : Cx p l s m args meth c D kA b t0 nL own nm cc) {dflt lo9 hi9 : Int} {offs : Array Int} {len : Nat} {x : Int} (d : DI cc pc (.tableswitch dflt lo9 hi9 offs) len pc') (hr : rng x) (h1 : x < lo9 ∨ hi9 < x) (ht : (pc : Int) + dflt = (tgt : Int))
    (k : VR p l e R s m args below meth c D kA b nL (cells) (slots) (Q) mo ad X0 M (tgt) (lv) (st)) : VR p l e R s m args below meth c D kA b nL (cells) (slots) (Q) mo ad X0 M (pc) (lv) (iv x :: st) := fun X hR hS => V_tout C d hr h1 ht (k X hR hS)
theorem R_getS (C : Cx p l s m args meth c D kA b t0 nL own nm cc) {kf f idx : Nat} (cl : CL 11 RX10 TX10 50 tyX10) (fd : FD own idx 11 TX10 50 kf f false) {x : Int} (hx : M.1 kf = x) (hz : adK kf = 0) (d : DI cc pc (.getfield idx) 3 pc') (k : VR p l e R s m args below meth c D kA b nL (cells) (slots) (Q) mo ad X0 M (pc') (lv) (iv x :: st)) : VR p l e R s m args below meth c D kA b nL (cells) (slots) (Q) mo ad X0 M (pc) (lv) (rv (some mo) :: st) := by
  intro X hR hS
  have e := fd.2.1
  subst e
  refine V_getI C cl fd hR.1 d ?_
  rw [show gI X (64 * 11 + kf) mo = M.1 kf from hR.2.2.2.1 kf hz, hx]
  exact k X hR hS
theorem R_getA (C : Cx p l s m args meth c D kA b t0 nL own nm cc) {kf f idx : Nat} (cl : CL 11 RX10 TX10 50 tyX10) (fd : FD own idx 11 TX10 50 kf f true) (hz : adK kf ≠ 0) (d : DI cc pc (.getfield idx) 3 pc') (k : VR p l e R s m args below meth c D kA b nL (cells) (slots) (Q) mo ad X0 M (pc') (lv) (rv (some (ad kf)) :: st)) : VR p l e R s m args below meth c D kA b nL (cells) (slots) (Q) mo ad X0 M (pc) (lv) (rv (some mo) :: st) := by
  intro X hR hS
  have e := fd.2.1
  subst e
  exact V_getP C cl fd hR.1 (hR.2.1 kf hz).1 d (k X hR hS)
theorem R_putS (C : Cx p l s m args meth c D kA b t0 nL own nm cc) {kf f idx : Nat} {z : Int} (cl : CL 11 RX10 TX10 50 tyX10) (fd : FD own idx 11 TX10 50 kf f false) (hfin : (TX10 kf).2.2.2 = false) (hz : adK kf = 0) (ht : tyX10 kf = .int) (d : DI cc pc (.putfield idx) 3 pc') (k : VR p l e R s m args below meth c D kA b nL (cells) (slots) (Q) mo ad X0 (setS M kf z) (pc') (lv) (st)) : VR p l e R s m args below meth c D kA b nL (cells) (slots) (Q) mo ad X0 M (pc) (lv) (iv z :: rv (some mo) :: st) := by
  intro X hR hS
  have e := fd.2.1
  subst e
  refine V_putI C cl fd (Or.inl hfin) ht hR.1 d ?_
  exact k _ (RR_setS hR hz) (fun a ha => (hS a ha).tr (eqc_sI (fun e => ha (Or.inl e))))
theorem adN_le (k : Nat) : adN k ≤ 2147483647 := by
  unfold adN
  rcases Nat.lt_or_ge k 50 with h | h
  · have hd : ∀ k, k < 50 → adNL.getD k 0 ≤ 2147483647 := by decide +kernel
    exact hd k h
  · rw [List.getD_eq_getElem?_getD, List.getElem?_eq_none (by show 50 ≤ k; exact h)]
    exact Nat.zero_le _
theorem R_iald (C : Cx p l s m args meth c D kA b t0 nL own nm cc) {j kf : Nat} {z : Int} (hk : adK kf = 20) (hj : j < adN kf) (hz : z = (j : Int)) {x : Int} (hx : M.2 kf j = x) (d : DI cc pc (.iaload) 1 pc') (k : VR p l e R s m args below meth c D kA b nL (cells) (slots) (Q) mo ad X0 M (pc') (lv) (iv x :: st)) : VR p l e R s m args below meth c D kA b nL (cells) (slots) (Q) mo ad X0 M (pc) (lv) (iv z :: rv (some (ad kf)) :: st) := by
  intro X hR hS
  have hk0 : adK kf ≠ 0 := by omega
  have hn : adN kf ≤ 2147483647 := adN_le kf
  refine V_iald C (j := j) ((hR.2.1 kf hk0).2.1.trans hk) (hR.2.1 kf hk0).2.2 hj hn hz d ?_
  rw [hR.2.2.2.2 kf j hk0, hx]
  exact k X hR hS
theorem R_zald (C : Cx p l s m args meth c D kA b t0 nL own nm cc) {j kf : Nat} {z : Int} (hk : adK kf = 21) (hj : j < adN kf) (hz : z = (j : Int)) {x : Int} (hx : M.2 kf j = x) (d : DI cc pc (.baload) 1 pc') (k : VR p l e R s m args below meth c D kA b nL (cells) (slots) (Q) mo ad X0 M (pc') (lv) (iv x :: st)) : VR p l e R s m args below meth c D kA b nL (cells) (slots) (Q) mo ad X0 M (pc) (lv) (iv z :: rv (some (ad kf)) :: st) := by
  intro X hR hS
  have hk0 : adK kf ≠ 0 := by omega
  have hn : adN kf ≤ 2147483647 := adN_le kf
  refine V_zald C (j := j) ((hR.2.1 kf hk0).2.1.trans hk) (hR.2.1 kf hk0).2.2 hj hn hz d ?_
  rw [hR.2.2.2.2 kf j hk0, hx]
  exact k X hR hS
theorem R_iast (C : Cx p l s m args meth c D kA b t0 nL own nm cc) {j kf : Nat} {z x : Int} (hk : adK kf = 20) (hj : j < adN kf) (hz : z = (j : Int)) (d : DI cc pc (.iastore) 1 pc') (k : VR p l e R s m args below meth c D kA b nL (cells) (slots) (Q) mo ad X0 (setA M kf j x) (pc') (lv) (st)) : VR p l e R s m args below meth c D kA b nL (cells) (slots) (Q) mo ad X0 M (pc) (lv) (iv x :: iv z :: rv (some (ad kf)) :: st) := by
  intro X hR hS
  have hk0 : adK kf ≠ 0 := by omega
  have hn : adN kf ≤ 2147483647 := adN_le kf
  refine V_iast C (j := j) ((hR.2.1 kf hk0).2.1.trans hk) (hR.2.1 kf hk0).2.2 hj hn hz d ?_
  exact k _ (RR_setA hR hk0) (fun a ha => (hS a ha).tr (eqc_sA (fun e => ha (Or.inr ⟨kf, hk0, e⟩))))
theorem R_zast (C : Cx p l s m args meth c D kA b t0 nL own nm cc) {j kf : Nat} {z x : Int} (hk : adK kf = 21) (hj : j < adN kf) (hz : z = (j : Int)) (hx0 : x = 0 ∨ x = 1) (d : DI cc pc (.bastore) 1 pc') (k : VR p l e R s m args below meth c D kA b nL (cells) (slots) (Q) mo ad X0 (setA M kf j x) (pc') (lv) (st)) : VR p l e R s m args below meth c D kA b nL (cells) (slots) (Q) mo ad X0 M (pc) (lv) (iv x :: iv z :: rv (some (ad kf)) :: st) := by
  intro X hR hS
  have hk0 : adK kf ≠ 0 := by omega
  have hn : adN kf ≤ 2147483647 := adN_le kf
  refine V_zast C (j := j) ((hR.2.1 kf hk0).2.1.trans hk) (hR.2.1 kf hk0).2.2 hj hn hz hx0 d ?_
  exact k _ (RR_setA hR hk0) (fun a ha => (hS a ha).tr (eqc_sA (fun e => ha (Or.inr ⟨kf, hk0, e⟩))))
variable {y : MethodName} {cy : ByteArray} {n fr lc : Nat} {ret : Option FieldType} {post : Option Value → Mo → Prop}
theorem Cr_mk {av : List Value} (hl : l.stackTraces = false) (hy : plainName y.cls = true) (hn : av.length ≤ n) (hc : av.all (fun v => v.category == 1) = true)
    (body : ∀ (X0 : Mm) (p : Program) (e : Env) (s : State) (m : MethodId) (args : Array Value) (below : List Frame) (meth : Method) (c : Code), Cx p l s m args meth c D kA b t0 n y.cls y.name cy → meth.sig.returnType = ret → VR p l e { frames := fr, cells := 0, slots := 0, locals := lc } s m args below meth c D kA b n 0 0 (vx_MQ below (Qk D kA b (fun v Y => ∃ M2 : Mo, post v M2 ∧ RR mo ad Y M2 ∧ ∀ a, ¬ inR mo ad a → eqc X0 Y a)) (Xk D kA b (fun _ _ => False)) args s 0 0 (Ab b)) mo ad X0 M 0 (av.map some ++ List.replicate (n - av.length) none) []) : Cr l D kA b t0 mo ad y cy n ret fr lc av M post :=
  fun X0 hR => Ct_mk hl hy hn hc (fun p e s m args below meth c C hr _ => body X0 p e s m args below meth c C hr X0 hR (fun a _ => eqc.rf X0 a))
theorem R_iret (C : Cx p l s m args meth c D kA b t0 nL own nm cc) {z : Int} (hp : post (some (iv z)) M) (hr : meth.sig.returnType = some .int) (d : DI cc pc .ireturn 1 pc') : VR p l e R s m args below meth c D kA b nL (0) (0) ((vx_MQ below (Qk D kA b (fun v Y => ∃ M2 : Mo, post v M2 ∧ RR mo ad Y M2 ∧ ∀ a, ¬ inR mo ad a → eqc X0 Y a)) (Xk D kA b (fun _ _ => False)) args s 0 0 (Ab b))) mo ad X0 M (pc) (lv) (iv z :: []) := fun X hR hS => V_iret C (Nat.le_refl 0) (Nat.le_refl 0) ⟨M, hp, hR, hS⟩ hr d
theorem R_zret (C : Cx p l s m args meth c D kA b t0 nL own nm cc) {z : Int} (hp : post (some (iv z)) M) (hr : meth.sig.returnType = some .boolean) (hz : z = 0 ∨ z = 1) (d : DI cc pc .ireturn 1 pc') : VR p l e R s m args below meth c D kA b nL (0) (0) ((vx_MQ below (Qk D kA b (fun v Y => ∃ M2 : Mo, post v M2 ∧ RR mo ad Y M2 ∧ ∀ a, ¬ inR mo ad a → eqc X0 Y a)) (Xk D kA b (fun _ _ => False)) args s 0 0 (Ab b))) mo ad X0 M (pc) (lv) (iv z :: []) := fun X hR hS => V_zret C (Nat.le_refl 0) (Nat.le_refl 0) ⟨M, hp, hR, hS⟩ hr hz d
theorem R_vret (C : Cx p l s m args meth c D kA b t0 nL own nm cc)  (hp : post none M) (hr : meth.sig.returnType = none) (d : DI cc pc .return_ 1 pc') : VR p l e R s m args below meth c D kA b nL (0) (0) ((vx_MQ below (Qk D kA b (fun v Y => ∃ M2 : Mo, post v M2 ∧ RR mo ad Y M2 ∧ ∀ a, ¬ inR mo ad a → eqc X0 Y a)) (Xk D kA b (fun _ _ => False)) args s 0 0 (Ab b))) mo ad X0 M (pc) (lv) ([]) := fun X hR hS => V_vret C (Nat.le_refl 0) (Nat.le_refl 0) ⟨M, hp, hR, hS⟩ hr d
theorem R_callV (C : Cx p l s m args meth c D kA b t0 nL own nm cc) {st0 As : List Value} {k idx : Nat} (hM : Cr l D kA b t0 mo ad y cy n ret fr lc (rv (some mo) :: As) M post) (kv : KV own idx 11 y cy n ret k) (hst0 : st0 = As.reverse ++ rv (some mo) :: st) (hn : As.length = k) (hcat : (st.map fun v => v.category).sum ≤ 8) (hR9 : fr + 1 ≤ R.frames ∧ 8 + (n + 11) + lc ≤ R.locals) (hf : cells ≤ R.cells ∧ slots ≤ R.slots)
    (d : DI cc pc (.invokevirtual idx) 3 pc') (kk : ∀ (v : Option Value) (M2 : Mo), post v M2 → VR p l e R s m args below meth c D kA b nL (cells) (slots) (Q) mo ad X0 M2 (pc') (lv) (v.toList ++ st)) : VR p l e R s m args below meth c D kA b nL (cells) (slots) (Q) mo ad X0 M (pc) (lv) (st0) := by
  intro X hR hS
  exact V_callV C (hM X hR) kv hR.1 hst0 hn hcat hR9 hf d (fun _ _ h => h.elim) (fun v Y hp => by
    obtain ⟨M2, h1, h2, h3⟩ := hp
    exact kk v M2 h1 Y h2 (fun a ha => (hS a ha).tr (h3 a ha)))
theorem R_callS (C : Cx p l s m args meth c D kA b t0 nL own nm cc) {st0 As : List Value} {k idx : Nat} (hM : Cr l D kA b t0 mo ad y cy n ret fr lc (As) M post) (kv : KS own idx y cy n ret k) (hst0 : st0 = As.reverse ++ st) (hn : As.length = k) (hcat : (st.map fun v => v.category).sum ≤ 8) (hR9 : fr + 1 ≤ R.frames ∧ 8 + (n + 11) + lc ≤ R.locals) (hf : cells ≤ R.cells ∧ slots ≤ R.slots)
    (d : DI cc pc (.invokestatic idx) 3 pc') (kk : ∀ (v : Option Value) (M2 : Mo), post v M2 → VR p l e R s m args below meth c D kA b nL (cells) (slots) (Q) mo ad X0 M2 (pc') (lv) (v.toList ++ st)) : VR p l e R s m args below meth c D kA b nL (cells) (slots) (Q) mo ad X0 M (pc) (lv) (st0) := by
  intro X hR hS
  exact V_callS C (hM X hR) kv hst0 hn hcat hR9 hf d (fun _ _ h => h.elim) (fun v Y hp => by
    obtain ⟨M2, h1, h2, h3⟩ := hp
    exact kk v M2 h1 Y h2 (fun a ha => (hS a ha).tr (h3 a ha)))
theorem R_callVi (C : Cx p l s m args meth c D kA b t0 nL own nm cc) {st0 As : List Value} {k idx : Nat} {M3 : Mo} {r : Int} (hM : Cr l D kA b t0 mo ad y cy n ret fr lc (rv (some mo) :: As) M (fun v M2 => M2 = M3 ∧ v = some (iv r))) (kv : KV own idx 11 y cy n ret k) (hst0 : st0 = As.reverse ++ rv (some mo) :: st) (hn : As.length = k) (hcat : (st.map fun v => v.category).sum ≤ 8) (hR9 : fr + 1 ≤ R.frames ∧ 8 + (n + 11) + lc ≤ R.locals) (hf : cells ≤ R.cells ∧ slots ≤ R.slots)
    (d : DI cc pc (.invokevirtual idx) 3 pc') (kk : VR p l e R s m args below meth c D kA b nL (cells) (slots) (Q) mo ad X0 M3 (pc') (lv) (iv r :: st)) : VR p l e R s m args below meth c D kA b nL (cells) (slots) (Q) mo ad X0 M (pc) (lv) (st0) := R_callV C hM kv hst0 hn hcat hR9 hf d (fun v M2 hp => by
    obtain ⟨rfl, rfl⟩ := hp
    exact kk)
theorem R_callSi (C : Cx p l s m args meth c D kA b t0 nL own nm cc) {st0 As : List Value} {k idx : Nat} {M3 : Mo} {r : Int} (hM : Cr l D kA b t0 mo ad y cy n ret fr lc (As) M (fun v M2 => M2 = M3 ∧ v = some (iv r))) (kv : KS own idx y cy n ret k) (hst0 : st0 = As.reverse ++ st) (hn : As.length = k) (hcat : (st.map fun v => v.category).sum ≤ 8) (hR9 : fr + 1 ≤ R.frames ∧ 8 + (n + 11) + lc ≤ R.locals) (hf : cells ≤ R.cells ∧ slots ≤ R.slots)
    (d : DI cc pc (.invokestatic idx) 3 pc') (kk : VR p l e R s m args below meth c D kA b nL (cells) (slots) (Q) mo ad X0 M3 (pc') (lv) (iv r :: st)) : VR p l e R s m args below meth c D kA b nL (cells) (slots) (Q) mo ad X0 M (pc) (lv) (st0) := R_callS C hM kv hst0 hn hcat hR9 hf d (fun v M2 hp => by
    obtain ⟨rfl, rfl⟩ := hp
    exact kk)
theorem R_callVv (C : Cx p l s m args meth c D kA b t0 nL own nm cc) {st0 As : List Value} {k idx : Nat} {M3 : Mo} (hM : Cr l D kA b t0 mo ad y cy n ret fr lc (rv (some mo) :: As) M (fun v M2 => M2 = M3 ∧ v = none)) (kv : KV own idx 11 y cy n ret k) (hst0 : st0 = As.reverse ++ rv (some mo) :: st) (hn : As.length = k) (hcat : (st.map fun v => v.category).sum ≤ 8) (hR9 : fr + 1 ≤ R.frames ∧ 8 + (n + 11) + lc ≤ R.locals) (hf : cells ≤ R.cells ∧ slots ≤ R.slots)
    (d : DI cc pc (.invokevirtual idx) 3 pc') (kk : VR p l e R s m args below meth c D kA b nL (cells) (slots) (Q) mo ad X0 M3 (pc') (lv) (st)) : VR p l e R s m args below meth c D kA b nL (cells) (slots) (Q) mo ad X0 M (pc) (lv) (st0) := R_callV C hM kv hst0 hn hcat hR9 hf d (fun v M2 hp => by
    obtain ⟨rfl, rfl⟩ := hp
    exact kk)
theorem R_callVz (C : Cx p l s m args meth c D kA b t0 nL own nm cc) {st0 As : List Value} {k idx : Nat} {M3 : Mo} {Cd : Prop} (hM : Cr l D kA b t0 mo ad y cy n ret fr lc (rv (some mo) :: As) M (fun v M2 => M2 = M3 ∧ ∃ z : Int, v = some (iv z) ∧ ((z = 1 ∧ Cd) ∨ (z = 0 ∧ ¬ Cd)))) (kv : KV own idx 11 y cy n ret k) (hst0 : st0 = As.reverse ++ rv (some mo) :: st) (hn : As.length = k) (hcat : (st.map fun v => v.category).sum ≤ 8) (hR9 : fr + 1 ≤ R.frames ∧ 8 + (n + 11) + lc ≤ R.locals) (hf : cells ≤ R.cells ∧ slots ≤ R.slots)
    (d : DI cc pc (.invokevirtual idx) 3 pc') (kk : ∀ z : Int, (z = 1 ∧ Cd) ∨ (z = 0 ∧ ¬ Cd) → VR p l e R s m args below meth c D kA b nL (cells) (slots) (Q) mo ad X0 M3 (pc') (lv) (iv z :: st)) : VR p l e R s m args below meth c D kA b nL (cells) (slots) (Q) mo ad X0 M (pc) (lv) (st0) := R_callV C hM kv hst0 hn hcat hR9 hf d (fun v M2 hp => by
    obtain ⟨rfl, z, rfl, hz⟩ := hp
    exact kk z hz)
theorem R_callSz (C : Cx p l s m args meth c D kA b t0 nL own nm cc) {st0 As : List Value} {k idx : Nat} {M3 : Mo} {Cd : Prop} (hM : Cr l D kA b t0 mo ad y cy n ret fr lc (As) M (fun v M2 => M2 = M3 ∧ ∃ z : Int, v = some (iv z) ∧ ((z = 1 ∧ Cd) ∨ (z = 0 ∧ ¬ Cd)))) (kv : KS own idx y cy n ret k) (hst0 : st0 = As.reverse ++ st) (hn : As.length = k) (hcat : (st.map fun v => v.category).sum ≤ 8) (hR9 : fr + 1 ≤ R.frames ∧ 8 + (n + 11) + lc ≤ R.locals) (hf : cells ≤ R.cells ∧ slots ≤ R.slots)
    (d : DI cc pc (.invokestatic idx) 3 pc') (kk : ∀ z : Int, (z = 1 ∧ Cd) ∨ (z = 0 ∧ ¬ Cd) → VR p l e R s m args below meth c D kA b nL (cells) (slots) (Q) mo ad X0 M3 (pc') (lv) (iv z :: st)) : VR p l e R s m args below meth c D kA b nL (cells) (slots) (Q) mo ad X0 M (pc) (lv) (st0) := R_callS C hM kv hst0 hn hcat hR9 hf d (fun v M2 hp => by
    obtain ⟨rfl, z, rfl, hz⟩ := hp
    exact kk z hz)
theorem R_join (C : Cx p l s m args meth c D kA b t0 nL own nm cc) {P : Int → Prop} {pcm : Nat} (k1 : (∀ z : Int, P z → VR p l e R s m args below meth c D kA b nL (cells) (slots) (Q) mo ad X0 M (pcm) (lv) (iv z :: st)) → VR p l e R s m args below meth c D kA b nL (cells) (slots) (Q) mo ad X0 M (pc) (lv) (st)) (k2 : ∀ z : Int, P z → VR p l e R s m args below meth c D kA b nL (cells) (slots) (Q) mo ad X0 M (pcm) (lv) (iv z :: st)) : VR p l e R s m args below meth c D kA b nL (cells) (slots) (Q) mo ad X0 M (pc) (lv) (st) := k1 k2
theorem R_joinP (C : Cx p l s m args meth c D kA b t0 nL own nm cc) {P : Int → Prop} {pcm : Nat} {x : Value} (k1 : (∀ z : Int, P z → VR p l e R s m args below meth c D kA b nL (cells) (slots) (Q) mo ad X0 M (pcm) (lv) (iv z :: st)) → VR p l e R s m args below meth c D kA b nL (cells) (slots) (Q) mo ad X0 M (pc) (lv) (x :: st)) (k2 : ∀ z : Int, P z → VR p l e R s m args below meth c D kA b nL (cells) (slots) (Q) mo ad X0 M (pcm) (lv) (iv z :: st)) : VR p l e R s m args below meth c D kA b nL (cells) (slots) (Q) mo ad X0 M (pc) (lv) (x :: st) := k1 k2
theorem R_cond (C : Cx p l s m args meth c D kA b t0 nL own nm cc) {P : Prop} {pt pf : Nat} (k1 : (P → VR p l e R s m args below meth c D kA b nL (cells) (slots) (Q) mo ad X0 M (pt) (lv) (st)) → (¬ P → VR p l e R s m args below meth c D kA b nL (cells) (slots) (Q) mo ad X0 M (pf) (lv) (st)) → VR p l e R s m args below meth c D kA b nL (cells) (slots) (Q) mo ad X0 M (pc) (lv) (st)) (kt : P → VR p l e R s m args below meth c D kA b nL (cells) (slots) (Q) mo ad X0 M (pt) (lv) (st)) (kf : ¬ P → VR p l e R s m args below meth c D kA b nL (cells) (slots) (Q) mo ad X0 M (pf) (lv) (st)) : VR p l e R s m args below meth c D kA b nL (cells) (slots) (Q) mo ad X0 M (pc) (lv) (st) := k1 kt kf
theorem R_while (C : Cx p l s m args meth c D kA b t0 nL own nm cc) {St : Type} (f : St → Mo) (g : St → List (Option Value)) (μ : St → Nat) (I : St → Prop) (x0 : St) (hM : f x0 = M) (hlv : g x0 = lv) (h0 : I x0) (step : ∀ x, I x → (∀ y, I y → μ y < μ x → VR p l e R s m args below meth c D kA b nL (cells) (slots) (Q) mo ad X0 (f y) (pc) ((g y)) (st)) → VR p l e R s m args below meth c D kA b nL (cells) (slots) (Q) mo ad X0 (f x) (pc) ((g x)) (st)) : VR p l e R s m args below meth c D kA b nL (cells) (slots) (Q) mo ad X0 M (pc) (lv) (st) := by
  subst hM hlv
  have key : ∀ (n : Nat) (x : St), μ x ≤ n → I x → VR p l e R s m args below meth c D kA b nL (cells) (slots) (Q) mo ad X0 (f x) (pc) ((g x)) (st) := by
    intro n
    induction n with
    | zero => exact fun x hx hI => step x hI (fun y _ hy => by omega)
    | succ n ih => exact fun x hx hI => step x hI (fun y hIy hy => ih y (by omega) hIy)
  exact key _ x0 (Nat.le_refl _) h0
theorem ivc {a b : Int} (h : a = b) : some (iv a) = some (iv b) := by rw [h]
end VR
