/-! the walk over the memory: V says that the machine comes to its end from here, in every heap that holds the memory X -/
def tysA (kA : Nat → ClassId) : List (ClassId × FieldType) := [(kA 0, .int), (kA 1, .int), (kA 2, .int), (kA 3, .object "java/lang/Object")]
theorem NW_warm {s U : State} (hW : s.WarmedH U.vm) (h : ∀ w ∈ NW, va_Nw w s) : ∀ w ∈ NW, va_Nw w U := by
  intro w hw
  have h1 := h w hw
  rcases List.mem_append.mp hw with h2 | h2
  · obtain ⟨x, -, rfl⟩ := List.mem_map.mp h2
    exact va_Nw.warmD hW h1
  · rcases List.mem_append.mp h2 with h2 | h2
    · obtain ⟨x, -, rfl⟩ := List.mem_map.mp h2
      exact va_Nw.warmC hW h1
    · obtain ⟨x, -, rfl⟩ := List.mem_map.mp h2
      exact va_Nw.warmM hW h1
theorem NW_on : ∀ w ∈ NW, w.onTables = true := by
  intro w hw
  rcases List.mem_append.mp hw with h2 | h2
  · obtain ⟨x, -, rfl⟩ := List.mem_map.mp h2
    rfl
  · rcases List.mem_append.mp h2 with h2 | h2
    · obtain ⟨x, -, rfl⟩ := List.mem_map.mp h2
      rfl
    · obtain ⟨x, -, rfl⟩ := List.mem_map.mp h2
      rfl
/-- what the start gives of cells that nobody here changes -/
def FX (b t0 : Nat) (U : State) (H : Heap) : Prop :=
  (vx_Zq Bundle.tN "UNASSIGNED_STACK" Bundle.steD (Ab b) U H ∧ vx_Zq Bundle.tN "SUPPRESSED_SENTINEL" Bundle.listD (Ab b) U H ∧ va_Z "java/util/ArrayList" "DEFAULTCAPACITY_EMPTY_ELEMENTDATA" "[Ljava/lang/Object;" (.ref t0) (Ab b) U H) ∧ (∃ mi, va_Mi "[Ljava/lang/Object;" mi U) ∧ va_Dc U ∧ (∀ q ∈ strC, ∃ sa, vk_R q.1 q.2.1 q.2.2 sa U) ∧ True ∧ True ∧ True ∧ (∀ w ∈ NW, va_Nw w U) ∧ va_AO "java/lang/Object" U
theorem FX.warm {b t0 : Nat} {s U : State} {H : Heap} (hW : s.WarmedH U.vm) (h : FX b t0 s H) : FX b t0 U H := by
  obtain ⟨⟨h1, h2, h3⟩, ⟨mi, h4⟩, h5, h6, h7, h8, h9, h10, h11⟩ := h
  exact ⟨⟨h1.moved hW.alike, h2.moved hW.alike, h3.moved hW.alike⟩, ⟨mi, h4.moved hW.alike⟩, h5.moved hW.alike, fun q hq => by obtain ⟨sa, h⟩ := h6 q hq; exact ⟨sa, h.warm hW⟩, trivial, trivial, trivial, NW_warm hW h10, h11.moved hW.alike⟩
theorem FX.calling {b t0 : Nat} {U : State} {H : Heap} (g : JFrame) (mk : MethodId) (a : Array Value) (h : FX b t0 U H) : FX b t0 (U.calling g mk a) H := by
  obtain ⟨⟨h1, h2, h3⟩, ⟨mi, h4⟩, h5, h6, h7, h8, h9, h10, h11⟩ := h
  have r : U.vm.Alike (U.calling g mk a).vm := Vm.Alike.refl U.vm
  exact ⟨⟨h1.moved r, h2.moved r, h3.moved r⟩, ⟨mi, h4.moved r⟩, h5.moved r, fun q hq => by obtain ⟨sa, h⟩ := h6 q hq; exact ⟨sa, vk_R.same rfl h⟩, trivial, trivial, trivial, fun w hw => va_Nw.same (u := U) (U := U.calling g mk a) (NW_on w hw) rfl (h10 w hw), h11.moved r⟩
theorem FX.kept {b t0 : Nat} {U : State} {H H1 : Heap} (h : FX b t0 U H) (hq : ∀ a : Nat, a < H.size → ¬ Ab b a → H1[a]? = H[a]?) : FX b t0 U H1 := by
  obtain ⟨⟨h1, h2, h3⟩, h4⟩ := h
  exact ⟨⟨h1.kept hq, h2.kept hq, h3.kept hq⟩, h4⟩
/-- a method's start -/
def Pw (D : va_G) (kA : Nat → ClassId) (b t0 : Nat) (X : Mm) (U : State) : Prop := wd D kA b X U.heap ∧ va_K D vwCl (tysA kA) U ∧ FX b t0 U U.heap ∧ b ≤ U.heap.size
/-- its end, and its end by an exception of the class E -/
def Qk (D : va_G) (kA : Nat → ClassId) (b : Nat) (post : Option Value → Mm → Prop) : Array Value → State → Outcome → State → Prop := fun _ st o t => (∃ (v : Option Value) (Y : Mm), o = .returned v ∧ post v Y ∧ wd D kA b Y t.heap) ∧ va_F (Ab b) st t
def Xk (D : va_G) (kA : Nat → ClassId) (b : Nat) (px : String → Mm → Prop) : String → State → State → Prop := fun E st t => (∃ Y : Mm, px E Y ∧ wd D kA b Y t.heap) ∧ va_F (Ab b) st t
/-- the contract of the method y (code cc, n locals, answer of type ret), in the memory X with the arguments av: at most mc cells of ms slots are made, post holds of answer and memory, or px of the exception's class and the memory -/
def Ct (l : Launch) (D : va_G) (kA : Nat → ClassId) (b t0 : Nat) (y : MethodName) (cc : ByteArray) (n : Nat) (ret : Option FieldType) (fr lc : Nat) (av : List Value) (X : Mm) (mc ms : Nat) (post : Option Value → Mm → Prop) (px : String → Mm → Prop) : Prop :=
  vx_Met l y (.code y cc n ret :: TBL) { frames := fr, cells := mc, slots := ms, locals := lc } (va_Pc av (Pw D kA b t0 X)) (Qk D kA b post) (Xk D kA b px) mc ms (Ab b)
/-- the locals -/
def lvO (ls : Array Slot) (nL : Nat) (lv : List (Option Value)) : Prop := ls.size = nL ∧ lv_wf ls ∧ ∀ (i : Nat) (v : Value), lv[i]? = some (some v) → ls[i]? = some (.val v)
def asc (lv : List (Option Value)) : List (Nat × Value) := lv.zipIdx.filterMap fun q => q.1.map fun v => (q.2, v)
theorem asc_mem {lv : List (Option Value)} {i : Nat} {v : Value} : (i, v) ∈ asc lv ↔ lv[i]? = some (some v) := by
  unfold asc
  rw [List.mem_filterMap]
  constructor
  · rintro ⟨⟨o, j⟩, hm, h⟩
    have := List.mem_zipIdx_iff_getElem?.mp hm
    cases o with
    | none => cases h
    | some w => cases h; exact this
  · intro h
    exact ⟨(some v, i), List.mem_zipIdx_iff_getElem?.mpr h, rfl⟩
theorem lvO.has {ls : Array Slot} {nL : Nat} {lv : List (Option Value)} (h : lvO ls nL lv) : lv_has ls nL (asc lv) := ⟨h.1, h.2.1, fun q hq => h.2.2 q.1 q.2 (asc_mem.mp hq)⟩
def okS (lv : List (Option Value)) (i : Nat) : Bool := match i with
  | 0 => true
  | j + 1 => match lv[j]? with
    | some (some v) => !(v.category == 2)
    | _ => true
theorem lvO_st {ls : Array Slot} {nL i : Nat} {w : Value} {lv : List (Option Value)} (h : lv_has ls nL ((i, w) :: (asc lv).filter (fun q => !(q.1 == i) && !(q.1 + 1 == i && q.2.category == 2)))) (hk : okS lv i = true) : lvO ls nL (lv.set i (some w)) := by
  refine ⟨h.1, h.2.1, fun j v hj => ?_⟩
  rw [List.getElem?_set] at hj
  by_cases e : i = j
  · subst e
    rw [if_pos rfl] at hj
    split at hj
    · cases hj
      exact h.2.2 (i, w) List.mem_cons_self
    · cases hj
  · rw [if_neg e] at hj
    refine h.2.2 (j, v) (List.mem_cons_of_mem _ (List.mem_filter.mpr ⟨asc_mem.mpr hj, ?_⟩))
    have h1 : (j == i) = false := by simp; omega
    rw [h1]
    by_cases e2 : j + 1 = i
    · subst e2
      simp only [okS, hj] at hk
      simp only [beq_self_eq_true, Bool.true_and, Bool.not_false]
      exact hk
    · have h2 : (j + 1 == i) = false := by simp; omega
      rw [h2]
      rfl
theorem lvO_st2 {ls : Array Slot} {nL i : Nat} {w : Value} {lv : List (Option Value)} (h : lv_has ls nL ((i, w) :: (asc lv).filter (fun q => !(q.1 == i) && (!(q.1 == i + 1) && !(q.1 + 1 == i && q.2.category == 2))))) (hk : okS lv i = true) : lvO ls nL ((lv.set i (some w)).set (i + 1) none) := by
  refine ⟨h.1, h.2.1, fun j v hj => ?_⟩
  rw [List.getElem?_set] at hj
  by_cases e0 : i + 1 = j
  · subst e0
    rw [if_pos rfl] at hj
    split at hj <;> cases hj
  rw [if_neg e0, List.getElem?_set] at hj
  by_cases e : i = j
  · subst e
    rw [if_pos rfl] at hj
    split at hj
    · cases hj
      exact h.2.2 (i, w) List.mem_cons_self
    · cases hj
  · rw [if_neg e] at hj
    refine h.2.2 (j, v) (List.mem_cons_of_mem _ (List.mem_filter.mpr ⟨asc_mem.mpr hj, ?_⟩))
    have h1 : (j == i) = false := by simp; omega
    have h3 : (j == i + 1) = false := by simp; omega
    rw [h1, h3]
    by_cases e2 : j + 1 = i
    · subst e2
      simp only [okS, hj] at hk
      simp only [beq_self_eq_true, Bool.true_and, Bool.not_false]
      exact hk
    · have h2 : (j + 1 == i) = false := by simp; omega
      rw [h2]
      rfl
theorem lv_args_mem : ∀ (vs : List Value) (o j : Nat) (v : Value), (∀ v ∈ vs, v.category = 1) → vs[j]? = some v → (o + j, v) ∈ lv_args o vs
  | [], _, _, _, _, h => by simp at h
  | w :: vs, o, 0, v, hc, h => by
    simp at h
    subst h
    simp [lv_args]
  | w :: vs, o, j + 1, v, hc, h => by
    rw [List.getElem?_cons_succ] at h
    have h2 := lv_args_mem vs (o + 1) j v (fun x hx => hc x (List.mem_cons_of_mem _ hx)) h
    have hw := hc w List.mem_cons_self
    rw [show o + (j + 1) = o + 1 + j by omega]
    simp [lv_args, hw, h2]
section VS
variable {p : Program} {l : Launch} {e : Env} {R : Room} {s : State} {m : MethodId} {args : Array Value} {below : List Frame} {meth : Method} {c : Code}
variable {D : va_G} {kA : Nat → ClassId} {b t0 nL cells slots : Nat} {Q : State → Prop} {own nm : String} {cc : ByteArray} {X : Mm} {pc pc' tgt : Nat} {lv : List (Option Value)} {st : List Value}
/-- what a method knows of itself -/
def Cx (p : Program) (l : Launch) (s : State) (m : MethodId) (args : Array Value) (meth : Method) (c : Code) (D : va_G) (kA : Nat → ClassId) (b t0 nL : Nat) (own nm : String) (cc : ByteArray) : Prop :=
  p.tables.exec = Jvm.exec ∧ c.code = cc ∧ c.maxLocals = nL ∧ s.vm.findClass own = some m.cls ∧ (∀ w ∈ TBL, w.before args s = true) ∧ meth.locks = false ∧ va_K D vwCl (tysA kA) s ∧ FX b t0 s s.heap ∧ l.stackTraces = false ∧ b ≤ s.heap.size ∧ meth.name = nm
def V (p : Program) (l : Launch) (e : Env) (R : Room) (s : State) (m : MethodId) (args : Array Value) (below : List Frame) (meth : Method) (c : Code) (D : va_G) (kA : Nat → ClassId) (b nL cells slots : Nat) (Q : State → Prop) (X : Mm) (pc : Nat) (lv : List (Option Value)) (st : List Value) : Prop :=
  ∀ (H : Heap) (locs : List Loc) (ls : Array Slot), wd D kA b X H → va_S (Ab b) s.heap H locs → lvO ls nL lv → W p l e R s m args below meth c H locs cells slots Q (F0 m pc ls st)
/-- .. with an exception of the class E under way -/
def VX (p : Program) (l : Launch) (e : Env) (R : Room) (s : State) (m : MethodId) (args : Array Value) (below : List Frame) (meth : Method) (c : Code) (D : va_G) (kA : Nat → ClassId) (b nL cells slots : Nat) (Q : State → Prop) (X : Mm) (pc : Nat) (lv : List (Option Value)) (E : String) : Prop :=
  ∀ (H : Heap) (locs : List Loc) (ls : Array Slot) (rest : List Value) (q : Addr) (ce : Cell), wd D kA b X H → va_S (Ab b) s.heap H locs → lvO ls nL lv → H[q]? = some ce → ce.vm = .none → s.vm.findClass E = some ce.cls → vx_W p l e R s m args below meth c H locs cells slots Q (F0 m pc ls rest) q

theorem V_iconst (C : Cx p l s m args meth c D kA b t0 nL own nm cc) {n : Int} (d : DI cc pc (.iconst n) 1 pc') 
    (k : V p l e R s m args below meth c D kA b nL (cells) (slots) (Q) X (pc') (lv) (iv n :: st)) : V p l e R s m args below meth c D kA b nL (cells) (slots) (Q) X (pc) (lv) (st) := by
  obtain ⟨hx, hb, hml, hown, hts, hlk, hK, hF, hst, hbs, hnm⟩ := C
  obtain ⟨d, rfl⟩ := d
  intro H locs ls hW hS hl
  have k2 := k H locs ls hW hS hl
  exact lv_iconst hx hb d rfl k2
theorem V_bipush (C : Cx p l s m args meth c D kA b t0 nL own nm cc) {n : Int} (d : DI cc pc (.bipush n) 2 pc') (hv : (Int8.ofInt n).toInt32 = zI n)
    (k : V p l e R s m args below meth c D kA b nL (cells) (slots) (Q) X (pc') (lv) (iv n :: st)) : V p l e R s m args below meth c D kA b nL (cells) (slots) (Q) X (pc) (lv) (st) := by
  obtain ⟨hx, hb, hml, hown, hts, hlk, hK, hF, hst, hbs, hnm⟩ := C
  obtain ⟨d, rfl⟩ := d
  intro H locs ls hW hS hl
  have k2 := k H locs ls hW hS hl
  exact lv_bipush hx hb d hv k2
theorem V_sipush (C : Cx p l s m args meth c D kA b t0 nL own nm cc) {n : Int} (d : DI cc pc (.sipush n) 3 pc') (hv : (Int16.ofInt n).toInt32 = zI n)
    (k : V p l e R s m args below meth c D kA b nL (cells) (slots) (Q) X (pc') (lv) (iv n :: st)) : V p l e R s m args below meth c D kA b nL (cells) (slots) (Q) X (pc) (lv) (st) := by
  obtain ⟨hx, hb, hml, hown, hts, hlk, hK, hF, hst, hbs, hnm⟩ := C
  obtain ⟨d, rfl⟩ := d
  intro H locs ls hW hS hl
  have k2 := k H locs ls hW hS hl
  exact lv_sipush hx hb d hv k2
theorem V_ldc (C : Cx p l s m args meth c D kA b t0 nL own nm cc) {i : Nat} {n : Int} (d : DI cc pc (.ldc i) 2 pc') (hw : Cond.constant own i (zI n) ∈ TBL)
    (k : V p l e R s m args below meth c D kA b nL (cells) (slots) (Q) X (pc') (lv) (iv n :: st)) : V p l e R s m args below meth c D kA b nL (cells) (slots) (Q) X (pc) (lv) (st) := by
  obtain ⟨hx, hb, hml, hown, hts, hlk, hK, hF, hst, hbs, hnm⟩ := C
  obtain ⟨d, rfl⟩ := d
  intro H locs ls hW hS hl
  have k2 := k H locs ls hW hS hl
  exact lv_ldc hx hb hown (hts _ hw) d k2
theorem V_ldcw (C : Cx p l s m args meth c D kA b t0 nL own nm cc) {i : Nat} {n : Int} (d : DI cc pc (.ldc_w i) 3 pc') (hw : Cond.constant own i (zI n) ∈ TBL)
    (k : V p l e R s m args below meth c D kA b nL (cells) (slots) (Q) X (pc') (lv) (iv n :: st)) : V p l e R s m args below meth c D kA b nL (cells) (slots) (Q) X (pc) (lv) (st) := by
  obtain ⟨hx, hb, hml, hown, hts, hlk, hK, hF, hst, hbs, hnm⟩ := C
  obtain ⟨d, rfl⟩ := d
  intro H locs ls hW hS hl
  have k2 := k H locs ls hW hS hl
  exact lv_ldcw hx hb hown (hts _ hw) d k2
theorem V_ldc2 (C : Cx p l s m args meth c D kA b t0 nL own nm cc) {i : Nat} {n : Int} (d : DI cc pc (.ldc2_w i) 3 pc') (hw : Cond.constantLong own i (zL n) ∈ TBL)
    (k : V p l e R s m args below meth c D kA b nL (cells) (slots) (Q) X (pc') (lv) (lo n :: st)) : V p l e R s m args below meth c D kA b nL (cells) (slots) (Q) X (pc) (lv) (st) := by
  obtain ⟨hx, hb, hml, hown, hts, hlk, hK, hF, hst, hbs, hnm⟩ := C
  obtain ⟨d, rfl⟩ := d
  intro H locs ls hW hS hl
  have k2 := k H locs ls hW hS hl
  exact lv_ldc2 hx hb hown (hts _ hw) d k2
theorem V_lconst (C : Cx p l s m args meth c D kA b t0 nL own nm cc) {n : Fin 2} {z : Int} (d : DI cc pc (.lconst n) 1 pc') (hv : Int64.ofNat (n : Nat) = zL z)
    (k : V p l e R s m args below meth c D kA b nL (cells) (slots) (Q) X (pc') (lv) (lo z :: st)) : V p l e R s m args below meth c D kA b nL (cells) (slots) (Q) X (pc) (lv) (st) := by
  obtain ⟨hx, hb, hml, hown, hts, hlk, hK, hF, hst, hbs, hnm⟩ := C
  obtain ⟨d, rfl⟩ := d
  intro H locs ls hW hS hl
  have k2 := k H locs ls hW hS hl
  exact lv_lconst hx hb d hv k2
theorem V_null (C : Cx p l s m args meth c D kA b t0 nL own nm cc)  (d : DI cc pc (.aconst_null) 1 pc') 
    (k : V p l e R s m args below meth c D kA b nL (cells) (slots) (Q) X (pc') (lv) (rv none :: st)) : V p l e R s m args below meth c D kA b nL (cells) (slots) (Q) X (pc) (lv) (st) := by
  obtain ⟨hx, hb, hml, hown, hts, hlk, hK, hF, hst, hbs, hnm⟩ := C
  obtain ⟨d, rfl⟩ := d
  intro H locs ls hW hS hl
  have k2 := k H locs ls hW hS hl
  exact lv_null hx hb d k2
theorem V_iload (C : Cx p l s m args meth c D kA b t0 nL own nm cc) {i : Nat} {z : Int} (d : DI cc pc (.iload i) 2 pc') (h : lv[(i : Nat)]? = some (some (iv z)))
    (k : V p l e R s m args below meth c D kA b nL (cells) (slots) (Q) X (pc') (lv) (iv z :: st)) : V p l e R s m args below meth c D kA b nL (cells) (slots) (Q) X (pc) (lv) (st) := by
  obtain ⟨hx, hb, hml, hown, hts, hlk, hK, hF, hst, hbs, hnm⟩ := C
  obtain ⟨d, rfl⟩ := d
  intro H locs ls hW hS hl
  have k2 := k H locs ls hW hS hl
  exact lv_iload hx hb d (hl.2.2 _ _ h) k2
theorem V_iload_n (C : Cx p l s m args meth c D kA b t0 nL own nm cc) {i : Fin 4} {z : Int} (d : DI cc pc (.iload_n i) 1 pc') (h : lv[(i : Nat)]? = some (some (iv z)))
    (k : V p l e R s m args below meth c D kA b nL (cells) (slots) (Q) X (pc') (lv) (iv z :: st)) : V p l e R s m args below meth c D kA b nL (cells) (slots) (Q) X (pc) (lv) (st) := by
  obtain ⟨hx, hb, hml, hown, hts, hlk, hK, hF, hst, hbs, hnm⟩ := C
  obtain ⟨d, rfl⟩ := d
  intro H locs ls hW hS hl
  have k2 := k H locs ls hW hS hl
  exact lv_iload_n hx hb d rfl (hl.2.2 _ _ h) k2
theorem V_lload (C : Cx p l s m args meth c D kA b t0 nL own nm cc) {i : Nat} {z : Int} (d : DI cc pc (.lload i) 2 pc') (h : lv[(i : Nat)]? = some (some (lo z)))
    (k : V p l e R s m args below meth c D kA b nL (cells) (slots) (Q) X (pc') (lv) (lo z :: st)) : V p l e R s m args below meth c D kA b nL (cells) (slots) (Q) X (pc) (lv) (st) := by
  obtain ⟨hx, hb, hml, hown, hts, hlk, hK, hF, hst, hbs, hnm⟩ := C
  obtain ⟨d, rfl⟩ := d
  intro H locs ls hW hS hl
  have k2 := k H locs ls hW hS hl
  exact lv_lload hx hb d (hl.2.2 _ _ h) k2
theorem V_lload_n (C : Cx p l s m args meth c D kA b t0 nL own nm cc) {i : Fin 4} {z : Int} (d : DI cc pc (.lload_n i) 1 pc') (h : lv[(i : Nat)]? = some (some (lo z)))
    (k : V p l e R s m args below meth c D kA b nL (cells) (slots) (Q) X (pc') (lv) (lo z :: st)) : V p l e R s m args below meth c D kA b nL (cells) (slots) (Q) X (pc) (lv) (st) := by
  obtain ⟨hx, hb, hml, hown, hts, hlk, hK, hF, hst, hbs, hnm⟩ := C
  obtain ⟨d, rfl⟩ := d
  intro H locs ls hW hS hl
  have k2 := k H locs ls hW hS hl
  exact lv_lload_n hx hb d rfl (hl.2.2 _ _ h) k2
theorem V_aload (C : Cx p l s m args meth c D kA b t0 nL own nm cc) {i : Nat} {r : Option Nat} (d : DI cc pc (.aload i) 2 pc') (h : lv[i]? = some (some (rv r)))
    (k : V p l e R s m args below meth c D kA b nL (cells) (slots) (Q) X (pc') (lv) (rv r :: st)) : V p l e R s m args below meth c D kA b nL (cells) (slots) (Q) X (pc) (lv) (st) := by
  obtain ⟨hx, hb, hml, hown, hts, hlk, hK, hF, hst, hbs, hnm⟩ := C
  obtain ⟨d, rfl⟩ := d
  intro H locs ls hW hS hl
  have k2 := k H locs ls hW hS hl
  cases r with
  | none => exact lv_aloadN hx hb d (hl.2.2 _ _ h) k2
  | some x => exact lv_aload hx hb d (hl.2.2 _ _ h) k2
theorem V_aload_n (C : Cx p l s m args meth c D kA b t0 nL own nm cc) {i : Fin 4} {r : Option Nat} (d : DI cc pc (.aload_n i) 1 pc') (h : lv[(i : Nat)]? = some (some (rv r)))
    (k : V p l e R s m args below meth c D kA b nL (cells) (slots) (Q) X (pc') (lv) (rv r :: st)) : V p l e R s m args below meth c D kA b nL (cells) (slots) (Q) X (pc) (lv) (st) := by
  obtain ⟨hx, hb, hml, hown, hts, hlk, hK, hF, hst, hbs, hnm⟩ := C
  obtain ⟨d, rfl⟩ := d
  intro H locs ls hW hS hl
  have k2 := k H locs ls hW hS hl
  cases r with
  | none => exact lv_aload_nN hx hb d rfl (hl.2.2 _ _ h) k2
  | some x => exact lv_aload_n hx hb d rfl (hl.2.2 _ _ h) k2
theorem V_istore (C : Cx p l s m args meth c D kA b t0 nL own nm cc) {i : Nat} {z : Int} (d : DI cc pc (.istore i) 2 pc') (hn : i < nL) (hk : okS lv i = true)
    (k : V p l e R s m args below meth c D kA b nL (cells) (slots) (Q) X (pc') ((lv.set i (some (iv z)))) (st)) : V p l e R s m args below meth c D kA b nL (cells) (slots) (Q) X (pc) (lv) (iv z :: st) := by
  obtain ⟨hx, hb, hml, hown, hts, hlk, hK, hF, hst, hbs, hnm⟩ := C
  obtain ⟨d, rfl⟩ := d
  intro H locs ls hW hS hl
  exact lv_istore hx hb d hl.has hn rfl (fun ls2 hl2 => k H locs ls2 hW hS (lvO_st hl2 hk))
theorem V_istore_n (C : Cx p l s m args meth c D kA b t0 nL own nm cc) {i : Fin 4} {z : Int} (d : DI cc pc (.istore_n i) 1 pc') (hn : (i : Nat) < nL) (hk : okS lv (i : Nat) = true)
    (k : V p l e R s m args below meth c D kA b nL (cells) (slots) (Q) X (pc') ((lv.set (i : Nat) (some (iv z)))) (st)) : V p l e R s m args below meth c D kA b nL (cells) (slots) (Q) X (pc) (lv) (iv z :: st) := by
  obtain ⟨hx, hb, hml, hown, hts, hlk, hK, hF, hst, hbs, hnm⟩ := C
  obtain ⟨d, rfl⟩ := d
  intro H locs ls hW hS hl
  exact lv_istore_n hx hb d rfl hl.has hn rfl (fun ls2 hl2 => k H locs ls2 hW hS (lvO_st hl2 hk))
theorem V_astore (C : Cx p l s m args meth c D kA b t0 nL own nm cc) {i a : Nat} (d : DI cc pc (.astore i) 2 pc') (hn : i < nL) (hk : okS lv i = true)
    (k : V p l e R s m args below meth c D kA b nL (cells) (slots) (Q) X (pc') ((lv.set i (some (rv (some a))))) (st)) : V p l e R s m args below meth c D kA b nL (cells) (slots) (Q) X (pc) (lv) (rv (some a) :: st) := by
  obtain ⟨hx, hb, hml, hown, hts, hlk, hK, hF, hst, hbs, hnm⟩ := C
  obtain ⟨d, rfl⟩ := d
  intro H locs ls hW hS hl
  exact lv_astore hx hb d hl.has hn rfl (fun ls2 hl2 => k H locs ls2 hW hS (lvO_st hl2 hk))
theorem V_astore_n (C : Cx p l s m args meth c D kA b t0 nL own nm cc) {i : Fin 4} {a : Nat} (d : DI cc pc (.astore_n i) 1 pc') (hn : (i : Nat) < nL) (hk : okS lv (i : Nat) = true)
    (k : V p l e R s m args below meth c D kA b nL (cells) (slots) (Q) X (pc') ((lv.set (i : Nat) (some (rv (some a))))) (st)) : V p l e R s m args below meth c D kA b nL (cells) (slots) (Q) X (pc) (lv) (rv (some a) :: st) := by
  obtain ⟨hx, hb, hml, hown, hts, hlk, hK, hF, hst, hbs, hnm⟩ := C
  obtain ⟨d, rfl⟩ := d
  intro H locs ls hW hS hl
  exact lv_astore_n hx hb d rfl hl.has hn rfl (fun ls2 hl2 => k H locs ls2 hW hS (lvO_st hl2 hk))
theorem V_lstore (C : Cx p l s m args meth c D kA b t0 nL own nm cc) {i : Nat} {z : Int} (d : DI cc pc (.lstore i) 2 pc') (hn : i + 1 < nL) (hk : okS lv i = true)
    (k : V p l e R s m args below meth c D kA b nL (cells) (slots) (Q) X (pc') ((lv.set i (some (lo z))).set (i + 1) none) (st)) : V p l e R s m args below meth c D kA b nL (cells) (slots) (Q) X (pc) (lv) (lo z :: st) := by
  obtain ⟨hx, hb, hml, hown, hts, hlk, hK, hF, hst, hbs, hnm⟩ := C
  obtain ⟨d, rfl⟩ := d
  intro H locs ls hW hS hl
  exact lv_lstore hx hb d hl.has hn rfl (fun ls2 hl2 => k H locs ls2 hW hS (lvO_st2 hl2 hk))
theorem V_lstore_n (C : Cx p l s m args meth c D kA b t0 nL own nm cc) {i : Fin 4} {z : Int} (d : DI cc pc (.lstore_n i) 1 pc') (hn : (i : Nat) + 1 < nL) (hk : okS lv (i : Nat) = true)
    (k : V p l e R s m args below meth c D kA b nL (cells) (slots) (Q) X (pc') ((lv.set (i : Nat) (some (lo z))).set ((i : Nat) + 1) none) (st)) : V p l e R s m args below meth c D kA b nL (cells) (slots) (Q) X (pc) (lv) (lo z :: st) := by
  obtain ⟨hx, hb, hml, hown, hts, hlk, hK, hF, hst, hbs, hnm⟩ := C
  obtain ⟨d, rfl⟩ := d
  intro H locs ls hW hS hl
  exact lv_lstore_n hx hb d rfl hl.has hn rfl (fun ls2 hl2 => k H locs ls2 hW hS (lvO_st2 hl2 hk))
theorem V_iinc (C : Cx p l s m args meth c D kA b t0 nL own nm cc) {i : Nat} {n z : Int} (d : DI cc pc (.iinc i n) 3 pc') (hn : i < nL) (h : lv[i]? = some (some (iv z))) (hk : okS lv i = true)
    (k : V p l e R s m args below meth c D kA b nL (cells) (slots) (Q) X (pc') (lv.set i (some (iv (z + n)))) (st)) : V p l e R s m args below meth c D kA b nL (cells) (slots) (Q) X (pc) (lv) (st) := by
  obtain ⟨hx, hb, hml, hown, hts, hlk, hK, hF, hst, hbs, hnm⟩ := C
  obtain ⟨d, rfl⟩ := d
  intro H locs ls hW hS hl
  obtain ⟨j, hj⟩ := List.getElem?_of_mem (asc_mem.mpr h)
  exact lv_iinc hx hb d hl.has hj (v := zI (z + n)) (zI_add z n) hn rfl (fun ls2 hl2 => k H locs ls2 hW hS (lvO_st hl2 hk))
theorem V_pop (C : Cx p l s m args meth c D kA b t0 nL own nm cc) {v : Value} (d : DI cc pc (.pop) 1 pc') (hv : v.category = 1)
    (k : V p l e R s m args below meth c D kA b nL (cells) (slots) (Q) X (pc') (lv) (st)) : V p l e R s m args below meth c D kA b nL (cells) (slots) (Q) X (pc) (lv) (v :: st) := by
  obtain ⟨hx, hb, hml, hown, hts, hlk, hK, hF, hst, hbs, hnm⟩ := C
  obtain ⟨d, rfl⟩ := d
  intro H locs ls hW hS hl
  have k2 := k H locs ls hW hS hl
  exact lv_pop hx hb d hv k2
theorem V_dup (C : Cx p l s m args meth c D kA b t0 nL own nm cc) {v : Value} (d : DI cc pc (.dup) 1 pc') (hv : v.category = 1)
    (k : V p l e R s m args below meth c D kA b nL (cells) (slots) (Q) X (pc') (lv) (v :: v :: st)) : V p l e R s m args below meth c D kA b nL (cells) (slots) (Q) X (pc) (lv) (v :: st) := by
  obtain ⟨hx, hb, hml, hown, hts, hlk, hK, hF, hst, hbs, hnm⟩ := C
  obtain ⟨d, rfl⟩ := d
  intro H locs ls hW hS hl
  have k2 := k H locs ls hW hS hl
  exact lv_dup hx hb d hv k2
theorem V_dup_x1 (C : Cx p l s m args meth c D kA b t0 nL own nm cc) {v w : Value} (d : DI cc pc (.dup_x1) 1 pc') (hv : v.category = 1) (hw : w.category = 1)
    (k : V p l e R s m args below meth c D kA b nL (cells) (slots) (Q) X (pc') (lv) (v :: w :: v :: st)) : V p l e R s m args below meth c D kA b nL (cells) (slots) (Q) X (pc) (lv) (v :: w :: st) := by
  obtain ⟨hx, hb, hml, hown, hts, hlk, hK, hF, hst, hbs, hnm⟩ := C
  obtain ⟨d, rfl⟩ := d
  intro H locs ls hW hS hl
  have k2 := k H locs ls hW hS hl
  exact lv_dup_x1 hx hb d hv hw k2
theorem V_dup2 (C : Cx p l s m args meth c D kA b t0 nL own nm cc) {v w : Value} (d : DI cc pc (.dup2) 1 pc') (hv : v.category = 1) (hw : w.category = 1)
    (k : V p l e R s m args below meth c D kA b nL (cells) (slots) (Q) X (pc') (lv) (v :: w :: v :: w :: st)) : V p l e R s m args below meth c D kA b nL (cells) (slots) (Q) X (pc) (lv) (v :: w :: st) := by
  obtain ⟨hx, hb, hml, hown, hts, hlk, hK, hF, hst, hbs, hnm⟩ := C
  obtain ⟨d, rfl⟩ := d
  intro H locs ls hW hS hl
  have k2 := k H locs ls hW hS hl
  exact lv_dup2_11 hx hb d hv hw k2
theorem V_iadd (C : Cx p l s m args meth c D kA b t0 nL own nm cc) {x y : Int} (d : DI cc pc (.iadd) 1 pc') 
    (k : V p l e R s m args below meth c D kA b nL (cells) (slots) (Q) X (pc') (lv) (iv (x + y) :: st)) : V p l e R s m args below meth c D kA b nL (cells) (slots) (Q) X (pc) (lv) (iv y :: iv x :: st) := by
  obtain ⟨hx, hb, hml, hown, hts, hlk, hK, hF, hst, hbs, hnm⟩ := C
  obtain ⟨d, rfl⟩ := d
  intro H locs ls hW hS hl
  have k2 := k H locs ls hW hS hl
  exact lv_iadd hx hb d (by rw [zI_add]; exact k2)
theorem V_isub (C : Cx p l s m args meth c D kA b t0 nL own nm cc) {x y : Int} (d : DI cc pc (.isub) 1 pc') 
    (k : V p l e R s m args below meth c D kA b nL (cells) (slots) (Q) X (pc') (lv) (iv (x - y) :: st)) : V p l e R s m args below meth c D kA b nL (cells) (slots) (Q) X (pc) (lv) (iv y :: iv x :: st) := by
  obtain ⟨hx, hb, hml, hown, hts, hlk, hK, hF, hst, hbs, hnm⟩ := C
  obtain ⟨d, rfl⟩ := d
  intro H locs ls hW hS hl
  have k2 := k H locs ls hW hS hl
  exact lv_isub hx hb d (by rw [zI_sub]; exact k2)
theorem V_imul (C : Cx p l s m args meth c D kA b t0 nL own nm cc) {x y : Int} (d : DI cc pc (.imul) 1 pc') 
    (k : V p l e R s m args below meth c D kA b nL (cells) (slots) (Q) X (pc') (lv) (iv (x * y) :: st)) : V p l e R s m args below meth c D kA b nL (cells) (slots) (Q) X (pc) (lv) (iv y :: iv x :: st) := by
  obtain ⟨hx, hb, hml, hown, hts, hlk, hK, hF, hst, hbs, hnm⟩ := C
  obtain ⟨d, rfl⟩ := d
  intro H locs ls hW hS hl
  have k2 := k H locs ls hW hS hl
  exact lv_imul hx hb d (by rw [zI_mul]; exact k2)
theorem V_ineg (C : Cx p l s m args meth c D kA b t0 nL own nm cc) {x : Int} (d : DI cc pc (.ineg) 1 pc') 
    (k : V p l e R s m args below meth c D kA b nL (cells) (slots) (Q) X (pc') (lv) (iv (-x) :: st)) : V p l e R s m args below meth c D kA b nL (cells) (slots) (Q) X (pc) (lv) (iv x :: st) := by
  obtain ⟨hx, hb, hml, hown, hts, hlk, hK, hF, hst, hbs, hnm⟩ := C
  obtain ⟨d, rfl⟩ := d
  intro H locs ls hW hS hl
  have k2 := k H locs ls hW hS hl
  exact lv_ineg hx hb d (by rw [zI_neg]; exact k2)
theorem V_idiv (C : Cx p l s m args meth c D kA b t0 nL own nm cc) {x y : Int} (d : DI cc pc (.idiv) 1 pc') (hrx : rng x) (hry : rng y) (hy : y ≠ 0)
    (k : V p l e R s m args below meth c D kA b nL (cells) (slots) (Q) X (pc') (lv) (iv (x.tdiv y) :: st)) : V p l e R s m args below meth c D kA b nL (cells) (slots) (Q) X (pc) (lv) (iv y :: iv x :: st) := by
  obtain ⟨hx, hb, hml, hown, hts, hlk, hK, hF, hst, hbs, hnm⟩ := C
  obtain ⟨d, rfl⟩ := d
  intro H locs ls hW hS hl
  have k2 := k H locs ls hW hS hl
  exact lv_idiv hx hb d (fun h => hy ((zI_eq hry (by omega)).mp h)) (by rw [zI_div hrx hry]; exact k2)
theorem V_irem (C : Cx p l s m args meth c D kA b t0 nL own nm cc) {x y : Int} (d : DI cc pc (.irem) 1 pc') (hrx : rng x) (hry : rng y) (hy : y ≠ 0)
    (k : V p l e R s m args below meth c D kA b nL (cells) (slots) (Q) X (pc') (lv) (iv (x.tmod y) :: st)) : V p l e R s m args below meth c D kA b nL (cells) (slots) (Q) X (pc) (lv) (iv y :: iv x :: st) := by
  obtain ⟨hx, hb, hml, hown, hts, hlk, hK, hF, hst, hbs, hnm⟩ := C
  obtain ⟨d, rfl⟩ := d
  intro H locs ls hW hS hl
  have k2 := k H locs ls hW hS hl
  exact lv_irem hx hb d (fun h => hy ((zI_eq hry (by omega)).mp h)) (by rw [zI_div hrx hry, zI_mul, zI_sub, tmod_eq]; exact k2)
theorem V_idivN (C : Cx p l s m args meth c D kA b t0 nL own nm cc) {x y : Int} (d : DI cc pc (.idiv) 1 pc') (hrx : rng x) (hry : rng y) (h0 : 0 ≤ x) (hy : 0 < y)
    (k : V p l e R s m args below meth c D kA b nL (cells) (slots) (Q) X (pc') (lv) (iv (x / y) :: st)) : V p l e R s m args below meth c D kA b nL (cells) (slots) (Q) X (pc) (lv) (iv y :: iv x :: st) := by
  obtain ⟨hx, hb, hml, hown, hts, hlk, hK, hF, hst, hbs, hnm⟩ := C
  obtain ⟨d, rfl⟩ := d
  intro H locs ls hW hS hl
  have k2 := k H locs ls hW hS hl
  exact lv_idiv hx hb d (fun h => (by omega : y ≠ 0) ((zI_eq hry (by omega)).mp h)) (by rw [zI_div hrx hry, Int.tdiv_eq_ediv_of_nonneg h0]; exact k2)
theorem V_iremN (C : Cx p l s m args meth c D kA b t0 nL own nm cc) {x y : Int} (d : DI cc pc (.irem) 1 pc') (hrx : rng x) (hry : rng y) (h0 : 0 ≤ x) (hy : 0 < y)
    (k : V p l e R s m args below meth c D kA b nL (cells) (slots) (Q) X (pc') (lv) (iv (x % y) :: st)) : V p l e R s m args below meth c D kA b nL (cells) (slots) (Q) X (pc) (lv) (iv y :: iv x :: st) := by
  obtain ⟨hx, hb, hml, hown, hts, hlk, hK, hF, hst, hbs, hnm⟩ := C
  obtain ⟨d, rfl⟩ := d
  intro H locs ls hW hS hl
  have k2 := k H locs ls hW hS hl
  exact lv_irem hx hb d (fun h => (by omega : y ≠ 0) ((zI_eq hry (by omega)).mp h)) (by rw [zI_div hrx hry, zI_mul, zI_sub, tmod_eq, Int.tmod_eq_emod_of_nonneg h0]; exact k2)
theorem V_ldivN (C : Cx p l s m args meth c D kA b t0 nL own nm cc) {x y : Int} (d : DI cc pc (.ldiv) 1 pc') (hrx : rngL x) (hry : rngL y) (h0 : 0 ≤ x) (hy : 0 < y)
    (k : V p l e R s m args below meth c D kA b nL (cells) (slots) (Q) X (pc') (lv) (lo (x / y) :: st)) : V p l e R s m args below meth c D kA b nL (cells) (slots) (Q) X (pc) (lv) (lo y :: lo x :: st) := by
  obtain ⟨hx, hb, hml, hown, hts, hlk, hK, hF, hst, hbs, hnm⟩ := C
  obtain ⟨d, rfl⟩ := d
  intro H locs ls hW hS hl
  have k2 := k H locs ls hW hS hl
  exact lv_ldiv hx hb d (fun h => (by omega : y ≠ 0) ((zL_eq hry (by omega)).mp h)) (by rw [zL_div hrx hry, Int.tdiv_eq_ediv_of_nonneg h0]; exact k2)
theorem V_ior (C : Cx p l s m args meth c D kA b t0 nL own nm cc) {x y : Int} (d : DI cc pc (.ior) 1 pc') (hx0 : x = 0 ∨ x = 1) (hy0 : y = 0 ∨ y = 1)
    (k : V p l e R s m args below meth c D kA b nL (cells) (slots) (Q) X (pc') (lv) (iv (if x = 0 then y else 1) :: st)) : V p l e R s m args below meth c D kA b nL (cells) (slots) (Q) X (pc) (lv) (iv y :: iv x :: st) := by
  obtain ⟨hx, hb, hml, hown, hts, hlk, hK, hF, hst, hbs, hnm⟩ := C
  obtain ⟨d, rfl⟩ := d
  intro H locs ls hW hS hl
  have k2 := k H locs ls hW hS hl
  have e : zI x ||| zI y = zI (if x = 0 then y else 1) := by
    rcases hx0 with rfl | rfl <;> rcases hy0 with rfl | rfl <;> decide
  exact lv_ior hx hb d (by rw [e]; exact k2)
theorem V_ladd (C : Cx p l s m args meth c D kA b t0 nL own nm cc) {x y : Int} (d : DI cc pc (.ladd) 1 pc') 
    (k : V p l e R s m args below meth c D kA b nL (cells) (slots) (Q) X (pc') (lv) (lo (x + y) :: st)) : V p l e R s m args below meth c D kA b nL (cells) (slots) (Q) X (pc) (lv) (lo y :: lo x :: st) := by
  obtain ⟨hx, hb, hml, hown, hts, hlk, hK, hF, hst, hbs, hnm⟩ := C
  obtain ⟨d, rfl⟩ := d
  intro H locs ls hW hS hl
  have k2 := k H locs ls hW hS hl
  exact lv_ladd hx hb d (by rw [zL_add]; exact k2)
theorem V_lmul (C : Cx p l s m args meth c D kA b t0 nL own nm cc) {x y : Int} (d : DI cc pc (.lmul) 1 pc') 
    (k : V p l e R s m args below meth c D kA b nL (cells) (slots) (Q) X (pc') (lv) (lo (x * y) :: st)) : V p l e R s m args below meth c D kA b nL (cells) (slots) (Q) X (pc) (lv) (lo y :: lo x :: st) := by
  obtain ⟨hx, hb, hml, hown, hts, hlk, hK, hF, hst, hbs, hnm⟩ := C
  obtain ⟨d, rfl⟩ := d
  intro H locs ls hW hS hl
  have k2 := k H locs ls hW hS hl
  exact lv_lmul hx hb d (by rw [zL_mul]; exact k2)
theorem V_ldiv (C : Cx p l s m args meth c D kA b t0 nL own nm cc) {x y : Int} (d : DI cc pc (.ldiv) 1 pc') (hrx : rngL x) (hry : rngL y) (hy : y ≠ 0)
    (k : V p l e R s m args below meth c D kA b nL (cells) (slots) (Q) X (pc') (lv) (lo (x.tdiv y) :: st)) : V p l e R s m args below meth c D kA b nL (cells) (slots) (Q) X (pc) (lv) (lo y :: lo x :: st) := by
  obtain ⟨hx, hb, hml, hown, hts, hlk, hK, hF, hst, hbs, hnm⟩ := C
  obtain ⟨d, rfl⟩ := d
  intro H locs ls hW hS hl
  have k2 := k H locs ls hW hS hl
  exact lv_ldiv hx hb d (fun h => hy ((zL_eq hry (by omega)).mp h)) (by rw [zL_div hrx hry]; exact k2)
theorem V_i2l (C : Cx p l s m args meth c D kA b t0 nL own nm cc) {x : Int} (d : DI cc pc (.i2l) 1 pc') (hr : rng x)
    (k : V p l e R s m args below meth c D kA b nL (cells) (slots) (Q) X (pc') (lv) (lo x :: st)) : V p l e R s m args below meth c D kA b nL (cells) (slots) (Q) X (pc) (lv) (iv x :: st) := by
  obtain ⟨hx, hb, hml, hown, hts, hlk, hK, hF, hst, hbs, hnm⟩ := C
  obtain ⟨d, rfl⟩ := d
  intro H locs ls hW hS hl
  have k2 := k H locs ls hW hS hl
  exact lv_i2l hx hb d (zI_long hr) k2
theorem V_l2i (C : Cx p l s m args meth c D kA b t0 nL own nm cc) {x : Int} (d : DI cc pc (.l2i) 1 pc') 
    (k : V p l e R s m args below meth c D kA b nL (cells) (slots) (Q) X (pc') (lv) (iv x :: st)) : V p l e R s m args below meth c D kA b nL (cells) (slots) (Q) X (pc) (lv) (lo x :: st) := by
  obtain ⟨hx, hb, hml, hown, hts, hlk, hK, hF, hst, hbs, hnm⟩ := C
  obtain ⟨d, rfl⟩ := d
  intro H locs ls hW hS hl
  have k2 := k H locs ls hW hS hl
  exact lv_l2i hx hb d (zL_i x) k2
theorem V_lcmp (C : Cx p l s m args meth c D kA b t0 nL own nm cc) {x y : Int} (d : DI cc pc (.lcmp) 1 pc') (hrx : rngL x) (hry : rngL y)
    (k : V p l e R s m args below meth c D kA b nL (cells) (slots) (Q) X (pc') (lv) (iv (if y < x then 1 else if x = y then 0 else -1) :: st)) : V p l e R s m args below meth c D kA b nL (cells) (slots) (Q) X (pc) (lv) (lo y :: lo x :: st) := by
  obtain ⟨hx, hb, hml, hown, hts, hlk, hK, hF, hst, hbs, hnm⟩ := C
  obtain ⟨d, rfl⟩ := d
  intro H locs ls hW hS hl
  have k2 := k H locs ls hW hS hl
  have e : lg_cmp (zL x) (zL y) = zI (if y < x then 1 else if x = y then 0 else -1) := by
    unfold lg_cmp
    have h1 : (zL x > zL y) ↔ y < x := zL_lt hry hrx
    have h2 : (zL x = zL y) ↔ x = y := zL_eq hrx hry
    simp only [h1, h2]
    split
    · rfl
    · split <;> rfl
  exact W.lcmp hx hb d (by rw [e]; exact k2)
theorem rng_0 : rng 0 := by omega
theorem V_if_eq (C : Cx p l s m args meth c D kA b t0 nL own nm cc) {x : Int} {off : Int} (d : DB cc pc (.ifCond .eq off) off 3 pc' tgt) (hr : rng x)
    (kt : x = 0 → V p l e R s m args below meth c D kA b nL (cells) (slots) (Q) X (tgt) (lv) (st)) (kf : x ≠ 0 → V p l e R s m args below meth c D kA b nL (cells) (slots) (Q) X (pc') (lv) (st)) : V p l e R s m args below meth c D kA b nL (cells) (slots) (Q) X (pc) (lv) (iv x :: st) := by
  obtain ⟨hx, hb, hml, hown, hts, hlk, hK, hF, hst, hbs, hnm⟩ := C
  obtain ⟨d, rfl, ht⟩ := d
  intro H locs ls hW hS hl
  exact lv_if_eq hx hb d ht (fun h => kt ((zI_eq hr rng_0).mp h) H locs ls hW hS hl) (fun h => kf (fun z => h ((zI_eq hr rng_0).mpr z)) H locs ls hW hS hl)
theorem V_if_ne (C : Cx p l s m args meth c D kA b t0 nL own nm cc) {x : Int} {off : Int} (d : DB cc pc (.ifCond .ne off) off 3 pc' tgt) (hr : rng x)
    (kt : x ≠ 0 → V p l e R s m args below meth c D kA b nL (cells) (slots) (Q) X (tgt) (lv) (st)) (kf : x = 0 → V p l e R s m args below meth c D kA b nL (cells) (slots) (Q) X (pc') (lv) (st)) : V p l e R s m args below meth c D kA b nL (cells) (slots) (Q) X (pc) (lv) (iv x :: st) := by
  obtain ⟨hx, hb, hml, hown, hts, hlk, hK, hF, hst, hbs, hnm⟩ := C
  obtain ⟨d, rfl, ht⟩ := d
  intro H locs ls hW hS hl
  exact lv_if_ne hx hb d ht (fun h => kt (fun z => h ((zI_eq hr rng_0).mpr z)) H locs ls hW hS hl) (fun h => kf ((zI_eq hr rng_0).mp h) H locs ls hW hS hl)
theorem V_if_lt (C : Cx p l s m args meth c D kA b t0 nL own nm cc) {x : Int} {off : Int} (d : DB cc pc (.ifCond .lt off) off 3 pc' tgt) (hr : rng x)
    (kt : x < 0 → V p l e R s m args below meth c D kA b nL (cells) (slots) (Q) X (tgt) (lv) (st)) (kf : 0 ≤ x → V p l e R s m args below meth c D kA b nL (cells) (slots) (Q) X (pc') (lv) (st)) : V p l e R s m args below meth c D kA b nL (cells) (slots) (Q) X (pc) (lv) (iv x :: st) := by
  obtain ⟨hx, hb, hml, hown, hts, hlk, hK, hF, hst, hbs, hnm⟩ := C
  obtain ⟨d, rfl, ht⟩ := d
  intro H locs ls hW hS hl
  exact lv_if_lt hx hb d ht (fun h => kt ((zI_lt hr rng_0).mp h) H locs ls hW hS hl) (fun h => kf (Int.not_lt.mp fun z => h ((zI_lt hr rng_0).mpr z)) H locs ls hW hS hl)
theorem V_if_ge (C : Cx p l s m args meth c D kA b t0 nL own nm cc) {x : Int} {off : Int} (d : DB cc pc (.ifCond .ge off) off 3 pc' tgt) (hr : rng x)
    (kt : 0 ≤ x → V p l e R s m args below meth c D kA b nL (cells) (slots) (Q) X (tgt) (lv) (st)) (kf : x < 0 → V p l e R s m args below meth c D kA b nL (cells) (slots) (Q) X (pc') (lv) (st)) : V p l e R s m args below meth c D kA b nL (cells) (slots) (Q) X (pc) (lv) (iv x :: st) := by
  obtain ⟨hx, hb, hml, hown, hts, hlk, hK, hF, hst, hbs, hnm⟩ := C
  obtain ⟨d, rfl, ht⟩ := d
  intro H locs ls hW hS hl
  exact lv_if_ge hx hb d ht (fun h => kt ((zI_le rng_0 hr).mp h) H locs ls hW hS hl) (fun h => kf (Int.not_le.mp fun z => h ((zI_le rng_0 hr).mpr z)) H locs ls hW hS hl)
theorem V_if_gt (C : Cx p l s m args meth c D kA b t0 nL own nm cc) {x : Int} {off : Int} (d : DB cc pc (.ifCond .gt off) off 3 pc' tgt) (hr : rng x)
    (kt : 0 < x → V p l e R s m args below meth c D kA b nL (cells) (slots) (Q) X (tgt) (lv) (st)) (kf : x ≤ 0 → V p l e R s m args below meth c D kA b nL (cells) (slots) (Q) X (pc') (lv) (st)) : V p l e R s m args below meth c D kA b nL (cells) (slots) (Q) X (pc) (lv) (iv x :: st) := by
  obtain ⟨hx, hb, hml, hown, hts, hlk, hK, hF, hst, hbs, hnm⟩ := C
  obtain ⟨d, rfl, ht⟩ := d
  intro H locs ls hW hS hl
  exact lv_if_gt hx hb d ht (fun h => kt ((zI_lt rng_0 hr).mp h) H locs ls hW hS hl) (fun h => kf (Int.not_lt.mp fun z => h ((zI_lt rng_0 hr).mpr z)) H locs ls hW hS hl)
theorem V_if_le (C : Cx p l s m args meth c D kA b t0 nL own nm cc) {x : Int} {off : Int} (d : DB cc pc (.ifCond .le off) off 3 pc' tgt) (hr : rng x)
    (kt : x ≤ 0 → V p l e R s m args below meth c D kA b nL (cells) (slots) (Q) X (tgt) (lv) (st)) (kf : 0 < x → V p l e R s m args below meth c D kA b nL (cells) (slots) (Q) X (pc') (lv) (st)) : V p l e R s m args below meth c D kA b nL (cells) (slots) (Q) X (pc) (lv) (iv x :: st) := by
  obtain ⟨hx, hb, hml, hown, hts, hlk, hK, hF, hst, hbs, hnm⟩ := C
  obtain ⟨d, rfl, ht⟩ := d
  intro H locs ls hW hS hl
  exact lv_if_le hx hb d ht (fun h => kt ((zI_le hr rng_0).mp h) H locs ls hW hS hl) (fun h => kf (Int.not_le.mp fun z => h ((zI_le hr rng_0).mpr z)) H locs ls hW hS hl)
theorem V_icmp_eq (C : Cx p l s m args meth c D kA b t0 nL own nm cc) {x y : Int} {off : Int} (d : DB cc pc (.if_icmp .eq off) off 3 pc' tgt) (hrx : rng x) (hry : rng y)
    (kt : x = y → V p l e R s m args below meth c D kA b nL (cells) (slots) (Q) X (tgt) (lv) (st)) (kf : x ≠ y → V p l e R s m args below meth c D kA b nL (cells) (slots) (Q) X (pc') (lv) (st)) : V p l e R s m args below meth c D kA b nL (cells) (slots) (Q) X (pc) (lv) (iv y :: iv x :: st) := by
  obtain ⟨hx, hb, hml, hown, hts, hlk, hK, hF, hst, hbs, hnm⟩ := C
  obtain ⟨d, rfl, ht⟩ := d
  intro H locs ls hW hS hl
  exact lv_icmp_eq hx hb d ht (fun h => kt ((zI_eq hrx hry).mp h) H locs ls hW hS hl) (fun h => kf (fun z => h ((zI_eq hrx hry).mpr z)) H locs ls hW hS hl)
theorem V_icmp_ne (C : Cx p l s m args meth c D kA b t0 nL own nm cc) {x y : Int} {off : Int} (d : DB cc pc (.if_icmp .ne off) off 3 pc' tgt) (hrx : rng x) (hry : rng y)
    (kt : x ≠ y → V p l e R s m args below meth c D kA b nL (cells) (slots) (Q) X (tgt) (lv) (st)) (kf : x = y → V p l e R s m args below meth c D kA b nL (cells) (slots) (Q) X (pc') (lv) (st)) : V p l e R s m args below meth c D kA b nL (cells) (slots) (Q) X (pc) (lv) (iv y :: iv x :: st) := by
  obtain ⟨hx, hb, hml, hown, hts, hlk, hK, hF, hst, hbs, hnm⟩ := C
  obtain ⟨d, rfl, ht⟩ := d
  intro H locs ls hW hS hl
  exact lv_icmp_ne hx hb d ht (fun h => kt (fun z => h ((zI_eq hrx hry).mpr z)) H locs ls hW hS hl) (fun h => kf ((zI_eq hrx hry).mp h) H locs ls hW hS hl)
theorem V_icmp_lt (C : Cx p l s m args meth c D kA b t0 nL own nm cc) {x y : Int} {off : Int} (d : DB cc pc (.if_icmp .lt off) off 3 pc' tgt) (hrx : rng x) (hry : rng y)
    (kt : x < y → V p l e R s m args below meth c D kA b nL (cells) (slots) (Q) X (tgt) (lv) (st)) (kf : y ≤ x → V p l e R s m args below meth c D kA b nL (cells) (slots) (Q) X (pc') (lv) (st)) : V p l e R s m args below meth c D kA b nL (cells) (slots) (Q) X (pc) (lv) (iv y :: iv x :: st) := by
  obtain ⟨hx, hb, hml, hown, hts, hlk, hK, hF, hst, hbs, hnm⟩ := C
  obtain ⟨d, rfl, ht⟩ := d
  intro H locs ls hW hS hl
  exact lv_icmp_lt hx hb d ht (fun h => kt ((zI_lt hrx hry).mp h) H locs ls hW hS hl) (fun h => kf (Int.not_lt.mp fun z => h ((zI_lt hrx hry).mpr z)) H locs ls hW hS hl)
theorem V_icmp_ge (C : Cx p l s m args meth c D kA b t0 nL own nm cc) {x y : Int} {off : Int} (d : DB cc pc (.if_icmp .ge off) off 3 pc' tgt) (hrx : rng x) (hry : rng y)
    (kt : y ≤ x → V p l e R s m args below meth c D kA b nL (cells) (slots) (Q) X (tgt) (lv) (st)) (kf : x < y → V p l e R s m args below meth c D kA b nL (cells) (slots) (Q) X (pc') (lv) (st)) : V p l e R s m args below meth c D kA b nL (cells) (slots) (Q) X (pc) (lv) (iv y :: iv x :: st) := by
  obtain ⟨hx, hb, hml, hown, hts, hlk, hK, hF, hst, hbs, hnm⟩ := C
  obtain ⟨d, rfl, ht⟩ := d
  intro H locs ls hW hS hl
  exact lv_icmp_ge hx hb d ht (fun h => kt ((zI_le hry hrx).mp h) H locs ls hW hS hl) (fun h => kf (Int.not_le.mp fun z => h ((zI_le hry hrx).mpr z)) H locs ls hW hS hl)
theorem V_icmp_gt (C : Cx p l s m args meth c D kA b t0 nL own nm cc) {x y : Int} {off : Int} (d : DB cc pc (.if_icmp .gt off) off 3 pc' tgt) (hrx : rng x) (hry : rng y)
    (kt : y < x → V p l e R s m args below meth c D kA b nL (cells) (slots) (Q) X (tgt) (lv) (st)) (kf : x ≤ y → V p l e R s m args below meth c D kA b nL (cells) (slots) (Q) X (pc') (lv) (st)) : V p l e R s m args below meth c D kA b nL (cells) (slots) (Q) X (pc) (lv) (iv y :: iv x :: st) := by
  obtain ⟨hx, hb, hml, hown, hts, hlk, hK, hF, hst, hbs, hnm⟩ := C
  obtain ⟨d, rfl, ht⟩ := d
  intro H locs ls hW hS hl
  exact lv_icmp_gt hx hb d ht (fun h => kt ((zI_lt hry hrx).mp h) H locs ls hW hS hl) (fun h => kf (Int.not_lt.mp fun z => h ((zI_lt hry hrx).mpr z)) H locs ls hW hS hl)
theorem V_icmp_le (C : Cx p l s m args meth c D kA b t0 nL own nm cc) {x y : Int} {off : Int} (d : DB cc pc (.if_icmp .le off) off 3 pc' tgt) (hrx : rng x) (hry : rng y)
    (kt : x ≤ y → V p l e R s m args below meth c D kA b nL (cells) (slots) (Q) X (tgt) (lv) (st)) (kf : y < x → V p l e R s m args below meth c D kA b nL (cells) (slots) (Q) X (pc') (lv) (st)) : V p l e R s m args below meth c D kA b nL (cells) (slots) (Q) X (pc) (lv) (iv y :: iv x :: st) := by
  obtain ⟨hx, hb, hml, hown, hts, hlk, hK, hF, hst, hbs, hnm⟩ := C
  obtain ⟨d, rfl, ht⟩ := d
  intro H locs ls hW hS hl
  exact lv_icmp_le hx hb d ht (fun h => kt ((zI_le hrx hry).mp h) H locs ls hW hS hl) (fun h => kf (Int.not_le.mp fun z => h ((zI_le hrx hry).mpr z)) H locs ls hW hS hl)
theorem V_acmp_eq (C : Cx p l s m args meth c D kA b t0 nL own nm cc) {x y : Option Nat} {off : Int} (d : DB cc pc (.if_acmp .eq off) off 3 pc' tgt) 
    (kt : x = y → V p l e R s m args below meth c D kA b nL (cells) (slots) (Q) X (tgt) (lv) (st)) (kf : x ≠ y → V p l e R s m args below meth c D kA b nL (cells) (slots) (Q) X (pc') (lv) (st)) : V p l e R s m args below meth c D kA b nL (cells) (slots) (Q) X (pc) (lv) (rv y :: rv x :: st) := by
  obtain ⟨hx, hb, hml, hown, hts, hlk, hK, hF, hst, hbs, hnm⟩ := C
  obtain ⟨d, rfl, ht⟩ := d
  intro H locs ls hW hS hl
  exact lv_acmp_eq hx hb d ht (fun h => kt h H locs ls hW hS hl) (fun h => kf h H locs ls hW hS hl)
theorem V_acmp_ne (C : Cx p l s m args meth c D kA b t0 nL own nm cc) {x y : Option Nat} {off : Int} (d : DB cc pc (.if_acmp .ne off) off 3 pc' tgt) 
    (kt : x ≠ y → V p l e R s m args below meth c D kA b nL (cells) (slots) (Q) X (tgt) (lv) (st)) (kf : x = y → V p l e R s m args below meth c D kA b nL (cells) (slots) (Q) X (pc') (lv) (st)) : V p l e R s m args below meth c D kA b nL (cells) (slots) (Q) X (pc) (lv) (rv y :: rv x :: st) := by
  obtain ⟨hx, hb, hml, hown, hts, hlk, hK, hF, hst, hbs, hnm⟩ := C
  obtain ⟨d, rfl, ht⟩ := d
  intro H locs ls hW hS hl
  exact lv_acmp_ne hx hb d ht (fun h => kt h H locs ls hW hS hl) (fun h => kf h H locs ls hW hS hl)
theorem V_ifnull (C : Cx p l s m args meth c D kA b t0 nL own nm cc) {x : Option Nat} {off : Int} (d : DB cc pc (.ifnull off) off 3 pc' tgt) 
    (kt : x = none → V p l e R s m args below meth c D kA b nL (cells) (slots) (Q) X (tgt) (lv) (st)) (kf : x ≠ none → V p l e R s m args below meth c D kA b nL (cells) (slots) (Q) X (pc') (lv) (st)) : V p l e R s m args below meth c D kA b nL (cells) (slots) (Q) X (pc) (lv) (rv x :: st) := by
  obtain ⟨hx, hb, hml, hown, hts, hlk, hK, hF, hst, hbs, hnm⟩ := C
  obtain ⟨d, rfl, ht⟩ := d
  intro H locs ls hW hS hl
  cases x with
  | none => exact lv_ifnullN hx hb d ht (kt rfl H locs ls hW hS hl)
  | some y => exact lv_ifnull hx hb d (kf (fun h => nomatch h) H locs ls hW hS hl)
theorem V_goto (C : Cx p l s m args meth c D kA b t0 nL own nm cc) {off : Int} (d : DB cc pc (.goto off) off 3 pc' tgt) (k : V p l e R s m args below meth c D kA b nL (cells) (slots) (Q) X (tgt) (lv) (st)) : V p l e R s m args below meth c D kA b nL (cells) (slots) (Q) X (pc) (lv) (st) := by
  obtain ⟨hx, hb, hml, hown, hts, hlk, hK, hF, hst, hbs, hnm⟩ := C
  obtain ⟨d, rfl, ht⟩ := d
  intro H locs ls hW hS hl
  exact lv_goto hx hb d ht (k H locs ls hW hS hl)
theorem V_tin (C : Cx p l s m args meth c D kA b t0 nL own nm cc) {dflt lo9 hi9 : Int} {offs : Array Int} {len : Nat} {x off : Int} (d : DI cc pc (.tableswitch dflt lo9 hi9 offs) len pc') (hr : rng x) (h1 : lo9 ≤ x) (h2 : x ≤ hi9) (ho : offs[(x - lo9).toNat]? = some off) (ht : (pc : Int) + off = (tgt : Int))
    (k : V p l e R s m args below meth c D kA b nL (cells) (slots) (Q) X (tgt) (lv) (st)) : V p l e R s m args below meth c D kA b nL (cells) (slots) (Q) X (pc) (lv) (iv x :: st) := by
  obtain ⟨hx, hb, hml, hown, hts, hlk, hK, hF, hst, hbs, hnm⟩ := C
  obtain ⟨d, -⟩ := d
  intro H locs ls hW hS hl
  have e := zI_int hr
  exact lv_tableIn hx hb d (by rw [e]; omega) (by rw [e]; omega) (by rw [e]; exact ho) ht (k H locs ls hW hS hl)
theorem V_tout (C : Cx p l s m args meth c D kA b t0 nL own nm cc) {dflt lo9 hi9 : Int} {offs : Array Int} {len : Nat} {x : Int} (d : DI cc pc (.tableswitch dflt lo9 hi9 offs) len pc') (hr : rng x) (h1 : x < lo9 ∨ hi9 < x) (ht : (pc : Int) + dflt = (tgt : Int))
    (k : V p l e R s m args below meth c D kA b nL (cells) (slots) (Q) X (tgt) (lv) (st)) : V p l e R s m args below meth c D kA b nL (cells) (slots) (Q) X (pc) (lv) (iv x :: st) := by
  obtain ⟨hx, hb, hml, hown, hts, hlk, hK, hF, hst, hbs, hnm⟩ := C
  obtain ⟨d, -⟩ := d
  intro H locs ls hW hS hl
  have e := zI_int hr
  exact lv_tableOut hx hb d (by rw [e]; exact h1) ht (k H locs ls hW hS hl)
end VS
