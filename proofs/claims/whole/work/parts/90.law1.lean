/-! the law: methods that catch -/
section CTH
variable {p : Program} {l : Launch} {e : Env} {R : Room} {s : State} {m : MethodId} {args : Array Value} {below : List Frame} {meth : Method} {c : Code}
variable {D : va_G} {kA : Nat → ClassId} {b t0 nL cells slots : Nat} {Q : State → Prop} {own nm : String} {cc : ByteArray} {X : Mm} {pc pc' tgt : Nat} {lv : List (Option Value)} {st : List Value}
variable {y : MethodName} {cy : ByteArray} {n : Nat} {ret : Option FieldType} {hh : List (Nat × Nat × Nat × Nat)} {fr lc mc ms : Nat} {post : Option Value → Mm → Prop} {px : String → Mm → Prop}
def CtH (l : Launch) (D : va_G) (kA : Nat → ClassId) (b t0 : Nat) (y : MethodName) (cy : ByteArray) (n : Nat) (ret : Option FieldType) (hh : List (Nat × Nat × Nat × Nat)) (fr lc : Nat) (av : List Value) (X : Mm) (mc ms : Nat) (post : Option Value → Mm → Prop) (px : String → Mm → Prop) : Prop :=
  vx_Met l y (.codeWith y cy n ret hh :: TBL) { frames := fr, cells := mc, slots := ms, locals := lc } (va_Pc av (Pw D kA b t0 X)) (Qk D kA b post) (Xk D kA b px) mc ms (Ab b)
theorem CtH_mk {av : List Value} (hl : l.stackTraces = false) (hy : plainName y.cls = true) (hn : av.length ≤ n) (hc : av.all (fun v => v.category == 1) = true)
    (body : ∀ (p : Program) (e : Env) (s : State) (m : MethodId) (args : Array Value) (below : List Frame) (meth : Method) (c : Code), Cx p l s m args meth c D kA b t0 n y.cls y.name cy → meth.sig.returnType = ret → c.exceptionTable.toList = tableOf hh → V p l e { frames := fr, cells := mc, slots := ms, locals := lc } s m args below meth c D kA b n 0 0 (vx_MQ below (Qk D kA b post) (Xk D kA b px) args s mc ms (Ab b)) X 0 (av.map some ++ List.replicate (n - av.length) none) []) : CtH l D kA b t0 y cy n ret hh fr lc av X mc ms post px := by
  refine vx_ofWH (cc := cy) (maxL := n) (ret := ret) (hh := hh) hy rfl ?_
  intro p e s m args below meth c s₁ B hml hv
  have ht := vx_table (x := y) B (atoms_spec (ws := .codeWith y cy n ret hh :: TBL) B.pre _ List.mem_cons_self)
  obtain ⟨rfl, hW, hK, hF, hb⟩ := hv
  have hts := atoms_spec (ws := .codeWith y cy n ret hh :: TBL) B.pre
  rw [lg_entry_eq]
  exact body p e s m _ below meth c ⟨B.exec, B.bytes, hml, findClass_of_methodNamed B.named, fun w hw => hts w (List.mem_cons_of_mem _ hw), B.notSynchronized, hK, hF, hl, hb, (name_of_methodNamed B.named B.method).1⟩ B.returns ht s.heap [] _ hW va_S.rf (lvO_entry hn (fun v hv => by have := List.all_eq_true.mp hc v hv; simpa using this))
def KSH (own : String) (index : Nat) (y : MethodName) (cy : ByteArray) (n : Nat) (ret : Option FieldType) (hh : List (Nat × Nat × Nat × Nat)) (k : Nat) : Prop := Cond.methodLink own index y ∈ TBL ∧ Cond.static y ∈ TBL ∧ Cond.initialized y.cls ∈ TBL ∧ Cond.codeWith y cy n ret hh ∈ TBL ∧ y.cls ≠ "java/lang/invoke/MethodHandle" ∧ y.cls ≠ "java/lang/invoke/VarHandle" ∧ (parseMethodDescriptor y.desc).map (fun d => d.parameters.length) = some k
theorem V_callSH (C : Cx p l s m args meth c D kA b t0 nL own nm cc) {st0 As : List Value} {k idx : Nat} (hM : CtH l D kA b t0 y cy n ret hh fr lc As X mc ms post px) (kv : KSH own idx y cy n ret hh k) (hst0 : st0 = As.reverse ++ st) (hn : As.length = k) (hcat : (st.map fun v => v.category).sum ≤ 8) (hR : fr + 1 ≤ R.frames ∧ 8 + (n + 11) + lc ≤ R.locals) (hf : cells + mc ≤ R.cells ∧ slots + ms ≤ R.slots)
    (d : DI cc pc (.invokestatic idx) 3 pc') (kx : ∀ (E : String) (Y : Mm), px E Y → VX p l e R s m args below meth c D kA b nL (cells + mc) (slots + ms) (Q) Y (pc) (lv) (E)) (kk : ∀ (v : Option Value) (Y : Mm), post v Y → V p l e R s m args below meth c D kA b nL (cells + mc) (slots + ms) (Q) Y (pc') (lv) (v.toList ++ st)) : V p l e R s m args below meth c D kA b nL (cells) (slots) (Q) X (pc) (lv) (st0) := by
  subst hst0
  obtain ⟨h1, h2, h4, h5, h6⟩ := kv
  obtain ⟨d, rfl⟩ := d
  refine V_runs C (mc := mc) (ms := ms) (a := As.toArray) (fun H locs ls hW hS hl => ?_) kx kk
  have C2 := C
  obtain ⟨hx, hb, hml, hown, hts, hlk, hK, hF, hst, hbs, hnm⟩ := C
  exact vx_runSX (hh := hh) ⟨hx, hb, hml, hown, hts⟩ hM (vx_cwSW (Ts := TBL) k hts (TBL_good (fun w h => by
    unfold va_wsS at h
    rcases List.mem_append.mp h with h | h
    · simp only [List.mem_cons, List.not_mem_nil, or_false] at h
      rcases h with rfl | rfl | rfl
      · exact h1
      · exact h2
      · exact h4
    · rcases List.mem_cons.mp h with rfl | h
      · exact h5
      · exact h)) rfl rfl rfl h6 hR) ⟨Pw_blind, fun U hU hw => ⟨rfl, Pw_at C2 hW hS U hU hw⟩⟩ rfl hn hl.1 rfl (lv_room hcat) d hf
/-- caught here -/
theorem V_catch (C : Cx p l s m args meth c D kA b t0 nL own nm cc) {E name : String} (ht : c.exceptionTable.toList = tableOf hh) (pre : List ExceptionTableEntry) (x : ExceptionTableEntry) (suf : List ExceptionTableEntry) (hsplit : tableOf hh = pre ++ x :: suf) (hpass : ∀ z ∈ pre, covers z pc = false ∨ (z.catchType ≠ 0 ∧ ∃ nm : String, Cond.classLink own z.catchType nm ∈ TBL ∧ va_Nc E nm s)) (hx : covers x pc = true) (h0 : x.catchType ≠ 0) (hlink : Cond.classLink own x.catchType name ∈ TBL) (hcast : Cond.castable E name ∈ NW) (hpc : x.handlerPc = tgt)
    (k : ∀ q : Nat, V p l e R s m args below meth c D kA b nL (cells) (slots) (Q) X (tgt) (lv) ([rv (some q)])) : VX p l e R s m args below meth c D kA b nL (cells) (slots) (Q) X (pc) (lv) (E) := by
  subst hpc
  obtain ⟨hxx, hb, hml, hown, hts, hlk, hK, hF, hst, hbs, hnm⟩ := C
  intro H locs ls rest q ce hW hS hl h1 h2 h3
  exact vx_catch hown pre x suf (ht.trans hsplit) (fun z hz => by
    rcases hpass z hz with h | ⟨hz0, n2, hl1, hn1⟩
    · exact Or.inl h
    · exact Or.inr ⟨hz0, n2, hts _ hl1, hn1⟩) hx h0 (hts _ hlink) (va_Nw.use (A := args) rfl (hF.2.2.2.2.2.2.2.1 _ hcast)) h1 h2 h3 (k q H locs ls hW hS hl)
/-- classes of exceptions that aren't each other's -/
theorem Cx.n1 (C : Cx p l s m args meth c D kA b t0 nL own nm cc) : va_Nc "java/lang/IllegalArgumentException" "java/lang/IndexOutOfBoundsException" s := C.2.2.2.2.2.2.2.1.2.2.2.2.1
theorem Cx.n2 (C : Cx p l s m args meth c D kA b t0 nL own nm cc) : va_Nc "java/lang/IllegalStateException" "java/lang/IndexOutOfBoundsException" s := C.2.2.2.2.2.2.2.1.2.2.2.2.2.1
theorem Cx.n3 (C : Cx p l s m args meth c D kA b t0 nL own nm cc) : va_Nc "java/lang/IllegalStateException" "java/lang/IllegalArgumentException" s := C.2.2.2.2.2.2.2.1.2.2.2.2.2.2.1
end CTH
theorem iv_rng (r : Int) : ∃ z, rng z ∧ iv z = iv r := by
  obtain ⟨z, h1, h2⟩ := zI_of (zI r)
  exact ⟨z, h1, congrArg Value.int h2.symm⟩
theorem CX.ao {t0 ao mo : Nat} {ad : Nat → Nat} {L : Ly} {X : Mm} {Z : Zs} {Mr : Mo} (h : CX t0 ao mo ad L X Z Mr) : gK X ao = 22 ∧ gN X ao = 1 := h.2.2.2.2.2.2.2.2.2
/-- the law's own cell changes -/
theorem CX.out {t0 ao mo : Nat} {ad : Nat → Nat} {L : Ly} {X : Mm} {Z : Zs} {Mr : Mo} {v : Int} (h : CX t0 ao mo ad L X Z Mr) : CX t0 ao mo ad L (sA X ao 0 v) Z Mr := by
  obtain ⟨h1, h2, h3, h4, h5, h6, h7, h8, h9, hO⟩ := h
  refine ⟨h1.kept (fun a ha => eqc_sA (fun e => ?_)), h2, h3, h4, h5, h6, fun j hj => ⟨(h7 j hj).1.same rfl rfl rfl rfl rfl, (h7 j hj).2⟩, h8, fun k hk => ?_, hO⟩
  · rcases h1.kind ha with z | z | z <;> (rw [e] at z; omega)
  · obtain ⟨g1, g2, g3, g4⟩ := h9 k hk
    refine ⟨g1, g2, fun i => ?_, g4⟩
    rw [gA_sA, if_neg (fun z => by have := z.1; rw [this] at g1; omega)]
    exact g3 i
/-- what the law's helpers leave -/
def LQ (t0 ao mo : Nat) (ad : Nat → Nat) (L : Ly) (Mr : Mo) (w : Int → Int) (P : Mo → Int → Prop) (v : Option Value) (Y : Mm) : Prop := RR mo ad Y Mr ∧ ∃ k, v = some (iv k) ∧ (0 ≤ k ∧ k ≤ 3) ∧ ∀ M2 r, P M2 r → M2.1 0 = k ∧ (k = 0 → ∃ zz, rng zz ∧ iv zz = iv r ∧ gA Y ao 0 = w zz) ∧ clR t0 ao mo ad L Mr M2 Y
section LQS
variable {t0 ao mo : Nat} {ad : Nat → Nat} {L : Ly} {Y : Mm} {Mr M2 : Mo} {w : Int → Int} {P : Mo → Int → Prop} {r k zz : Int}
theorem clR_rr (h : clR t0 ao mo ad L Mr M2 Y) : RR mo ad Y Mr := by
  obtain ⟨L2, Z2, h1, -⟩ := h
  exact h1.1
theorem LQ_no (hP : ∀ M3 r3, P M3 r3 → M3 = M2 ∧ r3 = r) (h0 : M2.1 0 = k) (hk : 1 ≤ k ∧ k ≤ 3) (hcl : clR t0 ao mo ad L Mr M2 Y) : LQ t0 ao mo ad L Mr w P (some (iv k)) Y := by
  refine ⟨clR_rr hcl, k, rfl, by omega, fun M3 r3 h => ?_⟩
  obtain ⟨rfl, rfl⟩ := hP M3 r3 h
  exact ⟨h0, fun e => by omega, hcl⟩
theorem LQ_yes (hP : ∀ M3 r3, P M3 r3 → M3 = M2 ∧ r3 = r) (h0 : M2.1 0 = 0) (hz : rng zz) (ez : iv zz = iv r) (hcl : clR t0 ao mo ad L Mr M2 Y) : LQ t0 ao mo ad L Mr w P (some (iv 0)) (sA Y ao 0 (w zz)) := by
  obtain ⟨L2, Z2, h1, h2, h3⟩ := hcl
  refine ⟨h1.out.1, 0, rfl, by omega, fun M3 r3 h => ?_⟩
  obtain ⟨rfl, rfl⟩ := hP M3 r3 h
  exact ⟨h0, fun _ => ⟨zz, hz, ez, if_pos ⟨rfl, rfl⟩⟩, L2, Z2, h1.out, h2, h3⟩
theorem clR_ao (h : clR t0 ao mo ad L Mr M2 Y) : gK Y ao = 22 ∧ gN Y ao = 1 := by
  obtain ⟨L2, Z2, h1, -⟩ := h
  exact h1.ao
end LQS
/-- bookings and plugging give one answer -/
theorem booP_uni {M M2 M3 : Mo} {z c f mi r r3 : Int} (h : booP M z c f mi M2 r) (g : booP M z c f mi M3 r3) : M3 = M2 ∧ r3 = r := by
  rcases h with ⟨a1, rfl, rfl⟩ | ⟨a1, a2, rfl, rfl⟩ | ⟨a1, a2, a3, rfl, rfl⟩ | ⟨a1, a2, a3, rfl, rfl⟩ <;> rcases g with ⟨b1, rfl, rfl⟩ | ⟨b1, b2, rfl, rfl⟩ | ⟨b1, b2, b3, rfl, rfl⟩ | ⟨b1, b2, b3, rfl, rfl⟩ <;> first | exact ⟨rfl, rfl⟩ | contradiction
theorem hld_eq {M : Mo} {s : Nat} {h g : Int} (a : hldM M s h) (c : hldM M s g) : h = g := by
  rcases a with ⟨a1, a2⟩ | ⟨a1, a2, a3, a4⟩
  · rcases c with ⟨c1, c2⟩ | ⟨c1, c2, c3, c4⟩
    · omega
    · have := a2 g.toNat (by omega)
      omega
  · rcases c with ⟨c1, c2⟩ | ⟨c1, c2, c3, c4⟩
    · have := c2 h.toNat (by omega)
      omega
    · rcases Int.lt_trichotomy h g with e | e | e
      · have := c4 h.toNat (by omega)
        omega
      · exact e
      · have := a4 g.toNat (by omega)
        omega
theorem pluP_uni {M M2 M3 : Mo} {n : Nat} {z c k r r3 : Int} (h : pluP M n z c k M2 r) (g : pluP M n z c k M3 r3) : M3 = M2 ∧ r3 = r := by
  rcases h with ⟨a1, rfl, rfl⟩ | ⟨a1, h⟩
  · rcases g with ⟨b1, rfl, rfl⟩ | ⟨b1, g⟩
    · exact ⟨rfl, rfl⟩
    · exact absurd b1 a1
  · rcases g with ⟨b1, rfl, rfl⟩ | ⟨b1, g⟩
    · exact absurd a1 b1
    · rcases h with ⟨a2, rfl, rfl⟩ | ⟨a2, rfl, a3, rfl⟩ | ⟨a2, rfl, a3, a4, rfl⟩ | ⟨a2, rfl, a3, a4, a5, rfl⟩ | ⟨a2, a3, a4, a5, h1, ah, h⟩ <;> rcases g with ⟨b2, rfl, rfl⟩ | ⟨b2, rfl, b3, rfl⟩ | ⟨b2, rfl, b3, b4, rfl⟩ | ⟨b2, rfl, b3, b4, b5, rfl⟩ | ⟨b2, b3, b4, b5, h2, bh, g⟩ <;> first | exact ⟨rfl, rfl⟩ | (exfalso; omega) | contradiction | skip
      obtain rfl := hld_eq ah bh
      rcases h with ⟨rfl, a6, a7, rfl⟩ | ⟨rfl, a6, a7, rfl⟩ | ⟨a6, a7, rfl, rfl⟩
      · rcases g with ⟨rfl, b6, b7, rfl⟩ | ⟨rfl, b6, b7, rfl⟩ | ⟨b6, b7, rfl, rfl⟩
        · exact ⟨rfl, rfl⟩
        · exact absurd ⟨a6, a7⟩ b6
        · exact absurd ⟨a6, a7⟩ b6
      · rcases g with ⟨rfl, b6, b7, rfl⟩ | ⟨rfl, b6, b7, rfl⟩ | ⟨b6, b7, rfl, rfl⟩
        · exact absurd ⟨b6, b7⟩ a6
        · exact ⟨rfl, rfl⟩
        · exact absurd a7 b7
      · rcases g with ⟨rfl, b6, b7, rfl⟩ | ⟨rfl, b6, b7, rfl⟩ | ⟨b6, b7, rfl, rfl⟩
        · exact absurd ⟨b6, b7⟩ a6
        · exact absurd b7 a7
        · exact ⟨rfl, rfl⟩
