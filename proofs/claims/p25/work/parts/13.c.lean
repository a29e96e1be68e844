/-! entry, ends, calls, throws -/
section VC
variable {p : Program} {l : Launch} {e : Env} {R : Room} {s : State} {m : MethodId} {args : Array Value} {below : List Frame} {meth : Method} {c : Code}
variable {D : va_G} {kA : Nat → ClassId} {b t0 nL cells slots : Nat} {Q : State → Prop} {own nm : String} {cc : ByteArray} {X : Mm} {pc pc' tgt : Nat} {lv : List (Option Value)} {st : List Value}

variable {y : MethodName} {cy : ByteArray} {n fr lc mc ms : Nat} {ret : Option FieldType} {post : Option Value → Mm → Prop} {px : String → Mm → Prop}
theorem lvO_entry {av : List Value} {nL : Nat} (hn : av.length ≤ nL) (hc : ∀ v ∈ av, v.category = 1) : lvO ((lg_sl av ++ List.replicate (nL - (lg_sl av).length) Slot.unset).toArray) nL (av.map some ++ List.replicate (nL - av.length) none) := by
  have e : (lg_sl av).length = av.length := by
    clear hn
    induction av with
    | nil => rfl
    | cons v vs ih =>
      have h1 := hc v List.mem_cons_self
      have h2 := ih (fun x hx => hc x (List.mem_cons_of_mem _ hx))
      simp [lg_sl, h1] at h2 ⊢
      exact h2
  have h := lv_entry av (n := nL) (by omega)
  refine ⟨h.1, h.2.1, fun i v hi => ?_⟩
  by_cases hl : i < av.length
  · rw [List.getElem?_append_left (by simpa using hl), List.getElem?_map] at hi
    have h3 : av[i]? = some v := by
      cases hh : av[i]? with
      | none => rw [hh] at hi; simp at hi
      | some w => rw [hh] at hi; simp at hi; rw [hi]
    have h4 := lv_args_mem av 0 i v hc h3
    rw [Nat.zero_add] at h4
    exact h.2.2 (i, v) h4
  · rw [List.getElem?_append_right (by simpa using hl)] at hi
    rw [List.getElem?_replicate] at hi
    split at hi <;> simp at hi
theorem Ct_mk {av : List Value} (hl : l.stackTraces = false) (hy : plainName y.cls = true) (hn : av.length ≤ n) (hc : av.all (fun v => v.category == 1) = true)
    (body : ∀ (p : Program) (e : Env) (s : State) (m : MethodId) (args : Array Value) (below : List Frame) (meth : Method) (c : Code), Cx p l s m args meth c D kA b t0 n y.cls y.name cy → meth.sig.returnType = ret → (∀ x ∈ c.exceptionTable.toList, False) → V p l e { frames := fr, cells := mc, slots := ms, locals := lc } s m args below meth c D kA b n 0 0 (vx_MQ below (Qk D kA b post) (Xk D kA b px) args s mc ms (Ab b)) X 0 (av.map some ++ List.replicate (n - av.length) none) []) : Ct l D kA b t0 y cy n ret fr lc av X mc ms post px := by
  refine vx_ofW (cc := cy) (maxL := n) (ret := ret) hy rfl ?_
  intro p e s m args below meth c s₁ B hml ht hv
  obtain ⟨rfl, hW, hK, hF, hb⟩ := hv
  have hts := atoms_spec (ws := .code y cy n ret :: TBL) B.pre
  rw [lg_entry_eq]
  exact body p e s m _ below meth c ⟨B.exec, B.bytes, hml, findClass_of_methodNamed B.named, fun w hw => hts w (List.mem_cons_of_mem _ hw), B.notSynchronized, hK, hF, hl, hb, (name_of_methodNamed B.named B.method).1⟩ B.returns ht s.heap [] _ hW va_S.rf (lvO_entry hn (fun v hv => by have := List.all_eq_true.mp hc v hv; simpa using this))

theorem V_iret (C : Cx p l s m args meth c D kA b t0 nL own nm cc) {z : Int} (hc1 : cells ≤ mc) (hs1 : slots ≤ ms) (hp : post (some (iv z)) X) (hr : meth.sig.returnType = some .int) (d : DI cc pc .ireturn 1 pc') : V p l e R s m args below meth c D kA b nL (cells) (slots) ((vx_MQ below (Qk D kA b post) (Xk D kA b px) args s mc ms (Ab b))) X (pc) (lv) (iv z :: []) := by
  obtain ⟨hx, hb, hml, hown, hts, hlk, hK, hF, hst, hbs, hnm⟩ := C
  obtain ⟨d, rfl⟩ := d
  intro H locs ls hW hS hl
  refine W.widen hc1 hs1 (vx_ret ?_)
  exact W.iret hx hb hr (fun t ht hw => ⟨⟨_, X, rfl, hp, by rw [ht]; exact hW⟩, hS.F ht⟩) (fun q hq => hS.2.2 q hq) d hlk
theorem V_zret (C : Cx p l s m args meth c D kA b t0 nL own nm cc) {z : Int} (hc1 : cells ≤ mc) (hs1 : slots ≤ ms) (hp : post (some (iv z)) X) (hr : meth.sig.returnType = some .boolean) (hz : z = 0 ∨ z = 1) (d : DI cc pc .ireturn 1 pc') : V p l e R s m args below meth c D kA b nL (cells) (slots) ((vx_MQ below (Qk D kA b post) (Xk D kA b px) args s mc ms (Ab b))) X (pc) (lv) (iv z :: []) := by
  obtain ⟨hx, hb, hml, hown, hts, hlk, hK, hF, hst, hbs, hnm⟩ := C
  obtain ⟨d, rfl⟩ := d
  intro H locs ls hW hS hl
  refine W.widen hc1 hs1 (vx_ret ?_)
  exact W.zret hx hb hr (by rcases hz with rfl | rfl <;> rfl) (fun t ht hw => ⟨⟨_, X, rfl, hp, by rw [ht]; exact hW⟩, hS.F ht⟩) (fun q hq => hS.2.2 q hq) d hlk
theorem V_vret (C : Cx p l s m args meth c D kA b t0 nL own nm cc)  (hc1 : cells ≤ mc) (hs1 : slots ≤ ms) (hp : post none X) (hr : meth.sig.returnType = none) (d : DI cc pc .return_ 1 pc') : V p l e R s m args below meth c D kA b nL (cells) (slots) ((vx_MQ below (Qk D kA b post) (Xk D kA b px) args s mc ms (Ab b))) X (pc) (lv) ([]) := by
  obtain ⟨hx, hb, hml, hown, hts, hlk, hK, hF, hst, hbs, hnm⟩ := C
  obtain ⟨d, rfl⟩ := d
  intro H locs ls hW hS hl
  refine W.widen hc1 hs1 (vx_ret ?_)
  exact W.vret hx hb hr (fun t ht hw => ⟨⟨_, X, rfl, hp, by rw [ht]; exact hW⟩, hS.F ht⟩) (fun q hq => hS.2.2 q hq) d hlk
theorem V_aret (C : Cx p l s m args meth c D kA b t0 nL own nm cc) {r : Option Nat} {rt : FieldType} (hc1 : cells ≤ mc) (hs1 : slots ≤ ms) (hp : post (some (rv r)) X) (hr : meth.sig.returnType = some rt) (hrt : (∃ n, rt = .object n) ∨ ∃ t, rt = .array t) (d : DI cc pc .areturn 1 pc') : V p l e R s m args below meth c D kA b nL (cells) (slots) ((vx_MQ below (Qk D kA b post) (Xk D kA b px) args s mc ms (Ab b))) X (pc) (lv) (rv r :: []) := by
  obtain ⟨hx, hb, hml, hown, hts, hlk, hK, hF, hst, hbs, hnm⟩ := C
  obtain ⟨d, rfl⟩ := d
  intro H locs ls hW hS hl
  refine W.widen hc1 hs1 (vx_ret ?_)
  exact W.aret hx hb hr hrt (by cases r with | none => exact Or.inl rfl | some x => exact Or.inr ⟨x, rfl⟩) (fun t ht hw => ⟨⟨_, X, rfl, hp, by rw [ht]; exact hW⟩, hS.F ht⟩) (fun q hq => hS.2.2 q hq) d hlk
theorem V_widen {k2 n2 : Nat} (h1 : cells ≤ k2) (h2 : slots ≤ n2) (k : V p l e R s m args below meth c D kA b nL (k2) (n2) (Q) X (pc) (lv) (st)) : V p l e R s m args below meth c D kA b nL (cells) (slots) (Q) X (pc) (lv) (st) := fun H locs ls hW hS hl => W.widen h1 h2 (k H locs ls hW hS hl)
/-- the exception leaves the method -/
theorem VX_out (C : Cx p l s m args meth c D kA b t0 nL own nm cc) {E : String} (hout : ∀ x ∈ c.exceptionTable.toList, False) (hc1 : cells ≤ mc) (hs1 : slots ≤ ms) (hp : px E X) : VX p l e R s m args below meth c D kA b nL (cells) (slots) ((vx_MQ below (Qk D kA b post) (Xk D kA b px) args s mc ms (Ab b))) X (pc) (lv) (E) := by
  obtain ⟨hx, hb, hml, hown, hts, hlk, hK, hF, hst, hbs, hnm⟩ := C
  intro H locs ls rest q ce hW hS hl h1 h2 h3
  exact vx_out (fun x hx => (hout x hx).elim) hlk h1 h2 h3 (fun t ht _ => ⟨⟨X, hp, by rw [ht]; exact hW⟩, hS.F ht⟩) (fun q hq => hS.2.2 q hq) hc1 hs1
/-- behind a call -/
theorem V_runs (C : Cx p l s m args meth c D kA b t0 nL own nm cc) {st0 : List Value} {mc ms : Nat} {a : Array Value} (hr : ∀ (H : Heap) (locs : List Loc) (ls : Array Slot), wd D kA b X H → va_S (Ab b) s.heap H locs → lvO ls nL lv → vx_Run p l e R s m args below meth c H locs cells slots mc ms (F0 m pc ls st0) st (Qk D kA b post a) (Xk D kA b px) (Ab b))
    (kx : ∀ (E : String) (Y : Mm), px E Y → VX p l e R s m args below meth c D kA b nL (cells + mc) (slots + ms) (Q) Y (pc) (lv) (E)) (kk : ∀ (v : Option Value) (Y : Mm), post v Y → V p l e R s m args below meth c D kA b nL (cells + mc) (slots + ms) (Q) Y ((pc + 3)) (lv) (v.toList ++ st)) : V p l e R s m args below meth c D kA b nL (cells) (slots) (Q) X (pc) (lv) (st0) := by
  obtain ⟨hx, hb, hml, hown, hts, hlk, hK, hF, hst, hbs, hnm⟩ := C
  intro H locs ls hW hS hl T hT X9
  rcases hr H locs ls hW hS hl T hT X9 with ⟨v, st₀, t, T', L, h0, X', hL, e1, e2, ⟨⟨v2, Y, hv, hp, hW2⟩, hF2⟩, st⟩ | ⟨q, st₀, t, T', L, E, ce, h0, X', hL, e1, e2, ⟨⟨Y, hp, hW2⟩, hF2⟩, hce, hcv, hcl, st⟩
  · cases hv
    obtain ⟨k1, k2, k3⟩ := vx_keep h0 e1 hS (fun _ _ h => h) (fun _ h => h) hL hF2
    obtain ⟨t2, a1, b1⟩ := kk v Y hp T'.heap (locs ++ L) ls (by rw [e1]; exact hW2) k3 hl T' rfl X'
    exact ⟨t2, st t2 a1, b1⟩
  · obtain ⟨k1, k2, k3⟩ := vx_keep h0 e1 hS (fun _ _ h => h) (fun _ h => h) hL hF2
    obtain ⟨t2, a1, b1⟩ := kx E Y hp T'.heap (locs ++ L) ls _ q ce (by rw [e1]; exact hW2) k3 hl (by rw [e1]; exact hce) hcv hcl T' rfl X'
    exact ⟨t2, st.trans a1, b1⟩
theorem Pw_blind {av : List Value} : FrameBlind (va_Pc av (Pw D kA b t0 X)) := fun a U g mk q => by
  obtain ⟨q0, q1, q2, q3, q4⟩ := q
  exact ⟨q0, q1, va_K.moved (u := U) (U := U.calling g mk a) (Vm.Alike.refl U.vm) q2, q3.calling g mk a, q4⟩
theorem Pw_at (C : Cx p l s m args meth c D kA b t0 nL own nm cc) {H : Heap} {locs : List Loc} (hW : wd D kA b X H) (hS : va_S (Ab b) s.heap H locs) (U : State) (hU : U.heap = H) (hw : s.WarmedH U.vm) : Pw D kA b t0 X U := by
  obtain ⟨hx, hb, hml, hown, hts, hlk, hK, hF, hst, hbs, hnm⟩ := C
  refine ⟨by rw [hU]; exact hW, hK.moved hw.alike, ?_, by rw [hU]; exact Nat.le_trans hbs hS.1⟩
  rw [hU]
  exact (hF.kept (fun a h1 h2 => hS.2.1 a h1 h2)).warm hw
theorem hts_in {own own9 : String} {index k : Nat} {rm : Room} (C : Cx p l s m args meth c D kA b t0 nL own9 nm cc) (hrc : rm.cells = mc) (hrs : rm.slots = ms) (hcode : Cond.code y cy n ret ∈ TBL) (hini : Cond.initialized y.cls ∈ TBL) (hl : Cond.methodLink own index y ∈ TBL) (hd : y.cls ≠ "java/lang/invoke/MethodHandle" ∧ y.cls ≠ "java/lang/invoke/VarHandle" ∧ (parseMethodDescriptor y.desc).map (fun d => d.parameters.length) = some k) (hR : rm.frames + 1 ≤ R.frames ∧ 8 + (n + 11) + rm.locals ≤ R.locals) : CallB R s args own index y cy n ret (.code y cy n ret :: TBL) rm mc ms k := by
  obtain ⟨hx, hb, hml, hown, hts, hlk, hK, hF, hst, hbs, hnm⟩ := C
  exact callB_of (Ts := TBL) k hts (TBL_good (fun w h => (List.mem_cons.mp h).elim (fun e => by rw [e]; exact hcode) (fun h => h))) rfl hrc hrs (hts _ hini) (hts _ hl) hd hR
theorem V_callV (C : Cx p l s m args meth c D kA b t0 nL own nm cc) {st0 As : List Value} {k idx : Nat} {a ci : Nat} (hM : Ct l D kA b t0 y cy n ret fr lc (rv (some a) :: As) X mc ms post px) (kv : KV own idx ci y cy n ret k) (ho : gK X a = ci + 1) (hst0 : st0 = As.reverse ++ rv (some a) :: st) (hn : As.length = k) (hcat : (st.map fun v => v.category).sum ≤ 8) (hR : fr + 1 ≤ R.frames ∧ 8 + (n + 11) + lc ≤ R.locals) (hf : cells + mc ≤ R.cells ∧ slots + ms ≤ R.slots)
    (d : DI cc pc (.invokevirtual idx) 3 pc') (kx : ∀ (E : String) (Y : Mm), px E Y → VX p l e R s m args below meth c D kA b nL (cells + mc) (slots + ms) (Q) Y (pc) (lv) (E)) (kk : ∀ (v : Option Value) (Y : Mm), post v Y → V p l e R s m args below meth c D kA b nL (cells + mc) (slots + ms) (Q) Y (pc') (lv) (v.toList ++ st)) : V p l e R s m args below meth c D kA b nL (cells) (slots) (Q) X (pc) (lv) (st0) := by
  subst hst0
  obtain ⟨⟨T, N, hcl, hci⟩, h1, h2, h3, h4, h5, h6⟩ := kv
  obtain ⟨d, rfl⟩ := d
  refine V_runs C (mc := mc) (ms := ms) (a := (rv (some a) :: As).toArray) (fun H locs ls hW hS hl => ?_) kx kk
  have C2 := C
  obtain ⟨hx, hb, hml, hown, hts, hlk, hK, hF, hst, hbs, hnm⟩ := C
  exact vx_runV (C := y.cls) ⟨hx, hb, hml, hown, hts⟩ hM ⟨hts_in C2 rfl rfl h5 h4 h1 h6 hR, hts _ h2, hts _ h3⟩ ⟨Pw_blind, va_recv hK (hW.P1 (cE_obj ho hci)) (q0 := 0) hcl rfl, fun U hU hw => ⟨rfl, Pw_at C2 hW hS U hU hw⟩⟩ rfl hn hl.1 rfl (lv_room hcat) d hf
theorem V_callS (C : Cx p l s m args meth c D kA b t0 nL own nm cc) {st0 As : List Value} {k idx : Nat}  (hM : Ct l D kA b t0 y cy n ret fr lc As X mc ms post px) (kv : KS own idx y cy n ret k) (hst0 : st0 = As.reverse ++ st) (hn : As.length = k) (hcat : (st.map fun v => v.category).sum ≤ 8) (hR : fr + 1 ≤ R.frames ∧ 8 + (n + 11) + lc ≤ R.locals) (hf : cells + mc ≤ R.cells ∧ slots + ms ≤ R.slots)
    (d : DI cc pc (.invokestatic idx) 3 pc') (kx : ∀ (E : String) (Y : Mm), px E Y → VX p l e R s m args below meth c D kA b nL (cells + mc) (slots + ms) (Q) Y (pc) (lv) (E)) (kk : ∀ (v : Option Value) (Y : Mm), post v Y → V p l e R s m args below meth c D kA b nL (cells + mc) (slots + ms) (Q) Y (pc') (lv) (v.toList ++ st)) : V p l e R s m args below meth c D kA b nL (cells) (slots) (Q) X (pc) (lv) (st0) := by
  subst hst0
  obtain ⟨h1, h2, h4, h5, h6⟩ := kv
  obtain ⟨d, rfl⟩ := d
  refine V_runs C (mc := mc) (ms := ms) (a := As.toArray) (fun H locs ls hW hS hl => ?_) kx kk
  have C2 := C
  obtain ⟨hx, hb, hml, hown, hts, hlk, hK, hF, hst, hbs, hnm⟩ := C
  exact vx_runS ⟨hx, hb, hml, hown, hts⟩ hM ⟨hts_in C2 rfl rfl h5 h4 h1 h6 hR, hts _ h2⟩ ⟨Pw_blind, fun U hU hw => ⟨rfl, Pw_at C2 hW hS U hU hw⟩⟩ rfl hn hl.1 rfl (lv_room hcat) d hf
theorem V_callI (C : Cx p l s m args meth c D kA b t0 nL own nm cc) {st0 As : List Value} {k idx : Nat} {a : Nat} (hM : Ct l D kA b t0 y cy n none fr lc (rv (some a) :: As) X mc ms post px) (kv : KI own idx y cy n k) (hst0 : st0 = As.reverse ++ rv (some a) :: st) (hn : As.length = k) (hcat : (st.map fun v => v.category).sum ≤ 8) (hR : fr + 1 ≤ R.frames ∧ 8 + (n + 11) + lc ≤ R.locals) (hf : cells + mc ≤ R.cells ∧ slots + ms ≤ R.slots)
    (d : DI cc pc (.invokespecial idx) 3 pc') (kx : ∀ (E : String) (Y : Mm), px E Y → VX p l e R s m args below meth c D kA b nL (cells + mc) (slots + ms) (Q) Y (pc) (lv) (E)) (kk : ∀ (v : Option Value) (Y : Mm), post v Y → V p l e R s m args below meth c D kA b nL (cells + mc) (slots + ms) (Q) Y (pc') (lv) (v.toList ++ st)) : V p l e R s m args below meth c D kA b nL (cells) (slots) (Q) X (pc) (lv) (st0) := by
  subst hst0
  obtain ⟨h1, h2, h3, h4, h5, h6⟩ := kv
  obtain ⟨d, rfl⟩ := d
  refine V_runs C (mc := mc) (ms := ms) (a := (rv (some a) :: As).toArray) (fun H locs ls hW hS hl => ?_) kx kk
  have C2 := C
  obtain ⟨hx, hb, hml, hown, hts, hlk, hK, hF, hst, hbs, hnm⟩ := C
  exact vx_runI ⟨hx, hb, hml, hown, hts⟩ hM ⟨hts_in C2 rfl rfl h5 h4 h1 h6 hR, h3, hts _ h2⟩ ⟨Pw_blind, fun U hU hw => ⟨rfl, Pw_at C2 hW hS U hU hw⟩⟩ rfl hn hl.1 rfl (lv_room hcat) d hf
theorem V_callM (C : Cx p l s m args meth c D kA b t0 nL own nm cc) {st0 As : List Value} {k idx : Nat} {a : Nat} {host : String} (hM : Ct l D kA b t0 y cy n none fr lc (rv (some a) :: As) X mc ms post px) (kv : KM own host idx y cy n k) (hst0 : st0 = As.reverse ++ rv (some a) :: st) (hn : As.length = k) (hcat : (st.map fun v => v.category).sum ≤ 8) (hR : fr + 1 ≤ R.frames ∧ 8 + (n + 11) + lc ≤ R.locals) (hf : cells + mc ≤ R.cells ∧ slots + ms ≤ R.slots)
    (d : DI cc pc (.invokespecial idx) 3 pc') (kx : ∀ (E : String) (Y : Mm), px E Y → VX p l e R s m args below meth c D kA b nL (cells + mc) (slots + ms) (Q) Y (pc) (lv) (E)) (kk : ∀ (v : Option Value) (Y : Mm), post v Y → V p l e R s m args below meth c D kA b nL (cells + mc) (slots + ms) (Q) Y (pc') (lv) (v.toList ++ st)) : V p l e R s m args below meth c D kA b nL (cells) (slots) (Q) X (pc) (lv) (st0) := by
  subst hst0
  obtain ⟨h1, h2, h3, h4, h5, h6⟩ := kv
  obtain ⟨d, rfl⟩ := d
  refine V_runs C (mc := mc) (ms := ms) (a := (rv (some a) :: As).toArray) (fun H locs ls hW hS hl => ?_) kx kk
  have C2 := C
  obtain ⟨hx, hb, hml, hown, hts, hlk, hK, hF, hst, hbs, hnm⟩ := C
  exact vx_runIN ⟨hx, hb, hml, hown, hts⟩ hM ⟨va_cnB (Ts := TBL) k hts (TBL_good (fun w h => (List.mem_cons.mp h).elim (fun e => by rw [e]; exact h5) (fun h => h))) rfl rfl rfl (hF.2.2.2.2.2.2.2.1 _ h1) (hts _ h4) h6 hR, h3, hts _ h2⟩ ⟨Pw_blind, fun U hU hw => ⟨rfl, Pw_at C2 hW hS U hU hw⟩⟩ rfl hn hl.1 rfl (lv_room hcat) d hf
theorem V_throw (C : Cx p l s m args meth c D kA b t0 nL own nm cc) {cls text : String} {ik is ic : Nat} (kt : KT own cls text ik is ic) (hout : ∀ x ∈ c.exceptionTable.toList, False)
    (d0 : decode cc pc = .ok (.new ik, 3)) (d3 : decode cc (pc + 3) = .ok (.dup, 1)) (d4 : decode cc (pc + 4) = .ok (.ldc is, 2)) (d6 : decode cc (pc + 6) = .ok (.invokespecial ic, 3)) (d9 : decode cc (pc + 9) = .ok (.athrow, 1))
    (hRf : 5 < R.frames) (hRl : (st.map fun v => v.category).sum + 82 ≤ R.locals) (hRc : cells + 1 ≤ R.cells) (hRs : slots + 6 ≤ R.slots) (hc1 : cells + 1 ≤ mc) (hs1 : slots + 6 ≤ ms) (hp : px cls X) : V p l e R s m args below meth c D kA b nL (cells) (slots) ((vx_MQ below (Qk D kA b post) (Xk D kA b px) args s mc ms (Ab b))) X (pc) (lv) (st) := by
  obtain ⟨hx, hb, hml, hown, hts, hlk, hK, hF, hst, hbs, hnm⟩ := C
  obtain ⟨k1, k2, k3, k4, k5, k6, k7⟩ := kt
  obtain ⟨⟨f1, f2, -⟩, -, -, f6, -, -, -, f10, -⟩ := hF
  obtain ⟨sa, hsa⟩ := f6 _ k5
  intro H locs ls hW hS hl
  exact vx_throwS (names := ["java/lang/RuntimeException", "java/lang/Exception"]) (A := Ab b) hx hb hst hown k1 k2 (hts _ k3) (hts _ k4) hsa (fun w hw => (k6 w hw).elim (fun h => hts _ h) (fun h => va_Nw.use (NW_on w h) (f10 w h))) k7 f1 f2 hS (by rw [hl.1, hml]) d0 d3 d4 d6 d9 (fun x hx => (hout x hx).elim) hRf hRl hRc hRs hlk (fun t ha hz hq => ⟨⟨X, hp, hW.kept hq⟩, Nat.le_trans hS.1 hz, fun q h1 h2 => (hq q (Nat.lt_of_lt_of_le h1 hS.1)).trans (hS.2.1 q h1 h2)⟩) (fun q hq => hS.2.2 q hq) hc1 hs1
end VC
