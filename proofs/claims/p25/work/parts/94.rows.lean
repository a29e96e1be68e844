/-! the law: its script, its masks and shifts, cell and at -/
theorem ushr1 (x : Int32) : 0 ≤ ((x.toUInt32 >>> ((zI 1).toUInt32 &&& Int32.toUInt32 31)).toInt32).toInt := by
  have e : ((zI 1).toUInt32 &&& Int32.toUInt32 31) = 1 := by decide
  rw [e]
  have h1 : (x.toUInt32 >>> 1).toNat ≤ 2147483647 := by
    rw [UInt32.toNat_shiftRight]
    have h2 := x.toUInt32.toNat_lt
    have e2 : (1 : UInt32).toNat % 32 = 1 := by decide
    rw [e2, Nat.shiftRight_eq_div_pow]
    omega
  have h3 : ((x.toUInt32 >>> 1).toInt32).toInt = ((x.toUInt32 >>> 1).toNat : Int) := by
    show (x.toUInt32 >>> 1).toBitVec.toInt = _
    exact BitVec.toInt_eq_toNat_of_lt (by show 2 * (x.toUInt32 >>> 1).toNat < 2 ^ 32; omega)
  omega
section LROW
variable {p : Program} {l : Launch} {e : Env} {R : Room} {s : State} {m : MethodId} {args : Array Value} {below : List Frame} {meth : Method} {c : Code}
variable {D : va_G} {kA : Nat → ClassId} {b t0 nL cells slots : Nat} {Q : State → Prop} {own nm : String} {cc : ByteArray} {X : Mm} {pc pc' tgt : Nat} {lv : List (Option Value)} {st : List Value}
theorem V_iandX (C : Cx p l s m args meth c D kA b t0 nL own nm cc) {x y : Int} (d : DI cc pc (.iand) 1 pc')
    (k : ∀ z : Int, rng z → V p l e R s m args below meth c D kA b nL (cells) (slots) (Q) X (pc') (lv) (iv z :: st)) : V p l e R s m args below meth c D kA b nL (cells) (slots) (Q) X (pc) (lv) (iv y :: iv x :: st) := by
  obtain ⟨hx, hb, hml, hown, hts, hlk, hK, hF, hst, hbs, hnm⟩ := C
  obtain ⟨d, rfl⟩ := d
  intro H locs ls hW hS hl
  obtain ⟨z, hz, e⟩ := zI_of (zI x &&& zI y)
  have k2 := k z hz H locs ls hW hS hl
  refine lv_iand hx hb d ?_
  rw [e]
  exact k2
theorem V_ishrX (C : Cx p l s m args meth c D kA b t0 nL own nm cc) {x y : Int} (d : DI cc pc (.ishr) 1 pc')
    (k : ∀ z : Int, rng z → V p l e R s m args below meth c D kA b nL (cells) (slots) (Q) X (pc') (lv) (iv z :: st)) : V p l e R s m args below meth c D kA b nL (cells) (slots) (Q) X (pc) (lv) (iv y :: iv x :: st) := by
  obtain ⟨hx, hb, hml, hown, hts, hlk, hK, hF, hst, hbs, hnm⟩ := C
  obtain ⟨d, rfl⟩ := d
  intro H locs ls hW hS hl
  obtain ⟨z, hz, e⟩ := zI_of (zI x >>> (zI y &&& 31))
  have k2 := k z hz H locs ls hW hS hl
  refine lv_ishr hx hb d ?_
  rw [e]
  exact k2
theorem V_iushrX (C : Cx p l s m args meth c D kA b t0 nL own nm cc) {x : Int} (d : DI cc pc (.iushr) 1 pc')
    (k : ∀ z : Int, rng z → 0 ≤ z → V p l e R s m args below meth c D kA b nL (cells) (slots) (Q) X (pc') (lv) (iv z :: st)) : V p l e R s m args below meth c D kA b nL (cells) (slots) (Q) X (pc) (lv) (iv 1 :: iv x :: st) := by
  obtain ⟨hx, hb, hml, hown, hts, hlk, hK, hF, hst, hbs, hnm⟩ := C
  obtain ⟨d, rfl⟩ := d
  intro H locs ls hW hS hl
  have h0 := ushr1 (zI x)
  obtain ⟨z, hz, e⟩ := zI_of (((zI x).toUInt32 >>> ((zI 1).toUInt32 &&& Int32.toUInt32 31)).toInt32)
  rw [e, zI_int hz] at h0
  exact lv_iushr hx hb d e (k z hz h0 H locs ls hW hS hl)
theorem V_sld (C : Cx p l s m args meth c D kA b t0 nL own nm cc) {sb L j : Nat} {xs : Nat → Int32} {z : Int} (hX : va_X sb L xs s s.heap) (hb1 : sb < s.heap.size) (hb2 : sb < b) (hj : j < L) (hL : L ≤ 260) (hz : z = (j : Int)) (d : DI cc pc (.iaload) 1 pc')
    (k : ∀ x : Int, rng x → V p l e R s m args below meth c D kA b nL (cells) (slots) (Q) X (pc') (lv) (iv x :: st)) : V p l e R s m args below meth c D kA b nL (cells) (slots) (Q) X (pc) (lv) (iv z :: rv (some sb) :: st) := by
  obtain ⟨hx, hb, hml, hown, hts, hlk, hK, hF, hst, hbs, hnm⟩ := C
  obtain ⟨d, rfl⟩ := d
  subst hz
  intro H locs ls hW hS hl
  obtain ⟨x, hrx, e⟩ := zI_of (xs j)
  have k2 := k x hrx H locs ls hW hS hl
  refine va_sld hx hb hX hb1 (show ¬ b ≤ sb by omega) hS (zI_in (by omega) (show (j : Int) < (L : Int) by omega) (by omega)) d ?_
  rw [zI_clamp (by omega), e]
  exact k2
theorem V_slen (C : Cx p l s m args meth c D kA b t0 nL own nm cc) {sb L : Nat} {xs : Nat → Int32} (hX : va_X sb L xs s s.heap) (hb1 : sb < s.heap.size) (hb2 : sb < b) (d : DI cc pc (.arraylength) 1 pc')
    (k : V p l e R s m args below meth c D kA b nL (cells) (slots) (Q) X (pc') (lv) (iv (L : Int) :: st)) : V p l e R s m args below meth c D kA b nL (cells) (slots) (Q) X (pc) (lv) (rv (some sb) :: st) := by
  obtain ⟨hx, hb, hml, hown, hts, hlk, hK, hF, hst, hbs, hnm⟩ := C
  obtain ⟨d, rfl⟩ := d
  intro H locs ls hW hS hl
  have k2 := k H locs ls hW hS hl
  have e2 : Int32.ofNat L = zI (L : Int) := (Int32.ofInt_eq_ofNat).symm
  refine va_slen hx hb hX hb1 (show ¬ b ≤ sb by omega) hS d ?_
  rw [e2]
  exact k2
variable {y : MethodName} {cy : ByteArray} {n fr lc mc ms : Nat} {ret : Option FieldType} {post : Option Value → Mm → Prop} {px : String → Mm → Prop}
/-- a contract whose start knows the script -/
def Cs (l : Launch) (D : va_G) (kA : Nat → ClassId) (b t0 : Nat) (y : MethodName) (cc : ByteArray) (n : Nat) (ret : Option FieldType) (fr lc : Nat) (av : List Value) (sb L : Nat) (xs : Nat → Int32) (X : Mm) (mc ms : Nat) (post : Option Value → Mm → Prop) (px : String → Mm → Prop) : Prop :=
  vx_Met l y (.code y cc n ret :: TBL) { frames := fr, cells := mc, slots := ms, locals := lc } (va_Pc av (fun U => Pw D kA b t0 X U ∧ va_X sb L xs U U.heap)) (Qk D kA b post) (Xk D kA b px) mc ms (Ab b)
theorem Cs_mk {av : List Value} {sb L : Nat} {xs : Nat → Int32} (hl : l.stackTraces = false) (hy : plainName y.cls = true) (hn : av.length ≤ n) (hc : av.all (fun v => v.category == 1) = true)
    (body : ∀ (p : Program) (e : Env) (s : State) (m : MethodId) (args : Array Value) (below : List Frame) (meth : Method) (c : Code), va_X sb L xs s s.heap → Cx p l s m args meth c D kA b t0 n y.cls y.name cy → meth.sig.returnType = ret → (∀ x ∈ c.exceptionTable.toList, False) → V p l e { frames := fr, cells := mc, slots := ms, locals := lc } s m args below meth c D kA b n 0 0 (vx_MQ below (Qk D kA b post) (Xk D kA b px) args s mc ms (Ab b)) X 0 (av.map some ++ List.replicate (n - av.length) none) []) : Cs l D kA b t0 y cy n ret fr lc av sb L xs X mc ms post px := by
  refine vx_ofW (cc := cy) (maxL := n) (ret := ret) hy rfl ?_
  intro p e s m args below meth c s₁ B hml ht hv
  obtain ⟨rfl, ⟨hW, hK, hF, hb⟩, hmi⟩ := hv
  have hts := atoms_spec (ws := .code y cy n ret :: TBL) B.pre
  rw [lg_entry_eq]
  exact body p e s m _ below meth c hmi ⟨B.exec, B.bytes, hml, findClass_of_methodNamed B.named, fun w hw => hts w (List.mem_cons_of_mem _ hw), B.notSynchronized, hK, hF, hl, hb, (name_of_methodNamed B.named B.method).1⟩ B.returns ht s.heap [] _ hW va_S.rf (lvO_entry hn (fun v hv => by have := List.all_eq_true.mp hc v hv; simpa using this))
theorem Ps_blind {av : List Value} {sb L : Nat} {xs : Nat → Int32} : FrameBlind (va_Pc av (fun U => Pw D kA b t0 X U ∧ va_X sb L xs U U.heap)) := fun a U g mk q => by
  obtain ⟨q0, ⟨q1, q2, q3, q4⟩, q5⟩ := q
  exact ⟨q0, ⟨q1, va_K.moved (u := U) (U := U.calling g mk a) (Vm.Alike.refl U.vm) q2, q3.calling g mk a, q4⟩, va_X.moved (u := U) (U := U.calling g mk a) (Vm.Alike.refl U.vm) q5⟩
theorem V_callSs (C : Cx p l s m args meth c D kA b t0 nL own nm cc) {st0 As : List Value} {k idx sb L : Nat} {xs : Nat → Int32} (hX : va_X sb L xs s s.heap) (hb1 : sb < s.heap.size) (hb2 : sb < b) (hM : Cs l D kA b t0 y cy n ret fr lc As sb L xs X mc ms post px) (kv : KS own idx y cy n ret k) (hst0 : st0 = As.reverse ++ st) (hn : As.length = k) (hcat : (st.map fun v => v.category).sum ≤ 8) (hR : fr + 1 ≤ R.frames ∧ 8 + (n + 11) + lc ≤ R.locals) (hf : cells + mc ≤ R.cells ∧ slots + ms ≤ R.slots)
    (d : DI cc pc (.invokestatic idx) 3 pc') (kx : ∀ (E : String) (Y : Mm), px E Y → VX p l e R s m args below meth c D kA b nL (cells + mc) (slots + ms) (Q) Y (pc) (lv) (E)) (kk : ∀ (v : Option Value) (Y : Mm), post v Y → V p l e R s m args below meth c D kA b nL (cells + mc) (slots + ms) (Q) Y (pc') (lv) (v.toList ++ st)) : V p l e R s m args below meth c D kA b nL (cells) (slots) (Q) X (pc) (lv) (st0) := by
  subst hst0
  obtain ⟨h1, h2, h4, h5, h6⟩ := kv
  obtain ⟨d, rfl⟩ := d
  refine V_runs C (mc := mc) (ms := ms) (a := As.toArray) (fun H locs ls hW hS hl => ?_) kx kk
  have C2 := C
  obtain ⟨hx, hb, hml, hown, hts, hlk, hK, hF, hst, hbs, hnm⟩ := C
  exact vx_runS ⟨hx, hb, hml, hown, hts⟩ hM ⟨hts_in C2 rfl rfl h5 h4 h1 h6 hR, hts _ h2⟩ ⟨Ps_blind, fun U hU hw => ⟨rfl, Pw_at C2 hW hS U hU hw, by rw [hU]; exact (hX.kept (hS.2.1 sb hb1 (show ¬ b ≤ sb by omega))).moved hw.alike⟩⟩ rfl hn hl.1 rfl (lv_room hcat) d hf
end LROW
section LCELL
variable {l : Launch} {D : va_G} {kA : Nat → ClassId} {b t0 : Nat} {X : Mm}
set_option maxRecDepth 20000 in
theorem c_L_at (hl : l.stackTraces = false) {x n : Int} (hn : 1 ≤ n ∧ n ≤ 2147483647) : Ct l D kA b t0 yL_at cL_at 2 (some FieldType.int) 0 0 [iv x, iv n] X 0 0 (fun v Y => (∃ z : Int, v = some (iv z) ∧ (0 ≤ z ∧ z < n)) ∧ Y = X) (pF) := by
  refine Ct_mk hl (by decide) (Nat.le_of_ble_eq_true rfl) rfl ?_
  intro p9 e9 s9 m9 args9 below9 meth9 c9 C hr hx0
  refine V_iload_n C dL_at_0 rfl ?_
  refine V_iconst C dL_at_1 ?_
  refine V_iushrX C dL_at_2 (fun z hz h0 => ?_)
  refine V_iload_n C dL_at_3 rfl ?_
  refine V_iremN C dL_at_4 hz (by omega) h0 (by omega) ?_
  exact V_iret C (Nat.le_refl _) (Nat.le_refl _) ⟨⟨_, rfl, Int.emod_nonneg _ (by omega), Int.emod_lt_of_pos _ (by omega)⟩, rfl⟩ hr dL_at_5
set_option maxRecDepth 20000 in
theorem c_L_cell (hl : l.stackTraces = false) {sb L : Nat} {xs : Nat → Int32} (hb2 : sb < b) (hL : L ≤ 260) {k : Nat} (hk : k ≤ 1000) : Cs l D kA b t0 yL_cell cL_cell 2 (some FieldType.int) 0 0 [rv (some sb), iv (k : Int)] sb L xs X 0 0 (fun v Y => (∃ z : Int, v = some (iv z) ∧ rng z) ∧ Y = X) (pF) := by
  refine Cs_mk hl (by decide) (Nat.le_of_ble_eq_true rfl) rfl ?_
  intro p9 e9 s9 m9 args9 below9 meth9 c9 hX C hr hx0
  have hb1 : sb < s9.heap.size := by
    obtain ⟨scr, h1, -⟩ := hX
    exact (Array.getElem?_eq_some_iff.mp h1).1
  refine V_iload_n C dL_cell_0 rfl ?_
  refine V_aload_n C dL_cell_1 rfl ?_
  refine V_slen C hX hb1 hb2 dL_cell_2 ?_
  refine V_icmp_ge C dL_cell_3 (by omega) (by omega) (fun h3 => ?_) (fun h3 => ?_)
  · refine V_ldc C dL_cell_12 qL_7 ?_
    refine V_iload_n C dL_cell_14 rfl ?_
    refine V_iconst C dL_cell_15 ?_
    refine V_iadd C dL_cell_16 ?_
    refine V_imul C dL_cell_17 ?_
    obtain ⟨z, hz, ez⟩ := zI_of (zI (1566083941 * ((k : Int) + 1)))
    exact V_iret C (Nat.le_refl _) (Nat.le_refl _) ⟨⟨z, congrArg (fun q => some (Value.int q)) ez, hz⟩, rfl⟩ hr dL_cell_18
  · refine V_aload_n C dL_cell_6 rfl ?_
    refine V_iload_n C dL_cell_7 rfl ?_
    refine V_sld C (j := k) hX hb1 hb2 (by omega) hL rfl dL_cell_8 (fun x hx => ?_)
    refine V_goto C dL_cell_9 ?_
    exact V_iret C (Nat.le_refl _) (Nat.le_refl _) ⟨⟨x, rfl, hx⟩, rfl⟩ hr dL_cell_18
end LCELL
