/-! the library's methods -/
/-- a call that has one end -/
abbrev pD (r : Option Value) (X3 : Mm) : Option Value → Mm → Prop := fun v Y => v = r ∧ Y = X3
abbrev pF : String → Mm → Prop := fun _ _ => False
section V3
variable {p : Program} {l : Launch} {e : Env} {R : Room} {s : State} {m : MethodId} {args : Array Value} {below : List Frame} {meth : Method} {c : Code}
variable {D : va_G} {kA : Nat → ClassId} {b t0 nL cells slots : Nat} {Q : State → Prop} {own nm : String} {cc : ByteArray} {X : Mm} {pc pc' tgt : Nat} {lv : List (Option Value)} {st : List Value}
variable {y : MethodName} {cy : ByteArray} {n fr lc mc ms : Nat} {ret : Option FieldType} {post : Option Value → Mm → Prop} {px : String → Mm → Prop} {X3 : Mm} {v1 : Value}
theorem V_getIx (C : Cx p l s m args meth c D kA b t0 nL own nm cc) {a ci N kf f idx : Nat} {Cn : String} {T : u_T} {ty : Nat → FieldType} {x : Int} (cl : CL ci Cn T N ty) (fd : FD own idx ci T N kf f false) (ho : gK X a = ci + 1) (hx9 : gI X f a = x) (d : DI cc pc (.getfield idx) 3 pc')
    (k : V p l e R s m args below meth c D kA b nL (cells) (slots) (Q) X (pc') (lv) (iv x :: st)) : V p l e R s m args below meth c D kA b nL (cells) (slots) (Q) X (pc) (lv) (rv (some a) :: st) := by
  subst hx9
  exact V_getI C cl fd ho d k
theorem V_ialdx (C : Cx p l s m args meth c D kA b t0 nL own nm cc) {a j n : Nat} {z x : Int} (ho : gK X a = 20) (hN : gN X a = n) (hj : j < n) (hn : n ≤ 2147483647) (hz : z = (j : Int)) (hx9 : gA X a j = x) (d : DI cc pc (.iaload) 1 pc')
    (k : V p l e R s m args below meth c D kA b nL (cells) (slots) (Q) X (pc') (lv) (iv x :: st)) : V p l e R s m args below meth c D kA b nL (cells) (slots) (Q) X (pc) (lv) (iv z :: rv (some a) :: st) := by
  subst hx9
  exact V_iald C ho hN hj hn hz d k

theorem V_callV0 (C : Cx p l s m args meth c D kA b t0 nL own nm cc) {st0 As : List Value} {k idx : Nat} {a ci : Nat} (hM : Ct l D kA b t0 y cy n ret fr lc (rv (some a) :: As) X mc ms (pD (none) X3) pF) (kv : KV own idx ci y cy n ret k) (ho : gK X a = ci + 1) (hst0 : st0 = As.reverse ++ rv (some a) :: st) (hn : As.length = k) (hcat : (st.map fun v => v.category).sum ≤ 8) (hR : fr + 1 ≤ R.frames ∧ 8 + (n + 11) + lc ≤ R.locals) (hf : cells + mc ≤ R.cells ∧ slots + ms ≤ R.slots)
    (d : DI cc pc (.invokevirtual idx) 3 pc') (k : V p l e R s m args below meth c D kA b nL (cells + mc) (slots + ms) (Q) X3 (pc') (lv) (st)) : V p l e R s m args below meth c D kA b nL (cells) (slots) (Q) X (pc) (lv) (st0) := by
  refine V_callV C hM kv ho hst0 hn hcat hR hf d (fun _ _ h => h.elim) (fun v Y h => ?_)
  obtain ⟨rfl, rfl⟩ := h
  exact k
theorem V_callV1 (C : Cx p l s m args meth c D kA b t0 nL own nm cc) {st0 As : List Value} {k idx : Nat} {a ci : Nat} (hM : Ct l D kA b t0 y cy n ret fr lc (rv (some a) :: As) X mc ms (pD (some v1) X3) pF) (kv : KV own idx ci y cy n ret k) (ho : gK X a = ci + 1) (hst0 : st0 = As.reverse ++ rv (some a) :: st) (hn : As.length = k) (hcat : (st.map fun v => v.category).sum ≤ 8) (hR : fr + 1 ≤ R.frames ∧ 8 + (n + 11) + lc ≤ R.locals) (hf : cells + mc ≤ R.cells ∧ slots + ms ≤ R.slots)
    (d : DI cc pc (.invokevirtual idx) 3 pc') (k : V p l e R s m args below meth c D kA b nL (cells + mc) (slots + ms) (Q) X3 (pc') (lv) (v1 :: st)) : V p l e R s m args below meth c D kA b nL (cells) (slots) (Q) X (pc) (lv) (st0) := by
  refine V_callV C hM kv ho hst0 hn hcat hR hf d (fun _ _ h => h.elim) (fun v Y h => ?_)
  obtain ⟨rfl, rfl⟩ := h
  exact k
theorem V_callS0 (C : Cx p l s m args meth c D kA b t0 nL own nm cc) {st0 As : List Value} {k idx : Nat}  (hM : Ct l D kA b t0 y cy n ret fr lc As X mc ms (pD (none) X3) pF) (kv : KS own idx y cy n ret k) (hst0 : st0 = As.reverse ++ st) (hn : As.length = k) (hcat : (st.map fun v => v.category).sum ≤ 8) (hR : fr + 1 ≤ R.frames ∧ 8 + (n + 11) + lc ≤ R.locals) (hf : cells + mc ≤ R.cells ∧ slots + ms ≤ R.slots)
    (d : DI cc pc (.invokestatic idx) 3 pc') (k : V p l e R s m args below meth c D kA b nL (cells + mc) (slots + ms) (Q) X3 (pc') (lv) (st)) : V p l e R s m args below meth c D kA b nL (cells) (slots) (Q) X (pc) (lv) (st0) := by
  refine V_callS C hM kv hst0 hn hcat hR hf d (fun _ _ h => h.elim) (fun v Y h => ?_)
  obtain ⟨rfl, rfl⟩ := h
  exact k
theorem V_callS1 (C : Cx p l s m args meth c D kA b t0 nL own nm cc) {st0 As : List Value} {k idx : Nat}  (hM : Ct l D kA b t0 y cy n ret fr lc As X mc ms (pD (some v1) X3) pF) (kv : KS own idx y cy n ret k) (hst0 : st0 = As.reverse ++ st) (hn : As.length = k) (hcat : (st.map fun v => v.category).sum ≤ 8) (hR : fr + 1 ≤ R.frames ∧ 8 + (n + 11) + lc ≤ R.locals) (hf : cells + mc ≤ R.cells ∧ slots + ms ≤ R.slots)
    (d : DI cc pc (.invokestatic idx) 3 pc') (k : V p l e R s m args below meth c D kA b nL (cells + mc) (slots + ms) (Q) X3 (pc') (lv) (v1 :: st)) : V p l e R s m args below meth c D kA b nL (cells) (slots) (Q) X (pc) (lv) (st0) := by
  refine V_callS C hM kv hst0 hn hcat hR hf d (fun _ _ h => h.elim) (fun v Y h => ?_)
  obtain ⟨rfl, rfl⟩ := h
  exact k
theorem V_callI0 (C : Cx p l s m args meth c D kA b t0 nL own nm cc) {st0 As : List Value} {k idx : Nat} {a : Nat} (hM : Ct l D kA b t0 y cy n none fr lc (rv (some a) :: As) X mc ms (pD (none) X3) pF) (kv : KI own idx y cy n k) (hst0 : st0 = As.reverse ++ rv (some a) :: st) (hn : As.length = k) (hcat : (st.map fun v => v.category).sum ≤ 8) (hR : fr + 1 ≤ R.frames ∧ 8 + (n + 11) + lc ≤ R.locals) (hf : cells + mc ≤ R.cells ∧ slots + ms ≤ R.slots)
    (d : DI cc pc (.invokespecial idx) 3 pc') (k : V p l e R s m args below meth c D kA b nL (cells + mc) (slots + ms) (Q) X3 (pc') (lv) (st)) : V p l e R s m args below meth c D kA b nL (cells) (slots) (Q) X (pc) (lv) (st0) := by
  refine V_callI C hM kv hst0 hn hcat hR hf d (fun _ _ h => h.elim) (fun v Y h => ?_)
  obtain ⟨rfl, rfl⟩ := h
  exact k
theorem V_callM0 (C : Cx p l s m args meth c D kA b t0 nL own nm cc) {st0 As : List Value} {k idx : Nat} {a : Nat} {host : String} (hM : Ct l D kA b t0 y cy n none fr lc (rv (some a) :: As) X mc ms (pD (none) X3) pF) (kv : KM own host idx y cy n k) (hst0 : st0 = As.reverse ++ rv (some a) :: st) (hn : As.length = k) (hcat : (st.map fun v => v.category).sum ≤ 8) (hR : fr + 1 ≤ R.frames ∧ 8 + (n + 11) + lc ≤ R.locals) (hf : cells + mc ≤ R.cells ∧ slots + ms ≤ R.slots)
    (d : DI cc pc (.invokespecial idx) 3 pc') (k : V p l e R s m args below meth c D kA b nL (cells + mc) (slots + ms) (Q) X3 (pc') (lv) (st)) : V p l e R s m args below meth c D kA b nL (cells) (slots) (Q) X (pc) (lv) (st0) := by
  refine V_callM C hM kv hst0 hn hcat hR hf d (fun _ _ h => h.elim) (fun v Y h => ?_)
  obtain ⟨rfl, rfl⟩ := h
  exact k
end V3
section JDK
variable {l : Launch} {D : va_G} {kA : Nat → ClassId} {b t0 : Nat} {X : Mm}
set_option maxRecDepth 20000 in
theorem c_Jxa1e45_init_da8c8 (hl : l.stackTraces = false) {a : Nat} : Ct l D kA b t0 yJxa1e45_init_da8c8 cJxa1e45_init_da8c8 1 none 1 20 [rv (some a)] X 0 0 (pD none X) (pF) := by
  refine Ct_mk hl (by decide) (Nat.le_of_ble_eq_true rfl) rfl ?_
  intro p9 e9 s9 m9 args9 below9 meth9 c9 C hr hx0
  refine V_aload_n C dJxa1e45_init_da8c8_0 rfl ?_
  refine V_objInit C oi_RJxa1e45_1 oi2 oi3 (Nat.le_of_ble_eq_true rfl) (Nat.le_of_ble_eq_true rfl) dJxa1e45_init_da8c8_1 ?_
  exact V_vret C (by omega) (by omega) ⟨rfl, rfl⟩ hr dJxa1e45_init_da8c8_4
set_option maxRecDepth 20000 in
theorem c_Jxc12de_init_da8c8 (hl : l.stackTraces = false) {a : Nat} (hKa : gK X a = 1) : Ct l D kA b t0 yJxc12de_init_da8c8 cJxc12de_init_da8c8 1 none 2 40 [rv (some a)] X 0 0 (pD none (sI X 0 a 0)) (pF) := by
  refine Ct_mk hl (by decide) (Nat.le_of_ble_eq_true rfl) rfl ?_
  intro p9 e9 s9 m9 args9 below9 meth9 c9 C hr hx0
  refine V_aload_n C dJxc12de_init_da8c8_0 rfl ?_
  refine V_callI0 C (As := []) (c_Jxa1e45_init_da8c8 hl) kJxc12de_1 rfl rfl (Nat.le_of_ble_eq_true rfl) ⟨Nat.le_of_ble_eq_true rfl, Nat.le_of_ble_eq_true rfl⟩ ⟨Nat.le_of_ble_eq_true rfl, Nat.le_of_ble_eq_true rfl⟩ dJxc12de_init_da8c8_1 ?_
  refine V_aload_n C dJxc12de_init_da8c8_4 rfl ?_
  refine V_iconst C dJxc12de_init_da8c8_5 ?_
  refine V_putI C cl0 fJxc12de_7 (Or.inl rfl) rfl hKa dJxc12de_init_da8c8_6 ?_
  exact V_vret C (by omega) (by omega) ⟨rfl, rfl⟩ hr dJxc12de_init_da8c8_9
set_option maxRecDepth 20000 in
theorem c_Jx4a65c_init_da8c8 (hl : l.stackTraces = false) {a : Nat} (hKa : gK X a = 1) : Ct l D kA b t0 yJx4a65c_init_da8c8 cJx4a65c_init_da8c8 1 none 3 60 [rv (some a)] X 0 0 (pD none (sP (sI X 0 a 0) 1 a (some t0))) (pF) := by
  refine Ct_mk hl (by decide) (Nat.le_of_ble_eq_true rfl) rfl ?_
  intro p9 e9 s9 m9 args9 below9 meth9 c9 C hr hx0
  refine V_aload_n C dJx4a65c_init_da8c8_0 rfl ?_
  refine V_callI0 C (As := []) (c_Jxc12de_init_da8c8 hl hKa) kJx4a65c_1 rfl rfl (Nat.le_of_ble_eq_true rfl) ⟨Nat.le_of_ble_eq_true rfl, Nat.le_of_ble_eq_true rfl⟩ ⟨Nat.le_of_ble_eq_true rfl, Nat.le_of_ble_eq_true rfl⟩ dJx4a65c_init_da8c8_1 ?_
  refine V_aload_n C dJx4a65c_init_da8c8_4 rfl ?_
  refine V_gets C sf_39 dJx4a65c_init_da8c8_5 ?_
  refine V_putP C cl0 fJx4a65c_9 (Or.inl rfl) (Or.inr ⟨_, rfl⟩) hKa dJx4a65c_init_da8c8_8 ?_
  exact V_vret C (by omega) (by omega) ⟨rfl, rfl⟩ hr dJx4a65c_init_da8c8_11
set_option maxRecDepth 20000 in
theorem c_Jx4a65c_size_8abf5 (hl : l.stackTraces = false) {a : Nat} {x : Int} (hKa : gK X a = 1) (hx : gI X 2 a = x) : Ct l D kA b t0 yJx4a65c_size_8abf5 cJx4a65c_size_8abf5 1 (some FieldType.int) 0 0 [rv (some a)] X 0 0 (pD (some (iv x)) X) (pF) := by
  refine Ct_mk hl (by decide) (Nat.le_of_ble_eq_true rfl) rfl ?_
  intro p9 e9 s9 m9 args9 below9 meth9 c9 C hr hx0
  refine V_aload_n C dJx4a65c_size_8abf5_0 rfl ?_
  refine V_getIx C cl0 fJx4a65c_48 (x := x) hKa hx dJx4a65c_size_8abf5_1 ?_
  exact V_iret C (by omega) (by omega) ⟨rfl, rfl⟩ hr dJx4a65c_size_8abf5_4
set_option maxRecDepth 20000 in
theorem c_Jx4a65c_elementData_915e3 (hl : l.stackTraces = false) {a q j N v : Nat} (hKa : gK X a = 1) (hd : gP X 1 a = some q) (hKq : gK X q = 23) (hN : gN X q = N) (hj : j < N) (hN9 : N ≤ 100000) (hv : gO X q j = some v) : Ct l D kA b t0 yJx4a65c_elementData_915e3 cJx4a65c_elementData_915e3 2 (some (FieldType.object "java/lang/Object")) 0 0 [rv (some a), iv (j : Int)] X 0 0 (pD (some (rv (some v))) X) (pF) := by
  refine Ct_mk hl (by decide) (Nat.le_of_ble_eq_true rfl) rfl ?_
  intro p9 e9 s9 m9 args9 below9 meth9 c9 C hr hx0
  refine V_aload_n C dJx4a65c_elementData_915e3_0 rfl ?_
  refine V_getP C cl0 fJx4a65c_9 (r := some q) hKa hd dJx4a65c_elementData_915e3_1 ?_
  refine V_iload_n C dJx4a65c_elementData_915e3_4 rfl ?_
  refine V_aald C hKq hN (by omega) (by omega) rfl hv dJx4a65c_elementData_915e3_5 ?_
  exact V_aret C (by omega) (by omega) ⟨rfl, rfl⟩ hr (Or.inl ⟨_, rfl⟩) dJx4a65c_elementData_915e3_6
set_option maxRecDepth 20000 in
theorem c_J3_checkIndex_8e157 (hl : l.stackTraces = false) {x y : Int} (hx : rng x) (hy : rng y) (h0 : 0 ≤ x) (h1 : x < y) : Ct l D kA b t0 yJ3_checkIndex_8e157 cJ3_checkIndex_8e157 3 (some FieldType.int) 0 0 [iv x, iv y, rv none] X 0 0 (pD (some (iv x)) X) (pF) := by
  refine Ct_mk hl (by decide) (Nat.le_of_ble_eq_true rfl) rfl ?_
  intro p9 e9 s9 m9 args9 below9 meth9 c9 C hr hx0
  refine V_iload_n C dJ3_checkIndex_8e157_0 rfl ?_
  refine V_if_lt C dJ3_checkIndex_8e157_1 hx (fun h1 => ?_) (fun h1 => ?_)
  · omega
  · refine V_iload_n C dJ3_checkIndex_8e157_4 rfl ?_
    refine V_iload_n C dJ3_checkIndex_8e157_5 rfl ?_
    refine V_icmp_lt C dJ3_checkIndex_8e157_6 hx hy (fun h6 => ?_) (fun h6 => ?_)
    · refine V_iload_n C dJ3_checkIndex_8e157_16 rfl ?_
      exact V_iret C (by omega) (by omega) ⟨rfl, rfl⟩ hr dJ3_checkIndex_8e157_17
    · omega
set_option maxRecDepth 20000 in
theorem c_J15_checkIndex_7cf53 (hl : l.stackTraces = false) {x y : Int} (hx : rng x) (hy : rng y) (h0 : 0 ≤ x) (h1 : x < y) : Ct l D kA b t0 yJ15_checkIndex_7cf53 cJ15_checkIndex_7cf53 2 (some FieldType.int) 1 22 [iv x, iv y] X 0 0 (pD (some (iv x)) X) (pF) := by
  refine Ct_mk hl (by decide) (Nat.le_of_ble_eq_true rfl) rfl ?_
  intro p9 e9 s9 m9 args9 below9 meth9 c9 C hr hx0
  refine V_iload_n C dJ15_checkIndex_7cf53_0 rfl ?_
  refine V_iload_n C dJ15_checkIndex_7cf53_1 rfl ?_
  refine V_null C dJ15_checkIndex_7cf53_2 ?_
  refine V_callS1 C (As := [_, _, _]) (c_J3_checkIndex_8e157 hl hx hy h0 h1) kJ15_105 rfl rfl (Nat.le_of_ble_eq_true rfl) ⟨Nat.le_of_ble_eq_true rfl, Nat.le_of_ble_eq_true rfl⟩ ⟨Nat.le_of_ble_eq_true rfl, Nat.le_of_ble_eq_true rfl⟩ dJ15_checkIndex_7cf53_3 ?_
  exact V_iret C (by omega) (by omega) ⟨rfl, rfl⟩ hr dJ15_checkIndex_7cf53_6
set_option maxRecDepth 20000 in
theorem c_Jx4a65c_get_915e3 (hl : l.stackTraces = false) {n : Int} {a q j N v : Nat} (hKa : gK X a = 1) (hd : gP X 1 a = some q) (hKq : gK X q = 23) (hN : gN X q = N) (hj : j < N) (hN9 : N ≤ 100000) (hv : gO X q j = some v) (hn : gI X 2 a = n) (hjn : (j : Int) < n) (hn9 : n ≤ 100000) : Ct l D kA b t0 yJx4a65c_get_915e3 cJx4a65c_get_915e3 2 (some (FieldType.object "java/lang/Object")) 2 43 [rv (some a), iv (j : Int)] X 0 0 (pD (some (rv (some v))) X) (pF) := by
  refine Ct_mk hl (by decide) (Nat.le_of_ble_eq_true rfl) rfl ?_
  intro p9 e9 s9 m9 args9 below9 meth9 c9 C hr hx0
  refine V_iload_n C dJx4a65c_get_915e3_0 rfl ?_
  refine V_aload_n C dJx4a65c_get_915e3_1 rfl ?_
  refine V_getIx C cl0 fJx4a65c_48 (x := n) hKa hn dJx4a65c_get_915e3_2 ?_
  refine V_callS1 C (As := [_, _]) (c_J15_checkIndex_7cf53 hl (by omega) (by omega) (by omega) (by omega)) kJx4a65c_118 rfl rfl (Nat.le_of_ble_eq_true rfl) ⟨Nat.le_of_ble_eq_true rfl, Nat.le_of_ble_eq_true rfl⟩ ⟨Nat.le_of_ble_eq_true rfl, Nat.le_of_ble_eq_true rfl⟩ dJx4a65c_get_915e3_5 ?_
  refine V_pop C dJx4a65c_get_915e3_8 rfl ?_
  refine V_aload_n C dJx4a65c_get_915e3_9 rfl ?_
  refine V_iload_n C dJx4a65c_get_915e3_10 rfl ?_
  refine V_callV1 C (As := [_]) (c_Jx4a65c_elementData_915e3 hl hKa hd hKq hN hj hN9 hv) kJx4a65c_123 hKa rfl rfl (Nat.le_of_ble_eq_true rfl) ⟨Nat.le_of_ble_eq_true rfl, Nat.le_of_ble_eq_true rfl⟩ ⟨Nat.le_of_ble_eq_true rfl, Nat.le_of_ble_eq_true rfl⟩ dJx4a65c_get_915e3_11 ?_
  exact V_aret C (by omega) (by omega) ⟨rfl, rfl⟩ hr (Or.inl ⟨_, rfl⟩) dJx4a65c_get_915e3_14
end JDK
