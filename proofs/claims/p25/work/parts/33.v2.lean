/-! more rows: joins and loops, casts, copies, mirrors -/
theorem zI_shr1 {x : Int} (hr : rng x) (h0 : 0 ≤ x) : zI x >>> (zI 1 &&& 31) = zI (x / 2) := by
  have e : zI 1 &&& 31 = (1 : Int32) := by decide
  rw [e]
  refine Int32.toInt_inj.mp ?_
  rw [zI_int (show rng (x / 2) by omega)]
  show (Int32.toBitVec (zI x >>> 1)).toInt = _
  rw [Int32.toBitVec_shiftRight]
  rw [show ((1 : Int32).toBitVec.smod 32) = 1#32 by decide]
  rw [BitVec.sshiftRight_eq', BitVec.toInt_sshiftRight]
  have : (zI x).toBitVec.toInt = x := zI_int hr
  rw [this]
  simp [Int.shiftRight_eq_div_pow]
section V2
variable {p : Program} {l : Launch} {e : Env} {R : Room} {s : State} {m : MethodId} {args : Array Value} {below : List Frame} {meth : Method} {c : Code}
variable {D : va_G} {kA : Nat → ClassId} {b t0 nL cells slots : Nat} {Q : State → Prop} {own nm : String} {cc : ByteArray} {X : Mm} {pc pc' tgt : Nat} {lv : List (Option Value)} {st : List Value}
variable {y : MethodName} {cy : ByteArray} {n fr lc mc ms : Nat} {ret : Option FieldType} {post : Option Value → Mm → Prop} {px : String → Mm → Prop}

theorem V_join (C : Cx p l s m args meth c D kA b t0 nL own nm cc) {P : Int → Prop} {pcm : Nat} (k1 : (∀ z : Int, P z → V p l e R s m args below meth c D kA b nL (cells) (slots) (Q) X (pcm) (lv) (iv z :: st)) → V p l e R s m args below meth c D kA b nL (cells) (slots) (Q) X (pc) (lv) (st)) (k2 : ∀ z : Int, P z → V p l e R s m args below meth c D kA b nL (cells) (slots) (Q) X (pcm) (lv) (iv z :: st)) : V p l e R s m args below meth c D kA b nL (cells) (slots) (Q) X (pc) (lv) (st) := k1 k2
theorem V_joinP (C : Cx p l s m args meth c D kA b t0 nL own nm cc) {P : Int → Prop} {pcm : Nat} {x : Value} (k1 : (∀ z : Int, P z → V p l e R s m args below meth c D kA b nL (cells) (slots) (Q) X (pcm) (lv) (iv z :: st)) → V p l e R s m args below meth c D kA b nL (cells) (slots) (Q) X (pc) (lv) (x :: st)) (k2 : ∀ z : Int, P z → V p l e R s m args below meth c D kA b nL (cells) (slots) (Q) X (pcm) (lv) (iv z :: st)) : V p l e R s m args below meth c D kA b nL (cells) (slots) (Q) X (pc) (lv) (x :: st) := k1 k2
theorem V_cond (C : Cx p l s m args meth c D kA b t0 nL own nm cc) {P : Prop} {pt pf : Nat} (k1 : (P → V p l e R s m args below meth c D kA b nL (cells) (slots) (Q) X (pt) (lv) (st)) → (¬ P → V p l e R s m args below meth c D kA b nL (cells) (slots) (Q) X (pf) (lv) (st)) → V p l e R s m args below meth c D kA b nL (cells) (slots) (Q) X (pc) (lv) (st)) (kt : P → V p l e R s m args below meth c D kA b nL (cells) (slots) (Q) X (pt) (lv) (st)) (kf : ¬ P → V p l e R s m args below meth c D kA b nL (cells) (slots) (Q) X (pf) (lv) (st)) : V p l e R s m args below meth c D kA b nL (cells) (slots) (Q) X (pc) (lv) (st) := k1 kt kf
/-- another memory, other locals and another use at the meeting -/
theorem V_meet (C : Cx p l s m args meth c D kA b t0 nL own nm cc) {α : Type} {pcm : Nat} (P : α → Prop) (F : α → Mm) (L : α → List (Option Value)) (G : α → List Value) (u w : α → Nat) (k1 : (∀ x, P x → V p l e R s m args below meth c D kA b nL (u x) (w x) (Q) (F x) (pcm) (L x) (G x)) → V p l e R s m args below meth c D kA b nL (cells) (slots) (Q) X (pc) (lv) (st)) (k2 : ∀ x, P x → V p l e R s m args below meth c D kA b nL (u x) (w x) (Q) (F x) (pcm) (L x) (G x)) : V p l e R s m args below meth c D kA b nL (cells) (slots) (Q) X (pc) (lv) (st) := k1 k2
theorem V_while (C : Cx p l s m args meth c D kA b t0 nL own nm cc) {St : Type} (f : St → Mm) (g : St → List (Option Value)) (cs ss : St → Nat) (μ : St → Nat) (I : St → Prop) (x0 : St) (hM : f x0 = X) (hlv : g x0 = lv) (hc0 : cs x0 = cells) (hs0 : ss x0 = slots) (h0 : I x0) (step : ∀ x, I x → (∀ y, I y → μ y < μ x → V p l e R s m args below meth c D kA b nL (cs y) (ss y) (Q) (f y) (pc) (g y) (st)) → V p l e R s m args below meth c D kA b nL (cs x) (ss x) (Q) (f x) (pc) (g x) (st)) : V p l e R s m args below meth c D kA b nL (cells) (slots) (Q) X (pc) (lv) (st) := by
  subst hM hlv hc0 hs0
  have key : ∀ (n : Nat) (x : St), μ x ≤ n → I x → V p l e R s m args below meth c D kA b nL (cs x) (ss x) (Q) (f x) (pc) (g x) (st) := by
    intro n
    induction n with
    | zero => exact fun x hx hI => step x hI (fun y _ hy => by omega)
    | succ n ih => exact fun x hx hI => step x hI (fun y hIy hy => ih y (by omega) hIy)
  exact key _ x0 (Nat.le_refl _) h0
theorem V_ishr1 (C : Cx p l s m args meth c D kA b t0 nL own nm cc) {x : Int} (hr : rng x) (h0 : 0 ≤ x) (d : DI cc pc .ishr 1 pc')
    (k : V p l e R s m args below meth c D kA b nL (cells) (slots) (Q) X (pc') (lv) (iv (x / 2) :: st)) : V p l e R s m args below meth c D kA b nL (cells) (slots) (Q) X (pc) (lv) (iv 1 :: iv x :: st) := by
  obtain ⟨hx, hb, hml, hown, hts, hlk, hK, hF, hst, hbs, hnm⟩ := C
  obtain ⟨d, rfl⟩ := d
  intro H locs ls hW hS hl
  have k2 := k H locs ls hW hS hl
  refine lv_ishr hx hb d ?_
  rw [zI_shr1 hr h0]
  exact k2
theorem V_gets (C : Cx p l s m args meth c D kA b t0 nL own nm cc) {idx : Nat} (hl9 : Cond.fieldLink own idx "java/util/ArrayList" "DEFAULTCAPACITY_EMPTY_ELEMENTDATA" "[Ljava/lang/Object;" ∈ TBL) (d : DI cc pc (.getstatic idx) 3 pc')
    (k : V p l e R s m args below meth c D kA b nL (cells) (slots) (Q) X (pc') (lv) (rv (some t0) :: st)) : V p l e R s m args below meth c D kA b nL (cells) (slots) (Q) X (pc) (lv) (st) := by
  obtain ⟨hx, hb, hml, hown, hts, hlk, hK, hF, hst, hbs, hnm⟩ := C
  obtain ⟨d, rfl⟩ := d
  intro H locs ls hW hS hl
  exact va_gets hx hb hF.1.2.2 hS hown (hts _ hl9) (fun _ h => h) d (k H locs ls hW hS hl)
theorem V_cast (C : Cx p l s m args meth c D kA b t0 nL own nm cc) {a ci N idx : Nat} {Cn : String} {T : u_T} {ty : Nat → FieldType} (cl : CL ci Cn T N ty) (hl9 : Cond.classLink own idx Cn ∈ TBL) (ho : gK X a = ci + 1) (d : DI cc pc (.checkcast idx) 3 pc')
    (k : V p l e R s m args below meth c D kA b nL (cells) (slots) (Q) X (pc') (lv) (rv (some a) :: st)) : V p l e R s m args below meth c D kA b nL (cells) (slots) (Q) X (pc) (lv) (rv (some a) :: st) := by
  obtain ⟨hx, hb, hml, hown, hts, hlk, hK, hF, hst, hbs, hnm⟩ := C
  obtain ⟨hc, hci, hnf, hty, hnmm, hin, hdf⟩ := cl
  obtain ⟨d, rfl⟩ := d
  intro H locs ls hW hS hl
  exact va_castS hx hb hown (hts _ hl9) (hK.1 ci _ hc).2 (va_recv hK (hW.P1 (cE_obj ho hci)) (q0 := 0) hc rfl) d (k H locs ls hW hS hl)
theorem V_objInit (C : Cx p l s m args meth c D kA b t0 nL own nm cc) {a idx : Nat} (l1 : Cond.methodLink own idx Lib.objectInit ∈ TBL) (l2 : Cond.instanceMethod Lib.objectInit ∈ TBL) (l3 : Cond.code Lib.objectInit { data := #[177] } 1 none ∈ TBL) (hf : 1 ≤ R.frames) (hlo : (st.map fun v => v.category).sum + 12 ≤ R.locals) (d : DI cc pc (.invokespecial idx) 3 pc')
    (k : V p l e R s m args below meth c D kA b nL (cells) (slots) (Q) X (pc') (lv) (st)) : V p l e R s m args below meth c D kA b nL (cells) (slots) (Q) X (pc) (lv) (rv (some a) :: st) := by
  obtain ⟨hx, hb, hml, hown, hts, hlk, hK, hF, hst, hbs, hnm⟩ := C
  obtain ⟨d, rfl⟩ := d
  intro H locs ls hW hS hl
  exact W.objInit hx hb hown (hts _ l1) (hts _ l2) (hts _ l3) rfl (hl.1.trans hml.symm) rfl d hf (by show 2 * 0 + _ + 12 ≤ _; omega) (k H locs ls hW hS hl)
theorem V_copyO (C : Cx p l s m args meth c D kA b t0 nL own nm cc) {a0 a n0 n1 sp dp nn idx : Nat} {zn zd zs : Int} (hzn : zn = (nn : Int)) (hzd : zd = (dp : Int)) (hzs : zs = (sp : Int)) (ho0 : gK X a0 = 23) (ho : gK X a = 23) (hN0 : gN X a0 = n0) (hN : gN X a = n1) (h4 : sp + nn ≤ n0) (h5 : dp + nn ≤ n1) (hn0 : n0 ≤ 2147483647) (hn1 : n1 ≤ 2147483647) (hel : ∀ i, i < nn → ∀ v, gO X a0 (sp + i) = some v → ∀ H, wd D kA b X H → va_Any "java/lang/Object" s H v) (l1 : Cond.methodLink own idx arraycopyName ∈ TBL) (l2 : Cond.native arraycopyName ∈ TBL) (l3 : Cond.static arraycopyName ∈ TBL) (l4 : Cond.initialized "java/lang/System" ∈ TBL) (hf : 1 ≤ R.frames) (hlo : (st.map fun v => v.category).sum + 18 ≤ R.locals) (d : DI cc pc (.invokestatic idx) 3 pc')
    (k : V p l e R s m args below meth c D kA b nL (cells) (slots) (Q) (sOr X a (va_cpy (gO X a0) (gO X a) sp dp nn)) (pc') (lv) (st)) : V p l e R s m args below meth c D kA b nL (cells) (slots) (Q) X (pc) (lv) (iv zn :: iv zd :: rv (some a) :: iv zs :: rv (some a0) :: st) := by
  obtain ⟨hx, hb, hml, hown, hts, hlk, hK, hF, hst, hbs, hnm⟩ := C
  obtain ⟨d, rfl⟩ := d
  subst hzn hzd hzs hN0 hN
  intro H locs ls hW hS hl
  obtain ⟨i, hi⟩ := hW.at (cE_23 (Or.inl ho)) (by omega)
  obtain ⟨i0, hi0⟩ := hW.at (cE_23 (Or.inl ho0)) (by omega)
  obtain ⟨hP, hD⟩ := hW.PD
  have e1 : (zI (sp : Int)).toNatClampNeg = sp := zI_clamp (by omega)
  have e2 : (zI (dp : Int)).toNatClampNeg = dp := zI_clamp (by omega)
  have e3 : (zI (nn : Int)).toNatClampNeg = nn := zI_clamp (by omega)
  have ng : ∀ q : Nat, q ≤ 2147483647 → ¬ zI (q : Int) < 0 := fun q hq h => by
    have := (zI_lt (by omega) rng_0).mp h
    omega
  refine va_copyM (D := D) (cl := vwCl) hx hb (hml.trans hl.1.symm) hown (hts _ l1) (hts _ l2) (hts _ l3) (hts _ l4) hK hP hD hS i0 i 3 3 hi0 hi rfl rfl (ng sp (by omega)) (ng dp (by omega)) (ng nn (by omega)) (by rw [e1, e3]; exact h4) (by rw [e2, e3]; exact h5) (fun i hi v hv => by rw [e3] at hi; rw [e1] at hv; exact hel i hi v hv H hW) hf (by show _ + (7 + 11) ≤ _; omega) d (fun H1 locs1 hP1 _ hS1 => ?_)
  rw [e1, e2, e3] at hP1
  have e4 : va_cpy (gO X a0) (gO X a) sp dp nn = gO (sOr X a (va_cpy (gO X a0) (gO X a) sp dp nn)) a := (if_pos rfl).symm
  rw [e4] at hP1
  exact k H1 locs1 ls (hW.set hbs hS hS1 hi hP1 (cE_23 (Or.inl (by exact ho))) rfl (fun q hq => ⟨cE_ext rfl (fun _ => rfl) (fun _ => rfl) rfl (fun _ => rfl) (fun g => congrFun (if_neg hq) g), rfl⟩)) hS1 hl
theorem V_copyI (C : Cx p l s m args meth c D kA b t0 nL own nm cc) {a0 a n0 n1 sp dp nn idx : Nat} {zn zd zs : Int} (hzn : zn = (nn : Int)) (hzd : zd = (dp : Int)) (hzs : zs = (sp : Int)) (ho0 : gK X a0 = 20) (ho : gK X a = 20) (hN0 : gN X a0 = n0) (hN : gN X a = n1) (h4 : sp + nn ≤ n0) (h5 : dp + nn ≤ n1) (hn0 : n0 ≤ 2147483647) (hn1 : n1 ≤ 2147483647) (l1 : Cond.methodLink own idx arraycopyName ∈ TBL) (l2 : Cond.native arraycopyName ∈ TBL) (l3 : Cond.static arraycopyName ∈ TBL) (l4 : Cond.initialized "java/lang/System" ∈ TBL) (hf : 1 ≤ R.frames) (hlo : (st.map fun v => v.category).sum + 18 ≤ R.locals) (d : DI cc pc (.invokestatic idx) 3 pc')
    (k : V p l e R s m args below meth c D kA b nL (cells) (slots) (Q) (sAr X a (va_cpy (gA X a0) (gA X a) sp dp nn)) (pc') (lv) (st)) : V p l e R s m args below meth c D kA b nL (cells) (slots) (Q) X (pc) (lv) (iv zn :: iv zd :: rv (some a) :: iv zs :: rv (some a0) :: st) := by
  obtain ⟨hx, hb, hml, hown, hts, hlk, hK, hF, hst, hbs, hnm⟩ := C
  obtain ⟨d, rfl⟩ := d
  subst hzn hzd hzs hN0 hN
  intro H locs ls hW hS hl
  obtain ⟨i, hi⟩ := hW.at (cE_20 ho) (by omega)
  obtain ⟨i0, hi0⟩ := hW.at (cE_20 ho0) (by omega)
  obtain ⟨hP, hD⟩ := hW.PD
  have e1 : (zI (sp : Int)).toNatClampNeg = sp := zI_clamp (by omega)
  have e2 : (zI (dp : Int)).toNatClampNeg = dp := zI_clamp (by omega)
  have e3 : (zI (nn : Int)).toNatClampNeg = nn := zI_clamp (by omega)
  have ng : ∀ q : Nat, q ≤ 2147483647 → ¬ zI (q : Int) < 0 := fun q hq h => by
    have := (zI_lt (by omega) rng_0).mp h
    omega
  refine va_copyi (D := D) (cl := vwCl) hx hb (hml.trans hl.1.symm) hown (hts _ l1) (hts _ l2) (hts _ l3) (hts _ l4) hK hP hD hS i0 i 0 0 hi0 hi rfl rfl rfl (ng sp (by omega)) (ng dp (by omega)) (ng nn (by omega)) (by rw [e1, e3]; exact h4) (by rw [e2, e3]; exact h5) (fun _ _ => rfl) hf (by show _ + (7 + 11) ≤ _; omega) d (fun H1 locs1 hP1 _ hS1 => ?_)
  rw [e1, e2, e3] at hP1
  have e4 : va_cpy (fun i => zI (gA X a0 i)) (fun i => zI (gA X a i)) sp dp nn = fun i => zI (gA (sAr X a (va_cpy (gA X a0) (gA X a) sp dp nn)) a i) := by
    have e5 : gA (sAr X a (va_cpy (gA X a0) (gA X a) sp dp nn)) a = va_cpy (gA X a0) (gA X a) sp dp nn := if_pos rfl
    rw [e5]
    funext i
    unfold va_cpy
    split <;> rfl
  rw [e4] at hP1
  exact k H1 locs1 ls (hW.set hbs hS hS1 hi hP1 (cE_20 (by exact ho)) rfl (fun q hq => ⟨cE_ext rfl (fun _ => rfl) (fun _ => rfl) rfl (fun g => congrFun (if_neg hq) g) (fun _ => rfl), rfl⟩)) hS1 hl
theorem V_mmax (C : Cx p l s m args meth c D kA b t0 nL own nm cc) {x y : Int} {idx : Nat} (hrx : rng x) (hry : rng y) (kv : KS own idx yJ9_max_7cf53 cJ9_max_7cf53 2 (some .int) 2) (hf : 1 ≤ R.frames) (hlo : (st.map fun v => v.category).sum + 13 ≤ R.locals) (hc1 : cells ≤ R.cells) (hs1 : slots ≤ R.slots) (d : DI cc pc (.invokestatic idx) 3 pc')
    (k : V p l e R s m args below meth c D kA b nL (cells) (slots) (Q) X (pc') (lv) (iv (if x < y then y else x) :: st)) : V p l e R s m args below meth c D kA b nL (cells) (slots) (Q) X (pc) (lv) (iv y :: iv x :: st) := by
  obtain ⟨hx, hb, hml, hown, hts, hlk, hK, hF, hst, hbs, hnm⟩ := C
  obtain ⟨d, rfl⟩ := d
  obtain ⟨h1, h2, h4, h5, h6⟩ := kv
  intro H locs ls hW hS hl
  have e : zI (if x < y then y else x) = if zI x < zI y then zI y else zI x := by
    by_cases h : x < y
    · rw [if_pos h, if_pos ((zI_lt hrx hry).mpr h)]
    · rw [if_neg h, if_neg (fun z => h ((zI_lt hrx hry).mp z))]
  have k2 := k H locs ls hW hS hl
  refine va_mmax hx hb (hml.trans hl.1.symm) hown (hts _ h1) (hts _ h2) (hts _ h4) (hts _ h5) hf hlo hc1 hs1 d ?_
  rw [← e]
  exact k2
theorem V_mmin (C : Cx p l s m args meth c D kA b t0 nL own nm cc) {x y : Int} {idx : Nat} (hrx : rng x) (hry : rng y) (kv : KS own idx yJ9_min_7cf53 cJ9_min_7cf53 2 (some .int) 2) (hf : 1 ≤ R.frames) (hlo : (st.map fun v => v.category).sum + 13 ≤ R.locals) (hc1 : cells ≤ R.cells) (hs1 : slots ≤ R.slots) (d : DI cc pc (.invokestatic idx) 3 pc')
    (k : V p l e R s m args below meth c D kA b nL (cells) (slots) (Q) X (pc') (lv) (iv (if y < x then y else x) :: st)) : V p l e R s m args below meth c D kA b nL (cells) (slots) (Q) X (pc) (lv) (iv y :: iv x :: st) := by
  obtain ⟨hx, hb, hml, hown, hts, hlk, hK, hF, hst, hbs, hnm⟩ := C
  obtain ⟨d, rfl⟩ := d
  obtain ⟨h1, h2, h4, h5, h6⟩ := kv
  intro H locs ls hW hS hl
  have e : zI (if y < x then y else x) = if zI y < zI x then zI y else zI x := by
    by_cases h : y < x
    · rw [if_pos h, if_pos ((zI_lt hry hrx).mpr h)]
    · rw [if_neg h, if_neg (fun z => h ((zI_lt hry hrx).mp z))]
  have k2 := k H locs ls hW hS hl
  refine va_mmin hx hb (hml.trans hl.1.symm) hown (hts _ h1) (hts _ h2) (hts _ h4) (hts _ h5) hf hlo hc1 hs1 d ?_
  rw [← e]
  exact k2
theorem V_ldcM (C : Cx p l s m args meth c D kA b t0 nL own nm cc) {idx mi : Nat} (hM : va_Mi "[Ljava/lang/Object;" mi s) (l1 : Cond.classLink own idx "[Ljava/lang/Object;" ∈ TBL) (d : DI cc pc (.ldc idx) 2 pc')
    (k : V p l e R s m args below meth c D kA b nL (cells) (slots) (Q) X (pc') (lv) (rv (some mi) :: st)) : V p l e R s m args below meth c D kA b nL (cells) (slots) (Q) X (pc) (lv) (st) := by
  obtain ⟨hx, hb, hml, hown, hts, hlk, hK, hF, hst, hbs, hnm⟩ := C
  obtain ⟨d, rfl⟩ := d
  intro H locs ls hW hS hl
  exact va_ldcM hx hb hown (hts _ l1) hM d (k H locs ls hW hS hl)
theorem V_getC (C : Cx p l s m args meth c D kA b t0 nL own nm cc) {a idx mi : Nat} (hM : va_Mi "[Ljava/lang/Object;" mi s) (ho : gK X a = 23) (l1 : Cond.methodLink own idx ⟨"java/lang/Object", "getClass", "()Ljava/lang/Class;"⟩ ∈ TBL) (l2 : Cond.selects "[Ljava/lang/Object;" ⟨"java/lang/Object", "getClass", "()Ljava/lang/Class;"⟩ ⟨"java/lang/Object", "getClass", "()Ljava/lang/Class;"⟩ ∈ TBL) (l3 : Cond.instanceMethod ⟨"java/lang/Object", "getClass", "()Ljava/lang/Class;"⟩ ∈ TBL) (l4 : Cond.native ⟨"java/lang/Object", "getClass", "()Ljava/lang/Class;"⟩ ∈ TBL) (hf : 1 ≤ R.frames) (hlo : (st.map fun v => v.category).sum + 14 ≤ R.locals) (d : DI cc pc (.invokevirtual idx) 3 pc')
    (k : V p l e R s m args below meth c D kA b nL (cells) (slots) (Q) X (pc') (lv) (rv (some mi) :: st)) : V p l e R s m args below meth c D kA b nL (cells) (slots) (Q) X (pc) (lv) (rv (some a) :: st) := by
  obtain ⟨hx, hb, hml, hown, hts, hlk, hK, hF, hst, hbs, hnm⟩ := C
  obtain ⟨d, rfl⟩ := d
  intro H locs ls hW hS hl
  refine va_getC hx hb (hml.trans hl.1.symm) hown (hts _ l1) (va_any rfl hF.2.2.1) (hts _ l2) (hts _ l3) (hts _ l4) hM ?_ hf hlo d (k H locs ls hW hS hl)
  obtain ⟨_, _, _, _, _, h2⟩ := (hK.2 3 (kA 3, .object "java/lang/Object") rfl).2
  exact ⟨_, (hW _ _ (cE_23 (Or.inl ho))).1 (by omega), rfl, h2⟩
/-- a contract whose start knows the mirror of Object[] -/
def Cm (l : Launch) (D : va_G) (kA : Nat → ClassId) (b t0 : Nat) (y : MethodName) (cc : ByteArray) (n : Nat) (ret : Option FieldType) (fr lc : Nat) (av : List Value) (mi : Nat) (X : Mm) (mc ms : Nat) (post : Option Value → Mm → Prop) (px : String → Mm → Prop) : Prop :=
  vx_Met l y (.code y cc n ret :: TBL) { frames := fr, cells := mc, slots := ms, locals := lc } (va_Pc av (fun U => Pw D kA b t0 X U ∧ va_Mi "[Ljava/lang/Object;" mi U)) (Qk D kA b post) (Xk D kA b px) mc ms (Ab b)
theorem Cm_mk {av : List Value} {mi : Nat} (hl : l.stackTraces = false) (hy : plainName y.cls = true) (hn : av.length ≤ n) (hc : av.all (fun v => v.category == 1) = true)
    (body : ∀ (p : Program) (e : Env) (s : State) (m : MethodId) (args : Array Value) (below : List Frame) (meth : Method) (c : Code), va_Mi "[Ljava/lang/Object;" mi s → Cx p l s m args meth c D kA b t0 n y.cls y.name cy → meth.sig.returnType = ret → (∀ x ∈ c.exceptionTable.toList, False) → V p l e { frames := fr, cells := mc, slots := ms, locals := lc } s m args below meth c D kA b n 0 0 (vx_MQ below (Qk D kA b post) (Xk D kA b px) args s mc ms (Ab b)) X 0 (av.map some ++ List.replicate (n - av.length) none) []) : Cm l D kA b t0 y cy n ret fr lc av mi X mc ms post px := by
  refine vx_ofW (cc := cy) (maxL := n) (ret := ret) hy rfl ?_
  intro p e s m args below meth c s₁ B hml ht hv
  obtain ⟨rfl, ⟨hW, hK, hF, hb⟩, hmi⟩ := hv
  have hts := atoms_spec (ws := .code y cy n ret :: TBL) B.pre
  rw [lg_entry_eq]
  exact body p e s m _ below meth c hmi ⟨B.exec, B.bytes, hml, findClass_of_methodNamed B.named, fun w hw => hts w (List.mem_cons_of_mem _ hw), B.notSynchronized, hK, hF, hl, hb, (name_of_methodNamed B.named B.method).1⟩ B.returns ht s.heap [] _ hW va_S.rf (lvO_entry hn (fun v hv => by have := List.all_eq_true.mp hc v hv; simpa using this))
theorem Pm_blind {av : List Value} {mi : Nat} : FrameBlind (va_Pc av (fun U => Pw D kA b t0 X U ∧ va_Mi "[Ljava/lang/Object;" mi U)) := fun a U g mk q => by
  obtain ⟨q0, ⟨q1, q2, q3, q4⟩, q5⟩ := q
  exact ⟨q0, ⟨q1, va_K.moved (u := U) (U := U.calling g mk a) (Vm.Alike.refl U.vm) q2, q3.calling g mk a, q4⟩, va_Mi.moved (u := U) (U := U.calling g mk a) (Vm.Alike.refl U.vm) q5⟩

theorem V_callSm (C : Cx p l s m args meth c D kA b t0 nL own nm cc) {st0 As : List Value} {k idx mi : Nat} (hmi : va_Mi "[Ljava/lang/Object;" mi s)  (hM : Cm l D kA b t0 y cy n ret fr lc As mi X mc ms post px) (kv : KS own idx y cy n ret k) (hst0 : st0 = As.reverse ++ st) (hn : As.length = k) (hcat : (st.map fun v => v.category).sum ≤ 8) (hR : fr + 1 ≤ R.frames ∧ 8 + (n + 11) + lc ≤ R.locals) (hf : cells + mc ≤ R.cells ∧ slots + ms ≤ R.slots)
    (d : DI cc pc (.invokestatic idx) 3 pc') (kx : ∀ (E : String) (Y : Mm), px E Y → VX p l e R s m args below meth c D kA b nL (cells + mc) (slots + ms) (Q) Y (pc) (lv) (E)) (kk : ∀ (v : Option Value) (Y : Mm), post v Y → V p l e R s m args below meth c D kA b nL (cells + mc) (slots + ms) (Q) Y (pc') (lv) (v.toList ++ st)) : V p l e R s m args below meth c D kA b nL (cells) (slots) (Q) X (pc) (lv) (st0) := by
  subst hst0
  obtain ⟨h1, h2, h4, h5, h6⟩ := kv
  obtain ⟨d, rfl⟩ := d
  refine V_runs C (mc := mc) (ms := ms) (a := As.toArray) (fun H locs ls hW hS hl => ?_) kx kk
  have C2 := C
  obtain ⟨hx, hb, hml, hown, hts, hlk, hK, hF, hst, hbs, hnm⟩ := C
  exact vx_runS ⟨hx, hb, hml, hown, hts⟩ hM ⟨hts_in C2 rfl rfl h5 h4 h1 h6 hR, hts _ h2⟩ ⟨Pm_blind, fun U hU hw => ⟨rfl, Pw_at C2 hW hS U hU hw, hmi.moved hw.alike⟩⟩ rfl hn hl.1 rfl (lv_room hcat) d hf

end V2
theorem ac2 : Cond.native arraycopyName ∈ TBL := TBL_mk 184 (by decide +kernel) (by decide +kernel)
theorem ac3 : Cond.static arraycopyName ∈ TBL := TBL_mk 183 (by decide +kernel) (by decide +kernel)
theorem ac4 : Cond.initialized "java/lang/System" ∈ TBL := TBL_mk 39 (by decide +kernel) (by decide +kernel)
theorem gc2 : Cond.selects "[Ljava/lang/Object;" ⟨"java/lang/Object", "getClass", "()Ljava/lang/Class;"⟩ ⟨"java/lang/Object", "getClass", "()Ljava/lang/Class;"⟩ ∈ TBL := TBL_mk 869 (by decide +kernel) (by decide +kernel)
theorem gc3 : Cond.instanceMethod ⟨"java/lang/Object", "getClass", "()Ljava/lang/Class;"⟩ ∈ TBL := TBL_mk 157 (by decide +kernel) (by decide +kernel)
theorem gc4 : Cond.native ⟨"java/lang/Object", "getClass", "()Ljava/lang/Class;"⟩ ∈ TBL := TBL_mk 172 (by decide +kernel) (by decide +kernel)
theorem cc_RL_8 : Cond.classLink RL 8 RX9 ∈ TBL := TBL_mk 54 (by decide +kernel) (by decide +kernel)
theorem oi_RX9_1 : Cond.methodLink RX9 1 Lib.objectInit ∈ TBL := TBL_mk 59 (by decide +kernel) (by decide +kernel)
theorem cc_RX9_7 : Cond.classLink RX9 7 RJx4a65c ∈ TBL := TBL_mk 62 (by decide +kernel) (by decide +kernel)
theorem oi_RJxa1e45_1 : Cond.methodLink RJxa1e45 1 Lib.objectInit ∈ TBL := TBL_mk 73 (by decide +kernel) (by decide +kernel)
theorem sf_39 : Cond.fieldLink "java/util/ArrayList" 39 "java/util/ArrayList" "DEFAULTCAPACITY_EMPTY_ELEMENTDATA" "[Ljava/lang/Object;" ∈ TBL := TBL_mk 74 (by decide +kernel) (by decide +kernel)
theorem cc_RX9_47 : Cond.classLink RX9 47 RX3 ∈ TBL := TBL_mk 88 (by decide +kernel) (by decide +kernel)
theorem oi_RX3_1 : Cond.methodLink RX3 1 Lib.objectInit ∈ TBL := TBL_mk 93 (by decide +kernel) (by decide +kernel)
theorem cc_RX3_7 : Cond.classLink RX3 7 RX7 ∈ TBL := TBL_mk 94 (by decide +kernel) (by decide +kernel)
theorem oi_RX7_1 : Cond.methodLink RX7 1 Lib.objectInit ∈ TBL := TBL_mk 99 (by decide +kernel) (by decide +kernel)
theorem gc1_86 : Cond.methodLink "java/util/Arrays" 86 ⟨"java/lang/Object", "getClass", "()Ljava/lang/Class;"⟩ ∈ TBL := TBL_mk 156 (by decide +kernel) (by decide +kernel)
theorem cc_RJ7_110 : Cond.classLink RJ7 110 "[Ljava/lang/Object;" ∈ TBL := TBL_mk 176 (by decide +kernel) (by decide +kernel)
theorem cc_RJ7_2 : Cond.classLink RJ7 2 "java/lang/Object" ∈ TBL := TBL_mk 178 (by decide +kernel) (by decide +kernel)
theorem ac1_150 : Cond.methodLink "java/util/Arrays" 150 arraycopyName ∈ TBL := TBL_mk 182 (by decide +kernel) (by decide +kernel)
theorem cc_RJx4a65c_7 : Cond.classLink RJx4a65c 7 "java/lang/Object" ∈ TBL := TBL_mk 186 (by decide +kernel) (by decide +kernel)
theorem cc_RX9_278 : Cond.classLink RX9 278 "java/lang/IndexOutOfBoundsException" ∈ TBL := TBL_mk 233 (by decide +kernel) (by decide +kernel)
theorem cc_RX9_229 : Cond.classLink RX9 229 "java/lang/IllegalArgumentException" ∈ TBL := TBL_mk 319 (by decide +kernel) (by decide +kernel)
theorem cc_RX9_138 : Cond.classLink RX9 138 "java/lang/IllegalStateException" ∈ TBL := TBL_mk 338 (by decide +kernel) (by decide +kernel)
theorem cc_RX9_71 : Cond.classLink RX9 71 RX5 ∈ TBL := TBL_mk 354 (by decide +kernel) (by decide +kernel)
theorem oi_RX5_1 : Cond.methodLink RX5 1 Lib.objectInit ∈ TBL := TBL_mk 359 (by decide +kernel) (by decide +kernel)
theorem cc_RX5_24 : Cond.classLink RX5 24 RJx4a65c ∈ TBL := TBL_mk 360 (by decide +kernel) (by decide +kernel)
theorem cc_RX9_80 : Cond.classLink RX9 80 RX1 ∈ TBL := TBL_mk 404 (by decide +kernel) (by decide +kernel)
theorem oi_RX1_3 : Cond.methodLink RX1 3 Lib.objectInit ∈ TBL := TBL_mk 409 (by decide +kernel) (by decide +kernel)
theorem cc_RX9_86 : Cond.classLink RX9 86 RX2 ∈ TBL := TBL_mk 433 (by decide +kernel) (by decide +kernel)
theorem oi_RX2_1 : Cond.methodLink RX2 1 Lib.objectInit ∈ TBL := TBL_mk 438 (by decide +kernel) (by decide +kernel)
theorem cc_RX9_161 : Cond.classLink RX9 161 RX4 ∈ TBL := TBL_mk 505 (by decide +kernel) (by decide +kernel)
theorem cc_RX9_127 : Cond.classLink RX9 127 RX7 ∈ TBL := TBL_mk 552 (by decide +kernel) (by decide +kernel)
theorem cc_RX9_148 : Cond.classLink RX9 148 RX0 ∈ TBL := TBL_mk 571 (by decide +kernel) (by decide +kernel)
theorem oi_RX4_3 : Cond.methodLink RX4 3 Lib.objectInit ∈ TBL := TBL_mk 584 (by decide +kernel) (by decide +kernel)
theorem cc_RX4_62 : Cond.classLink RX4 62 RX8 ∈ TBL := TBL_mk 585 (by decide +kernel) (by decide +kernel)
theorem oi_RX8_3 : Cond.methodLink RX8 3 Lib.objectInit ∈ TBL := TBL_mk 589 (by decide +kernel) (by decide +kernel)
theorem cc_RX8_22 : Cond.classLink RX8 22 RX6 ∈ TBL := TBL_mk 590 (by decide +kernel) (by decide +kernel)
theorem oi_RX6_3 : Cond.methodLink RX6 3 Lib.objectInit ∈ TBL := TBL_mk 595 (by decide +kernel) (by decide +kernel)
theorem ac1_112 : Cond.methodLink "java/util/ArrayList" 112 arraycopyName ∈ TBL := TBL_mk 700 (by decide +kernel) (by decide +kernel)
theorem cc_RJ7_317 : Cond.classLink RJ7 317 "[I" ∈ TBL := TBL_mk 780 (by decide +kernel) (by decide +kernel)
theorem oi2 : Cond.instanceMethod Lib.objectInit ∈ TBL := TBL_mk 60 (by decide +kernel) (by decide +kernel)
theorem oi3 : Cond.code Lib.objectInit { data := #[177] } 1 none ∈ TBL := TBL_mk 61 (by decide +kernel) (by decide +kernel)
