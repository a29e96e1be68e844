/-! rows of the heap: fields, arrays, new cells -/
section VH
variable {p : Program} {l : Launch} {e : Env} {R : Room} {s : State} {m : MethodId} {args : Array Value} {below : List Frame} {meth : Method} {c : Code}
variable {D : va_G} {kA : Nat → ClassId} {b t0 nL cells slots : Nat} {Q : State → Prop} {own nm : String} {cc : ByteArray} {X : Mm} {pc pc' tgt : Nat} {lv : List (Option Value)} {st : List Value}

theorem fd_same {ref : String} {T : u_T} {k : Nat} (hts : ∀ w ∈ TBL, w.before args s = true) (h : ref = (T k).1 ∨ Cond.sameField ref (T k).1 (T k).2.1 (T k).2.2.1 ∈ TBL) : ∀ x, s.fieldFound? (T k).1 (T k).2.1 (T k).2.2.1 = some x → s.fieldFound? ref (T k).2.1 (T k).2.2.1 = some x := by
  intro x hx
  rcases h with rfl | h
  · exact hx
  · exact u_same (hts _ h) x hx
theorem V_getI (C : Cx p l s m args meth c D kA b t0 nL own nm cc) {a ci N kf f idx : Nat} {Cn : String} {T : u_T} {ty : Nat → FieldType} (cl : CL ci Cn T N ty) (fd : FD own idx ci T N kf f false) (ho : gK X a = ci + 1) (d : DI cc pc (.getfield idx) 3 pc')
    (k : V p l e R s m args below meth c D kA b nL (cells) (slots) (Q) X (pc') (lv) (iv (gI X f a) :: st)) : V p l e R s m args below meth c D kA b nL (cells) (slots) (Q) X (pc) (lv) (rv (some a) :: st) := by
  obtain ⟨hx, hb, hml, hown, hts, hlk, hK, hF, hst, hbs, hnm⟩ := C
  obtain ⟨hc, hci, hnf, hty, hnmm, hin, hdf⟩ := cl
  obtain ⟨hk, rfl, hr, ref, hlink, hsm⟩ := fd
  obtain ⟨d, rfl⟩ := d
  intro H locs ls hW hS hl
  have he := cE_obj (kA := kA) ho hci
  refine va_get (D := D) (cl := vwCl) (ci := ci) (N := N) hx hb hts hin hown hK (hW.P1 he) 0 rfl hc kf hk (hts _ hlink) (fd_same hts hsm) (v := iv (gI X (64 * ci + kf) a)) ?_ d (k H locs ls hW hS hl)
  rw [fl_get _ _ (by omega), hr]
  rfl
theorem V_getP (C : Cx p l s m args meth c D kA b t0 nL own nm cc) {a ci N kf f idx : Nat} {Cn : String} {T : u_T} {ty : Nat → FieldType} {r : Option Nat} (cl : CL ci Cn T N ty) (fd : FD own idx ci T N kf f true) (ho : gK X a = ci + 1) (hp : gP X f a = r) (d : DI cc pc (.getfield idx) 3 pc')
    (k : V p l e R s m args below meth c D kA b nL (cells) (slots) (Q) X (pc') (lv) (rv r :: st)) : V p l e R s m args below meth c D kA b nL (cells) (slots) (Q) X (pc) (lv) (rv (some a) :: st) := by
  obtain ⟨hx, hb, hml, hown, hts, hlk, hK, hF, hst, hbs, hnm⟩ := C
  obtain ⟨hc, hci, hnf, hty, hnmm, hin, hdf⟩ := cl
  obtain ⟨hk, rfl, hr, ref, hlink, hsm⟩ := fd
  obtain ⟨d, rfl⟩ := d
  intro H locs ls hW hS hl
  have he := cE_obj (kA := kA) ho hci
  refine va_get (D := D) (cl := vwCl) (ci := ci) (N := N) hx hb hts hin hown hK (hW.P1 he) 0 rfl hc kf hk (hts _ hlink) (fd_same hts hsm) (v := rv r) ?_ d (k H locs ls hW hS hl)
  rw [fl_get _ _ (by omega), hr, ← hp]
  rfl
theorem V_putI (C : Cx p l s m args meth c D kA b t0 nL own nm cc) {a ci N kf f idx : Nat} {Cn : String} {T : u_T} {ty : Nat → FieldType} {z : Int} (cl : CL ci Cn T N ty) (fd : FD own idx ci T N kf f false) (hfin : (T kf).2.2.2 = false ∨ ((T kf).2.2.2 = true ∧ nm = "<init>" ∧ (T kf).1 = own)) (ht : ty kf = .int) (ho : gK X a = ci + 1) (d : DI cc pc (.putfield idx) 3 pc')
    (k : V p l e R s m args below meth c D kA b nL (cells) (slots) (Q) (sI X f a z) (pc') (lv) (st)) : V p l e R s m args below meth c D kA b nL (cells) (slots) (Q) X (pc) (lv) (iv z :: rv (some a) :: st) := by
  obtain ⟨hx, hb, hml, hown, hts, hlk, hK, hF, hst, hbs, hnm⟩ := C
  obtain ⟨hc, hci, hnf, hty, hnmm, hin, hdf⟩ := cl
  obtain ⟨hk, rfl, hr, ref, hlink, hsm⟩ := fd
  obtain ⟨d, rfl⟩ := d
  intro H locs ls hW hS hl
  have he := cE_obj (kA := kA) ho hci
  obtain ⟨j, hj⟩ := hW.at he (by omega)
  obtain ⟨hP, hD⟩ := hW.PD
  have hset : fl ci (sI X (64 * ci + kf) a z) a = (fl ci X a).set kf (iv z) := fl_sI X a z hr
  have fin : ∀ (H1 : Heap) (locs1 : List Loc), va_P D vwCl ((lsW kA X H.size).set j (a, .inr (ci, (fl ci X a).set kf (iv z)))) H1 → va_D (Ab b) ((lsW kA X H.size).set j (a, .inr (ci, (fl ci X a).set kf (iv z)))) → va_S (Ab b) s.heap H1 locs1 → W p l e R s m args below meth c H1 locs1 cells slots Q (F0 m (pc + 3) ls st) := by
    intro H1 locs1 hP1 _ hS1
    rw [← hset] at hP1
    refine k H1 locs1 ls (hW.set hbs hS hS1 hj hP1 (cE_obj (by exact ho) hci) rfl (fun q hq => ⟨cE_ext rfl (fun g => ?_) (fun g => ?_) rfl (fun _ => rfl) (fun _ => rfl), rfl⟩)) hS1 hl
    · first | rfl | (rw [gI_sI, if_neg (fun z => hq z.2)])
    · first | rfl | (rw [gP_sP, if_neg (fun z => hq z.2)])
  rcases hfin with hfin | ⟨hfin, h2, h3⟩
  · exact va_put (D := D) (cl := vwCl) (ci := ci) (N := N) hx hb hts hin ty hty hnmm hown hK hP hD hS j hj hc kf hk (hts _ hlink) (fd_same hts hsm) hfin (hty kf hk) (by rw [ht]; rfl) (by rw [ht]; rfl) (by rw [fl_len]; omega) d fin
  · exact va_putF (D := D) (cl := vwCl) (ci := ci) (N := N) hx hb hts hin ty hty hnmm hown hK hP hD hS j hj hc kf hk (hts _ hlink) (fd_same hts hsm) hfin (hnm.trans h2) h3 (hty kf hk) (by rw [ht]; rfl) (by rw [ht]; rfl) (by rw [fl_len]; omega) d fin
theorem V_putZ (C : Cx p l s m args meth c D kA b t0 nL own nm cc) {a ci N kf f idx : Nat} {Cn : String} {T : u_T} {ty : Nat → FieldType} {z : Int} (cl : CL ci Cn T N ty) (fd : FD own idx ci T N kf f false) (hfin : (T kf).2.2.2 = false ∨ ((T kf).2.2.2 = true ∧ nm = "<init>" ∧ (T kf).1 = own)) (ht : ty kf = .boolean) (hz : z = 0 ∨ z = 1) (ho : gK X a = ci + 1) (d : DI cc pc (.putfield idx) 3 pc')
    (k : V p l e R s m args below meth c D kA b nL (cells) (slots) (Q) (sI X f a z) (pc') (lv) (st)) : V p l e R s m args below meth c D kA b nL (cells) (slots) (Q) X (pc) (lv) (iv z :: rv (some a) :: st) := by
  obtain ⟨hx, hb, hml, hown, hts, hlk, hK, hF, hst, hbs, hnm⟩ := C
  obtain ⟨hc, hci, hnf, hty, hnmm, hin, hdf⟩ := cl
  obtain ⟨hk, rfl, hr, ref, hlink, hsm⟩ := fd
  obtain ⟨d, rfl⟩ := d
  intro H locs ls hW hS hl
  have he := cE_obj (kA := kA) ho hci
  obtain ⟨j, hj⟩ := hW.at he (by omega)
  obtain ⟨hP, hD⟩ := hW.PD
  have hset : fl ci (sI X (64 * ci + kf) a z) a = (fl ci X a).set kf (iv z) := fl_sI X a z hr
  have fin : ∀ (H1 : Heap) (locs1 : List Loc), va_P D vwCl ((lsW kA X H.size).set j (a, .inr (ci, (fl ci X a).set kf (iv z)))) H1 → va_D (Ab b) ((lsW kA X H.size).set j (a, .inr (ci, (fl ci X a).set kf (iv z)))) → va_S (Ab b) s.heap H1 locs1 → W p l e R s m args below meth c H1 locs1 cells slots Q (F0 m (pc + 3) ls st) := by
    intro H1 locs1 hP1 _ hS1
    rw [← hset] at hP1
    refine k H1 locs1 ls (hW.set hbs hS hS1 hj hP1 (cE_obj (by exact ho) hci) rfl (fun q hq => ⟨cE_ext rfl (fun g => ?_) (fun g => ?_) rfl (fun _ => rfl) (fun _ => rfl), rfl⟩)) hS1 hl
    · first | rfl | (rw [gI_sI, if_neg (fun z => hq z.2)])
    · first | rfl | (rw [gP_sP, if_neg (fun z => hq z.2)])
  rcases hfin with hfin | ⟨hfin, h2, h3⟩
  · exact va_put (D := D) (cl := vwCl) (ci := ci) (N := N) hx hb hts hin ty hty hnmm hown hK hP hD hS j hj hc kf hk (hts _ hlink) (fd_same hts hsm) hfin (hty kf hk) (by rw [ht]; rcases hz with rfl | rfl <;> rfl) (by rw [ht]; rcases hz with rfl | rfl <;> rfl) (by rw [fl_len]; omega) d fin
  · exact va_putF (D := D) (cl := vwCl) (ci := ci) (N := N) hx hb hts hin ty hty hnmm hown hK hP hD hS j hj hc kf hk (hts _ hlink) (fd_same hts hsm) hfin (hnm.trans h2) h3 (hty kf hk) (by rw [ht]; rcases hz with rfl | rfl <;> rfl) (by rw [ht]; rcases hz with rfl | rfl <;> rfl) (by rw [fl_len]; omega) d fin
theorem V_putP (C : Cx p l s m args meth c D kA b t0 nL own nm cc) {a ci N kf f idx : Nat} {Cn : String} {T : u_T} {ty : Nat → FieldType} {r : Option Nat} (cl : CL ci Cn T N ty) (fd : FD own idx ci T N kf f true) (hfin : (T kf).2.2.2 = false ∨ ((T kf).2.2.2 = true ∧ nm = "<init>" ∧ (T kf).1 = own)) (ht : (∃ C, ty kf = .object C) ∨ ∃ t, ty kf = .array t) (ho : gK X a = ci + 1) (d : DI cc pc (.putfield idx) 3 pc')
    (k : V p l e R s m args below meth c D kA b nL (cells) (slots) (Q) (sP X f a r) (pc') (lv) (st)) : V p l e R s m args below meth c D kA b nL (cells) (slots) (Q) X (pc) (lv) (rv r :: rv (some a) :: st) := by
  obtain ⟨hx, hb, hml, hown, hts, hlk, hK, hF, hst, hbs, hnm⟩ := C
  obtain ⟨hc, hci, hnf, hty, hnmm, hin, hdf⟩ := cl
  obtain ⟨hk, rfl, hr, ref, hlink, hsm⟩ := fd
  obtain ⟨d, rfl⟩ := d
  intro H locs ls hW hS hl
  have he := cE_obj (kA := kA) ho hci
  obtain ⟨j, hj⟩ := hW.at he (by omega)
  obtain ⟨hP, hD⟩ := hW.PD
  have hset : fl ci (sP X (64 * ci + kf) a r) a = (fl ci X a).set kf (rv r) := fl_sP X a r hr
  have fin : ∀ (H1 : Heap) (locs1 : List Loc), va_P D vwCl ((lsW kA X H.size).set j (a, .inr (ci, (fl ci X a).set kf (rv r)))) H1 → va_D (Ab b) ((lsW kA X H.size).set j (a, .inr (ci, (fl ci X a).set kf (rv r)))) → va_S (Ab b) s.heap H1 locs1 → W p l e R s m args below meth c H1 locs1 cells slots Q (F0 m (pc + 3) ls st) := by
    intro H1 locs1 hP1 _ hS1
    rw [← hset] at hP1
    refine k H1 locs1 ls (hW.set hbs hS hS1 hj hP1 (cE_obj (by exact ho) hci) rfl (fun q hq => ⟨cE_ext rfl (fun g => ?_) (fun g => ?_) rfl (fun _ => rfl) (fun _ => rfl), rfl⟩)) hS1 hl
    · first | rfl | (rw [gI_sI, if_neg (fun z => hq z.2)])
    · first | rfl | (rw [gP_sP, if_neg (fun z => hq z.2)])
  rcases hfin with hfin | ⟨hfin, h2, h3⟩
  · exact va_put (D := D) (cl := vwCl) (ci := ci) (N := N) hx hb hts hin ty hty hnmm hown hK hP hD hS j hj hc kf hk (hts _ hlink) (fd_same hts hsm) hfin (hty kf hk) (by rcases ht with ⟨_, h⟩ | ⟨_, h⟩ <;> rw [h] <;> cases r <;> rfl) (by rcases ht with ⟨_, h⟩ | ⟨_, h⟩ <;> rw [h] <;> cases r <;> rfl) (by rw [fl_len]; omega) d fin
  · exact va_putF (D := D) (cl := vwCl) (ci := ci) (N := N) hx hb hts hin ty hty hnmm hown hK hP hD hS j hj hc kf hk (hts _ hlink) (fd_same hts hsm) hfin (hnm.trans h2) h3 (hty kf hk) (by rcases ht with ⟨_, h⟩ | ⟨_, h⟩ <;> rw [h] <;> cases r <;> rfl) (by rcases ht with ⟨_, h⟩ | ⟨_, h⟩ <;> rw [h] <;> cases r <;> rfl) (by rw [fl_len]; omega) d fin
theorem V_iald (C : Cx p l s m args meth c D kA b t0 nL own nm cc) {a j n : Nat} {z : Int} (ho : gK X a = 20) (hN : gN X a = n) (hj : j < n) (hn : n ≤ 2147483647) (hz : z = (j : Int)) (d : DI cc pc (.iaload) 1 pc')
    (k : V p l e R s m args below meth c D kA b nL (cells) (slots) (Q) X (pc') (lv) (iv (gA X a j) :: st)) : V p l e R s m args below meth c D kA b nL (cells) (slots) (Q) X (pc) (lv) (iv z :: rv (some a) :: st) := by
  obtain ⟨hx, hb, hml, hown, hts, hlk, hK, hF, hst, hbs, hnm⟩ := C
  obtain ⟨d, rfl⟩ := d
  subst hz
  intro H locs ls hW hS hl
  subst hN
  have hcl : (zI (j : Int)).toNatClampNeg = j := zI_clamp (by omega)
  refine va_iald (D := D) (cl := vwCl) (ws := [(a, _)]) hx hb hK (hW.P1 (cE_20 ho)) 0 0 rfl rfl (zI_in (by omega) (by omega) (by omega)) d ?_
  rw [hcl]
  exact k H locs ls hW hS hl
theorem V_aald (C : Cx p l s m args meth c D kA b t0 nL own nm cc) {a j n : Nat} {z : Int} {r : Option Nat} (ho : gK X a = 23) (hN : gN X a = n) (hj : j < n) (hn : n ≤ 2147483647) (hz : z = (j : Int)) (hr : gO X a j = r) (d : DI cc pc (.aaload) 1 pc')
    (k : V p l e R s m args below meth c D kA b nL (cells) (slots) (Q) X (pc') (lv) (rv r :: st)) : V p l e R s m args below meth c D kA b nL (cells) (slots) (Q) X (pc) (lv) (iv z :: rv (some a) :: st) := by
  obtain ⟨hx, hb, hml, hown, hts, hlk, hK, hF, hst, hbs, hnm⟩ := C
  obtain ⟨d, rfl⟩ := d
  subst hz
  intro H locs ls hW hS hl
  subst hN
  subst hr
  have hcl : (zI (j : Int)).toNatClampNeg = j := zI_clamp (by omega)
  refine va_aldq (D := D) (cl := vwCl) (ws := [(a, _)]) hx hb hK (hW.P1 (cE_23 (Or.inl ho))) 0 3 rfl rfl (zI_in (by omega) (by omega) (by omega)) d ?_
  rw [hcl]
  exact k H locs ls hW hS hl
theorem V_alen (C : Cx p l s m args meth c D kA b t0 nL own nm cc) {a n : Nat} (ho : gK X a = 20 ∨ gK X a = 21 ∨ gK X a = 22 ∨ gK X a = 23 ∨ gK X a = 24) (hN : gN X a = n) (d : DI cc pc (.arraylength) 1 pc')
    (k : V p l e R s m args below meth c D kA b nL (cells) (slots) (Q) X (pc') (lv) (iv (n : Int) :: st)) : V p l e R s m args below meth c D kA b nL (cells) (slots) (Q) X (pc) (lv) (rv (some a) :: st) := by
  obtain ⟨hx, hb, hml, hown, hts, hlk, hK, hF, hst, hbs, hnm⟩ := C
  obtain ⟨d, rfl⟩ := d
  subst hN
  intro H locs ls hW hS hl
  have e : Int32.ofNat (gN X a) = zI (gN X a : Int) := (Int32.ofInt_eq_ofNat).symm
  rcases ho with ho | ho | ho | ho | ho
  · exact va_alen (D := D) (cl := vwCl) (ws := [(a, _)]) hx hb hK (hW.P1 (cE_20 ho)) 0 0 rfl rfl e d (k H locs ls hW hS hl)
  · exact va_alen (D := D) (cl := vwCl) (ws := [(a, _)]) hx hb hK (hW.P1 (cE_21 ho)) 0 1 rfl rfl e d (k H locs ls hW hS hl)
  · exact va_alen (D := D) (cl := vwCl) (ws := [(a, _)]) hx hb hK (hW.P1 (cE_22 ho)) 0 2 rfl rfl e d (k H locs ls hW hS hl)
  · exact va_alen (D := D) (cl := vwCl) (ws := [(a, _)]) hx hb hK (hW.P1 (cE_23 (Or.inl ho))) 0 3 rfl rfl e d (k H locs ls hW hS hl)
  · obtain ⟨cell, g1, g2, g3, g4, g5⟩ := (hW a _ (cE_23 (Or.inr ho))).2.1 ho
    obtain ⟨-, k0, hk0, cm0, hkk0⟩ := (hK.2 3 (kA 3, .object "java/lang/Object") rfl).1 0 (fun _ => Value.null)
    refine W.alen (n := Int32.ofNat (gN X a)) hx hb g1 ⟨g3, k0, by rw [g2]; exact hk0, cm0, hkk0⟩ (g5 _ rfl) rfl rfl d ?_
    rw [e]
    exact k H locs ls hW hS hl
theorem V_iast (C : Cx p l s m args meth c D kA b t0 nL own nm cc) {a j n : Nat} {z x : Int} (ho : gK X a = 20) (hN : gN X a = n) (hj : j < n) (hn : n ≤ 2147483647) (hz : z = (j : Int))  (d : DI cc pc (.iastore) 1 pc')
    (k : V p l e R s m args below meth c D kA b nL (cells) (slots) (Q) (sA X a j x) (pc') (lv) (st)) : V p l e R s m args below meth c D kA b nL (cells) (slots) (Q) X (pc) (lv) (iv x :: iv z :: rv (some a) :: st) := by
  obtain ⟨hx, hb, hml, hown, hts, hlk, hK, hF, hst, hbs, hnm⟩ := C
  obtain ⟨d, rfl⟩ := d
  subst hz
  intro H locs ls hW hS hl
  subst hN
  have hcl : (zI (j : Int)).toNatClampNeg = j := zI_clamp (by omega)
  obtain ⟨i, hi⟩ := hW.at (cE_20 ho) (by omega)
  obtain ⟨hP, hD⟩ := hW.PD
  refine va_iast (D := D) (cl := vwCl) hx hb hK hP hD hS i 0 hi rfl (zI_in (by omega) (by omega) (by omega)) d (fun H1 locs1 hP1 _ hS1 => ?_)
  rw [hcl] at hP1
  have e1 : upd (fun i => zI (gA X a i)) j (zI x) = fun i => zI (gA (sA X a j x) a i) := by
    funext q
    rw [gA_sA]
    by_cases hq : q = j <;> simp [upd, hq]
  rw [e1] at hP1
  refine k H1 locs1 ls (hW.set hbs hS hS1 hi hP1 (cE_20 (by exact ho)) rfl (fun q hq => ⟨cE_ext rfl (fun _ => rfl) (fun _ => rfl) rfl (fun g => ?_) (fun g => ?_), rfl⟩)) hS1 hl
  · rw [gA_sA, if_neg (fun z => hq z.1)]
  · rfl
theorem V_aastN (C : Cx p l s m args meth c D kA b t0 nL own nm cc) {a j n : Nat} {z : Int} (ho : gK X a = 23) (hN : gN X a = n) (hj : j < n) (hn : n ≤ 2147483647) (hz : z = (j : Int)) (d : DI cc pc (.aastore) 1 pc')
    (k : V p l e R s m args below meth c D kA b nL (cells) (slots) (Q) (sO X a j none) (pc') (lv) (st)) : V p l e R s m args below meth c D kA b nL (cells) (slots) (Q) X (pc) (lv) (rv none :: iv z :: rv (some a) :: st) := by
  obtain ⟨hx, hb, hml, hown, hts, hlk, hK, hF, hst, hbs, hnm⟩ := C
  obtain ⟨d, rfl⟩ := d
  subst hz
  intro H locs ls hW hS hl
  subst hN
  have hcl : (zI (j : Int)).toNatClampNeg = j := zI_clamp (by omega)
  obtain ⟨i, hi⟩ := hW.at (cE_23 (Or.inl ho)) (by omega)
  obtain ⟨hP, hD⟩ := hW.PD
  refine va_astqN (D := D) (cl := vwCl) hx hb hK hP hD hS i 3 hi rfl (zI_in (by omega) (by omega) (by omega)) d (fun H1 locs1 hP1 _ hS1 => ?_)
  rw [hcl] at hP1
  have e1 : va_up (gO X a) j none = gO (sO X a j none) a := by
    funext q
    rw [gO_sO]
    by_cases hq : q = j <;> simp [va_up, hq]
  rw [e1] at hP1
  refine k H1 locs1 ls (hW.set hbs hS hS1 hi hP1 (cE_23 (Or.inl (by exact ho))) rfl (fun q hq => ⟨cE_ext rfl (fun _ => rfl) (fun _ => rfl) rfl (fun g => ?_) (fun g => ?_), rfl⟩)) hS1 hl
  · rfl
  · rw [gO_sO, if_neg (fun z => hq z.1)]
theorem V_any (C : Cx p l s m args meth c D kA b t0 nL own nm cc) {H : Heap} {v ci N : Nat} {Cn : String} {T : u_T} {ty : Nat → FieldType} (cl : CL ci Cn T N ty) (hcast : (Cond.castable Cn "java/lang/Object") ∈ NW) (hv : gK X v = ci + 1) (hW : wd D kA b X H) : va_Any "java/lang/Object" s H v := by
  obtain ⟨hx, hb, hml, hown, hts, hlk, hK, hF, hst, hbs, hnm⟩ := C
  obtain ⟨hc, hci, hnf, hty, hnmm, hin, hdf⟩ := cl
  refine va_rAny hK (hW.P1 (cE_obj hv hci)) (q0 := 0) rfl hc (fun comp c0 h1 h2 => ?_)
  obtain ⟨c1, t1, g1, g2, g3⟩ := Cond.castable_spec (va_Nw.use (A := args) rfl (hF.2.2.2.2.2.2.2.1 _ hcast))
  cases h2.symm.trans g1
  cases h1.symm.trans g2
  exact g3
theorem V_aast (C : Cx p l s m args meth c D kA b t0 nL own nm cc) {a j n v : Nat} {z : Int} (ho : gK X a = 23) (hN : gN X a = n) (hj : j < n) (hn : n ≤ 2147483647) (hz : z = (j : Int)) (hv : ∀ H, wd D kA b X H → va_Any "java/lang/Object" s H v) (d : DI cc pc (.aastore) 1 pc')
    (k : V p l e R s m args below meth c D kA b nL (cells) (slots) (Q) (sO X a j (some v)) (pc') (lv) (st)) : V p l e R s m args below meth c D kA b nL (cells) (slots) (Q) X (pc) (lv) (rv (some v) :: iv z :: rv (some a) :: st) := by
  obtain ⟨hx, hb, hml, hown, hts, hlk, hK, hF, hst, hbs, hnm⟩ := C
  obtain ⟨d, rfl⟩ := d
  subst hz
  intro H locs ls hW hS hl
  subst hN
  have hcl : (zI (j : Int)).toNatClampNeg = j := zI_clamp (by omega)
  obtain ⟨i, hi⟩ := hW.at (cE_23 (Or.inl ho)) (by omega)
  obtain ⟨hP, hD⟩ := hW.PD
  refine va_astqM (D := D) (cl := vwCl) hx hb hK hP hD hS i 3 hi rfl (hv H hW) (zI_in (by omega) (by omega) (by omega)) d (fun H1 locs1 hP1 _ hS1 => ?_)
  rw [hcl] at hP1
  have e1 : va_up (gO X a) j (some v) = gO (sO X a j (some v)) a := by
    funext q
    rw [gO_sO]
    by_cases hq : q = j <;> simp [va_up, hq]
  rw [e1] at hP1
  refine k H1 locs1 ls (hW.set hbs hS hS1 hi hP1 (cE_23 (Or.inl (by exact ho))) rfl (fun q hq => ⟨cE_ext rfl (fun _ => rfl) (fun _ => rfl) rfl (fun g => ?_) (fun g => ?_), rfl⟩)) hS1 hl
  · rfl
  · rw [gO_sO, if_neg (fun z => hq z.1)]
theorem V_new (C : Cx p l s m args meth c D kA b t0 nL own nm cc) {ci N idx t : Nat} {Cn : String} {T : u_T} {ty : Nat → FieldType} (cl : CL ci Cn T N ty) (kn : KN own idx ci Cn N) (ht : ci + 1 = t) (hc1 : cells + 1 ≤ R.cells) (hs1 : slots + N ≤ R.slots) (d : DI cc pc (.new idx) 3 pc')
    (k : ∀ q : Nat, gK X q = 0 → b ≤ q → V p l e R s m args below meth c D kA b nL (cells + 1) (slots + N) (Q) (alO X q t) (pc') (lv) (rv (some q) :: st)) : V p l e R s m args below meth c D kA b nL (cells) (slots) (Q) X (pc) (lv) (st) := by
  obtain ⟨hx, hb, hml, hown, hts, hlk, hK, hF, hst, hbs, hnm⟩ := C
  obtain ⟨hc, hci, hnf, hty, hnmm, hin, hdf⟩ := cl
  obtain ⟨k1, k2, k3⟩ := kn
  obtain ⟨d, rfl⟩ := d
  subst ht
  intro H locs ls hW hS hl
  obtain ⟨hP, hD⟩ := hW.PD
  have hfs : ∀ j, j < N → defaultValue (ty j) = vp_V ((List.range (nF ci)).map fun k => if isR ci k then rv none else iv 0) j := by
    intro j hj
    rw [hdf j hj]
    unfold vp_V
    rw [List.getD_eq_getElem?_getD, List.getElem?_map, List.getElem?_range (by omega)]
    show _ = (if isR ci j = true then rv none else iv 0)
    cases isR ci j <;> rfl
  refine va_new (D := D) (cl := vwCl) (ci := ci) (N := N) hx hb hts hin ty hty hown (hts _ k1) (hts _ k2) (hts _ k3) hK hP hD hS (fun q hq => Nat.le_trans hbs hq) hc hfs hc1 hs1 d (fun q H1 hP1 hD1 hS1 => ?_)
  obtain ⟨h0, hbq, hp⟩ := hW.push (Y := alO X q (ci + 1)) hbs hS hS1 hP1 hD1
  have hKq : gK (alO X q (ci + 1)) q = ci + 1 := if_pos rfl
  have hfl : fl ci (alO X q (ci + 1)) q = (List.range (nF ci)).map fun k => if isR ci k then rv none else iv 0 := by
    unfold fl
    refine List.map_congr_left fun j _ => ?_
    have e1 : gP (alO X q (ci + 1)) (64 * ci + j) q = none := if_pos rfl
    have e2 : gI (alO X q (ci + 1)) (64 * ci + j) q = 0 := if_pos rfl
    rw [e1, e2]
  refine k q h0 hbq H1 locs ls (hp (by rw [cE_obj hKq hci, hfl]) (by omega) (fun r hr => ⟨cE_ext (if_neg hr) (fun _ => if_neg hr) (fun _ => if_neg hr) rfl (fun _ => rfl) (fun _ => rfl), if_neg hr⟩)) hS1 hl
theorem V_newI (C : Cx p l s m args meth c D kA b t0 nL own nm cc) {n : Nat} {z : Int} (hz : z = (n : Int)) (hn : n ≤ 100000) (harr : Cond.arrayClass (newarray.typeOf .int) ∈ TBL) (hc1 : cells + 1 ≤ R.cells) (hs1 : slots + n ≤ R.slots) (d : DI cc pc (.newarray .int) 2 pc')
    (k : ∀ q : Nat, gK X q = 0 → b ≤ q → V p l e R s m args below meth c D kA b nL (cells + 1) (slots + n) (Q) (alA X q 20 n) (pc') (lv) (rv (some q) :: st)) : V p l e R s m args below meth c D kA b nL (cells) (slots) (Q) X (pc) (lv) (iv z :: st) := by
  obtain ⟨hx, hb, hml, hown, hts, hlk, hK, hF, hst, hbs, hnm⟩ := C
  obtain ⟨d, rfl⟩ := d
  subst hz
  intro H locs ls hW hS hl
  obtain ⟨hP, hD⟩ := hW.PD
  have hcl : (zI (n : Int)).toNatClampNeg = n := zI_clamp (by omega)
  have hnn : ¬ zI (n : Int) < 0 := fun h => by
    have := (zI_lt (by omega) rng_0).mp h
    omega
  refine va_newa (D := D) (cl := vwCl) (atype := .int) (ty := .int) (N' := n) (a0 := (n, .inl (fun _ => 0))) hx hb (hts _ harr) rfl hK hP hD hS (fun q hq => Nat.le_trans hbs hq) (fun cA => by first | rfl | (unfold vp_cell; rfl)) hnn hcl (by show n * 4 ≤ 536870912; omega) hc1 hs1 d (fun q cA H1 hK1 hP1 hD1 hS1 => ?_)
  have hcA : cA = kA 0 := by
    have h1 := (hK1.2 4 (cA, .int) rfl).2
    have h2 := (hK.2 0 (kA 0, .int) rfl).2
    exact Option.some.inj (h1.symm.trans h2)
  subst hcA
  obtain ⟨h0, hbq, hp⟩ := hW.push (Y := alA X q 20 n) hbs hS hS1 hP1 hD1
  have hKq : gK (alA X q 20 n) q = 20 := if_pos rfl
  refine k q h0 hbq H1 locs ls (hp ?_ (by omega) (fun r hr => ⟨cE_ext (if_neg hr) (fun _ => rfl) (fun _ => rfl) (if_neg hr) (fun _ => if_neg hr) (fun _ => if_neg hr), if_neg hr⟩)) hS1 hl
  rw [cE_20 hKq]
  have e1 : gN (alA X q 20 n) q = n := if_pos rfl
  have e2 : ∀ i, gA (alA X q 20 n) q i = 0 := fun i => if_pos rfl
  rw [e1]
  simp only [e2]
  first | rfl | done
theorem V_newO (C : Cx p l s m args meth c D kA b t0 nL own nm cc) {n idx : Nat} {z : Int} (hz : z = (n : Int)) (hn : n ≤ 100000) (k1 : Cond.classLink own idx "java/lang/Object" ∈ TBL) (hc1 : cells + 1 ≤ R.cells) (hs1 : slots + n ≤ R.slots) (d : DI cc pc (.anewarray idx) 3 pc')
    (k : ∀ q : Nat, gK X q = 0 → b ≤ q → V p l e R s m args below meth c D kA b nL (cells + 1) (slots + n) (Q) (alA X q 23 n) (pc') (lv) (rv (some q) :: st)) : V p l e R s m args below meth c D kA b nL (cells) (slots) (Q) X (pc) (lv) (iv z :: st) := by
  obtain ⟨hx, hb, hml, hown, hts, hlk, hK, hF, hst, hbs, hnm⟩ := C
  obtain ⟨d, rfl⟩ := d
  subst hz
  intro H locs ls hW hS hl
  obtain ⟨hP, hD⟩ := hW.PD
  have hcl : (zI (n : Int)).toNatClampNeg = n := zI_clamp (by omega)
  have hnn : ¬ zI (n : Int) < 0 := fun h => by
    have := (zI_lt (by omega) rng_0).mp h
    omega
  refine va_newq (D := D) (cl := vwCl) (N' := n) hx hb hown (hts _ k1) hF.2.2.2.2.2.2.2.2 hK hP hD hS (fun q hq => Nat.le_trans hbs hq) hnn hcl (by omega) hc1 hs1 d (fun q cA H1 hK1 hP1 hD1 hS1 => ?_)
  have hcA : cA = kA 3 := by
    obtain ⟨_, _, _, _, _, h1⟩ := (hK1.2 4 (cA, .object "java/lang/Object") rfl).2
    obtain ⟨_, _, _, _, _, h2⟩ := (hK.2 3 (kA 3, .object "java/lang/Object") rfl).2
    exact Option.some.inj (h1.symm.trans h2)
  subst hcA
  obtain ⟨h0, hbq, hp⟩ := hW.push (Y := alA X q 23 n) hbs hS hS1 hP1 hD1
  have hKq : gK (alA X q 23 n) q = 23 := if_pos rfl
  refine k q h0 hbq H1 locs ls (hp ?_ (by omega) (fun r hr => ⟨cE_ext (if_neg hr) (fun _ => rfl) (fun _ => rfl) (if_neg hr) (fun _ => if_neg hr) (fun _ => if_neg hr), if_neg hr⟩)) hS1 hl
  rw [cE_23 (Or.inl hKq)]
  have e1 : gN (alA X q 23 n) q = n := if_pos rfl
  have e2 : gO (alA X q 23 n) q = fun _ => none := funext fun i => if_pos rfl
  rw [e1, e2]
end VH
