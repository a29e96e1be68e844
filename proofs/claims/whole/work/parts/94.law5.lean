/-! the law: its script, its masks, the reference's calls -/
theorem and31 (x : Int32) : 0 ≤ (x &&& 31).toInt ∧ (x &&& 31).toInt ≤ 31 := by
  have h : (x &&& 31).toBitVec.toNat ≤ 31 := by
    show (x.toBitVec &&& (31 : Int32).toBitVec).toNat ≤ 31
    rw [BitVec.toNat_and]
    exact Nat.le_trans Nat.and_le_right (by decide)
  have e : (x &&& 31).toInt = ((x &&& 31).toBitVec.toNat : Int) := by
    show (x &&& 31).toBitVec.toInt = _
    exact BitVec.toInt_eq_toNat_of_lt (by omega)
  omega
theorem iv_inj {a c : Int} (ha : rng a) (hc : rng c) (e : iv a = iv c) : a = c := by
  have h : zI a = zI c := by
    injection e
  exact (zI_eq ha hc).mp h
theorem lc0 (x : Int) : (if x < x then (1 : Int) else if x = x then 0 else -1) = 0 := by
  rw [if_neg (Int.lt_irrefl x), if_pos rfl]
section LAW5
variable {p : Program} {l : Launch} {e : Env} {R : Room} {s : State} {m : MethodId} {args : Array Value} {below : List Frame} {meth : Method} {c : Code}
variable {D : va_G} {kA : Nat → ClassId} {b t0 nL cells slots : Nat} {Q : State → Prop} {own nm : String} {cc : ByteArray} {X : Mm} {pc pc' tgt : Nat} {lv : List (Option Value)} {st : List Value}
theorem V_sld (C : Cx p l s m args meth c D kA b t0 nL own nm cc) {sb L j : Nat} {xs : Nat → Int32} {z x : Int} (hX : va_X sb L xs s s.heap) (hb1 : sb < s.heap.size) (hb2 : sb < b) (hj : j < L) (hL : L ≤ 3072) (hz : z = (j : Int)) (he : xs j = zI x) (d : DI cc pc (.iaload) 1 pc')
    (k : V p l e R s m args below meth c D kA b nL (cells) (slots) (Q) X (pc') (lv) (iv x :: st)) : V p l e R s m args below meth c D kA b nL (cells) (slots) (Q) X (pc) (lv) (iv z :: rv (some sb) :: st) := by
  obtain ⟨hx, hb, hml, hown, hts, hlk, hK, hF, hst, hbs, hnm⟩ := C
  obtain ⟨d, rfl⟩ := d
  subst hz
  intro H locs ls hW hS hl
  have k2 := k H locs ls hW hS hl
  refine va_sld hx hb hX hb1 (show ¬ b ≤ sb by omega) hS (zI_in (by omega) (show (j : Int) < (L : Int) by omega) (by omega)) d ?_
  rw [zI_clamp (by omega), he]
  exact k2
theorem V_slen (C : Cx p l s m args meth c D kA b t0 nL own nm cc) {sb L : Nat} {xs : Nat → Int32} (hX : va_X sb L xs s s.heap) (hb1 : sb < s.heap.size) (hb2 : sb < b) (d : DI cc pc (.arraylength) 1 pc')
    (k : V p l e R s m args below meth c D kA b nL (cells) (slots) (Q) X (pc') (lv) (iv (L : Int) :: st)) : V p l e R s m args below meth c D kA b nL (cells) (slots) (Q) X (pc) (lv) (rv (some sb) :: st) := by
  obtain ⟨hx, hb, hml, hown, hts, hlk, hK, hF, hst, hbs, hnm⟩ := C
  obtain ⟨d, rfl⟩ := d
  intro H locs ls hW hS hl
  have k2 := k H locs ls hW hS hl
  have e2 : Int32.ofNat L = zI (L : Int) := (Int32.ofInt_eq_ofNat).symm
  refine va_slen hx hb hX hb1 (show ¬ b ≤ sb by omega) hS d ?_
  rw [e2]
  exact k2
theorem V_iand (C : Cx p l s m args meth c D kA b t0 nL own nm cc) {x : Int} (d : DI cc pc (.iand) 1 pc')
    (k : ∀ z : Int, 0 ≤ z ∧ z ≤ 31 → V p l e R s m args below meth c D kA b nL (cells) (slots) (Q) X (pc') (lv) (iv z :: st)) : V p l e R s m args below meth c D kA b nL (cells) (slots) (Q) X (pc) (lv) (iv 31 :: iv x :: st) := by
  obtain ⟨hx, hb, hml, hown, hts, hlk, hK, hF, hst, hbs, hnm⟩ := C
  obtain ⟨d, rfl⟩ := d
  intro H locs ls hW hS hl
  have k2 := k (zI x &&& 31).toInt (and31 (zI x)) H locs ls hW hS hl
  refine lv_iand hx hb d ?_
  have e2 : iv (zI x &&& 31).toInt = Value.int (zI x &&& zI 31) := congrArg Value.int (Int32.ofInt_toInt _)
  rw [← e2]
  exact k2
end LAW5
/-- behind a call of the reference -/
theorem ref_aft {t0 ao mo : Nat} {ad : Nat → Nat} {L : Ly} {Y Y2 : Mm} {Z : Zs} {M M2 : Mo} (h : CX t0 ao mo ad L Y Z M) (hR : RR mo ad Y2 M2) (hq : ∀ a, ¬ inR mo ad a → eqc Y Y2 a) : CX t0 ao mo ad L Y2 Z M2 ∧ gA Y2 ao 0 = gA Y ao 0 := by
  refine ⟨h.ref hR (fun a _ g => hq a g), (hq ao (fun g => ?_)).2.2.2.2.1 0⟩
  have h1 := h.1.kind g
  have h2 := h.ao.1
  omega
