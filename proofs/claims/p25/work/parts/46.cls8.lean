/-! the class: going down, refusals, the list of the day -/
theorem LI.same {t0 : Nat} {X Y : Mm} {a : Nat} {xs : List Nat} {d c : Nat} (h : LI t0 X a xs d c) (h1 : gK Y = gK X) (h2 : gI Y 2 = gI X 2) (h3 : gP Y 1 = gP X 1) (h4 : gN Y = gN X) (h5 : gO Y = gO X) : LI t0 Y a xs d c := by
  unfold LI oK at h ⊢
  rw [h1, h2, h3, h4, h5]
  exact h
def lsM (X : Mm) (cs : List Nat) : Nat → Mm
  | 0 => X
  | n + 1 => sI (lsM X cs n) 195 (cs.getD n 0) (gI X 194 (cs.getD n 0))
theorem lsM_st (X : Mm) (cs : List Nat) (n : Nat) : gK (lsM X cs n) = gK X ∧ gP (lsM X cs n) = gP X ∧ gN (lsM X cs n) = gN X ∧ gO (lsM X cs n) = gO X ∧ gA (lsM X cs n) = gA X ∧ ∀ f, f ≠ 195 → gI (lsM X cs n) f = gI X f := by
  induction n with
  | zero => exact ⟨rfl, rfl, rfl, rfl, rfl, fun _ _ => rfl⟩
  | succ n ih => exact ⟨ih.1, ih.2.1, ih.2.2.1, ih.2.2.2.1, ih.2.2.2.2.1, fun f hf => (funext fun x => if_neg (fun z => hf z.1)).trans (ih.2.2.2.2.2 f hf)⟩
section VAN
variable {p : Program} {l : Launch} {e : Env} {R : Room} {s : State} {m : MethodId} {args : Array Value} {below : List Frame} {meth : Method} {c : Code}
variable {D : va_G} {kA : Nat → ClassId} {b t0 nL cells slots : Nat} {Q : State → Prop} {own nm : String} {cc : ByteArray} {X : Mm} {pc pc' tgt : Nat} {lv : List (Option Value)} {st : List Value}
theorem V_astore_nN (C : Cx p l s m args meth c D kA b t0 nL own nm cc) {i : Fin 4} (d : DI cc pc (.astore_n i) 1 pc') (hn : (i : Nat) < nL) (hk : okS lv (i : Nat) = true)
    (k : V p l e R s m args below meth c D kA b nL (cells) (slots) (Q) X (pc') ((lv.set (i : Nat) (some (rv none)))) (st)) : V p l e R s m args below meth c D kA b nL (cells) (slots) (Q) X (pc) (lv) (rv none :: st) := by
  obtain ⟨hx, hb, hml, hown, hts, hlk, hK, hF, hst, hbs, hnm⟩ := C
  obtain ⟨d, rfl⟩ := d
  intro H locs ls hW hS hl
  exact lv_astore_nN hx hb d rfl hl.has hn rfl (fun ls2 hl2 => k H locs ls2 hW hS (lvO_st hl2 hk))
end VAN
section CLS8
variable {l : Launch} {D : va_G} {kA : Nat → ClassId} {b t0 : Nat} {X : Mm}
set_option maxHeartbeats 2000000 in
set_option maxRecDepth 20000 in
theorem c_X9_goDown0 (hl : l.stackTraces = false) {y s : Nat} {n : Int} (hKy : gK X y = 11) (hKs : gK X s = 7) (hn : gI X 646 y = n) (hse : gP X 390 s = none) : Ct l D kA b t0 yX9_goDown cX9_goDown 3 none 0 0 [rv (some y), rv (some s)] X 0 0 (pD none (sI X 389 s n)) (pF) := by
  refine Ct_mk hl (by decide) (Nat.le_of_ble_eq_true rfl) rfl ?_
  intro p9 e9 s9 m9 args9 below9 meth9 c9 C hr hx0
  refine V_aload_n C dX9_goDown_0 rfl ?_
  refine V_aload_n C dX9_goDown_1 rfl ?_
  refine V_getIx C cl10 fX9_31 (x := n) hKy hn dX9_goDown_2 ?_
  refine V_putI C cl6 fX9_301 (Or.inl rfl) rfl hKs dX9_goDown_5 ?_
  refine V_aload_n C dX9_goDown_8 rfl ?_
  refine V_getP C cl6 fX9_190 (r := none) hKs hse dX9_goDown_9 ?_
  refine V_astore_nN C dX9_goDown_12 (by decide) rfl ?_
  refine V_aload_n C dX9_goDown_13 rfl ?_
  refine V_ifnull C dX9_goDown_14  (fun h14 => ?_) (fun h14 => ?_)
  · exact V_vret C (by omega) (by omega) ⟨rfl, rfl⟩ hr dX9_goDown_30
  · exact absurd rfl h14
set_option maxHeartbeats 2000000 in
set_option maxRecDepth 20000 in
theorem c_X9_goDown1 (hl : l.stackTraces = false) {y s : Nat} {n : Int} (hKy : gK X y = 11) (hKs : gK X s = 7) (hn : gI X 646 y = n) {a : Nat} {lt : Int} (hse : gP X 390 s = some a) (hKa : gK X a = 6) (hlt : gI X 326 a = lt) : Ct l D kA b t0 yX9_goDown cX9_goDown 3 none 0 0 [rv (some y), rv (some s)] X 0 0 (pD none (sI (sI (sI X 389 s n) 327 a lt) 328 a 0)) (pF) := by
  refine Ct_mk hl (by decide) (Nat.le_of_ble_eq_true rfl) rfl ?_
  intro p9 e9 s9 m9 args9 below9 meth9 c9 C hr hx0
  refine V_aload_n C dX9_goDown_0 rfl ?_
  refine V_aload_n C dX9_goDown_1 rfl ?_
  refine V_getIx C cl10 fX9_31 (x := n) hKy hn dX9_goDown_2 ?_
  refine V_putI C cl6 fX9_301 (Or.inl rfl) rfl hKs dX9_goDown_5 ?_
  refine V_aload_n C dX9_goDown_8 rfl ?_
  refine V_getP C cl6 fX9_190 (r := some a) hKs hse dX9_goDown_9 ?_
  refine V_astore_n C dX9_goDown_12 (by decide) rfl ?_
  refine V_aload_n C dX9_goDown_13 rfl ?_
  refine V_ifnull C dX9_goDown_14  (fun h14 => ?_) (fun h14 => ?_)
  · first | exact V_vret C (by omega) (by omega) ⟨rfl, rfl⟩ hr dX9_goDown_30 | (cases h14)
  · refine V_aload_n C dX9_goDown_17 rfl ?_
    refine V_aload_n C dX9_goDown_18 rfl ?_
    refine V_getIx C cl5 fX9_220 (x := lt) hKa hlt dX9_goDown_19 ?_
    refine V_putI C cl5 fX9_304 (Or.inl rfl) rfl hKa dX9_goDown_22 ?_
    refine V_aload_n C dX9_goDown_25 rfl ?_
    refine V_iconst C dX9_goDown_26 ?_
    refine V_putZ C cl5 fX9_307 (Or.inl rfl) rfl (by first | decide | omega | (split <;> omega)) hKa dX9_goDown_27 ?_
    first | exact V_vret C (by omega) (by omega) ⟨rfl, rfl⟩ hr dX9_goDown_30 | (cases h14)
set_option maxHeartbeats 2000000 in
set_option maxRecDepth 20000 in
theorem c_X9_refusalOf (hl : l.stackTraces = false) {y s k g bl d c : Nat} {bs : List Nat} {H : Nat → Nat} {F T : Nat → Int} {n fa gd up ls pl : Int} {se : Option Nat} (hKy : gK X y = 11) (hKs : gK X s = 7) (hKk : gK X k = 3) (hKg : gK X g = 4) (hbl : gP X 391 s = some bl) (h : LI t0 X bl bs d c) (hb : bkI X bs H F T) (hn : gI X 646 y = n) (hn9 : 0 ≤ n ∧ n ≤ 20000) (hse : gP X 390 s = se) (hfa : gI X 387 s = fa) (hgd : gI X 194 g = gd) (hup : gI X 388 s = up) (hls : gI X 195 g = ls) (hpl : gI X 132 k = pl) (b1 : fa = 0 ∨ fa = 1) (b2 : gd = 0 ∨ gd = 1) (b3 : up = 0 ∨ up = 1) (b4 : ls = 0 ∨ ls = 1) (b5 : pl = 0 ∨ pl = 1) : Ct l D kA b t0 yX9_refusalOf cX9_refusalOf 4 (some FieldType.int) 4 88 [rv (some y), rv (some s), rv (some k), rv (some g)] X 0 0 (fun v Y => Y = X ∧ ∃ z : Int, v = some (iv z) ∧ ((z = -1 ∧ fa = 1) ∨ (fa = 0 ∧ ((z = -2 ∧ se ≠ none) ∨ (se = none ∧ ((z = -3 ∧ (gd = 0 ∨ (up = 0 ∧ ls = 0))) ∨ (¬ (gd = 0 ∨ (up = 0 ∧ ls = 0)) ∧ ((z = -4 ∧ (∃ q ∈ bs, H q ≠ g ∧ F q ≤ n ∧ n < F q + 15)) ∨ (¬ (∃ q ∈ bs, H q ≠ g ∧ F q ≤ n ∧ n < F q + 15) ∧ ((z = -5 ∧ pl = 1) ∨ (z = 0 ∧ pl = 0))))))))))) (pF) := by
  refine Ct_mk hl (by decide) (Nat.le_of_ble_eq_true rfl) rfl ?_
  intro p9 e9 s9 m9 args9 below9 meth9 c9 C hr hx0
  refine V_aload_n C dX9_refusalOf_0 rfl ?_
  refine V_getIx C cl6 fX9_113 (x := fa) hKs hfa dX9_refusalOf_1 ?_
  refine V_if_eq C dX9_refusalOf_4 (by omega) (fun h4 => ?_) (fun h4 => ?_)
  · refine V_aload_n C dX9_refusalOf_9 rfl ?_
    refine V_getP C cl6 fX9_190 (r := se) hKs hse dX9_refusalOf_10 ?_
    refine V_ifnull C dX9_refusalOf_13  (fun h13 => ?_) (fun h13 => ?_)
    · refine V_aload_n C dX9_refusalOf_19 rfl ?_
      refine V_getIx C cl3 fX9_95 (x := gd) hKg hgd dX9_refusalOf_20 ?_
      refine V_if_eq C dX9_refusalOf_23 (by omega) (fun h23 => ?_) (fun h23 => ?_)
      · refine V_bipush C dX9_refusalOf_40 (by decide) ?_
        exact V_iret C (by omega) (by omega) ⟨rfl, _, rfl, by first | exact Or.inl ⟨rfl, by omega⟩ | exact Or.inr ⟨by omega, Or.inl ⟨rfl, by assumption⟩⟩ | exact Or.inr ⟨by omega, Or.inr ⟨by assumption, Or.inl ⟨rfl, by omega⟩⟩⟩ | exact Or.inr ⟨by clear hB1 hB0; omega, Or.inr ⟨by assumption, Or.inr ⟨by clear hB1 hB0; omega, Or.inl ⟨rfl, (hB1 h49)⟩⟩⟩⟩ | exact Or.inr ⟨by clear hB1 hB0; omega, Or.inr ⟨by assumption, Or.inr ⟨by clear hB1 hB0; omega, Or.inr ⟨(hB0 h49), Or.inl ⟨rfl, by clear hB1 hB0; omega⟩⟩⟩⟩⟩ | exact Or.inr ⟨by clear hB1 hB0; omega, Or.inr ⟨by assumption, Or.inr ⟨by clear hB1 hB0; omega, Or.inr ⟨(hB0 h49), Or.inr ⟨rfl, by clear hB1 hB0; omega⟩⟩⟩⟩⟩⟩ hr dX9_refusalOf_42
      · refine V_aload_n C dX9_refusalOf_26 rfl ?_
        refine V_getIx C cl6 fX9_116 (x := up) hKs hup dX9_refusalOf_27 ?_
        refine V_if_ne C dX9_refusalOf_30 (by omega) (fun h30 => ?_) (fun h30 => ?_)
        · refine V_aload_n C dX9_refusalOf_43 rfl ?_
          refine V_aload_n C dX9_refusalOf_44 rfl ?_
          refine V_aload_n C dX9_refusalOf_45 rfl ?_
          refine V_callV C (As := [_, _]) (c_X9_isBookedByAnother hl hKs hbl h hb hKy hn hn9) kX9_336 hKy rfl rfl (Nat.le_of_ble_eq_true rfl) ⟨Nat.le_of_ble_eq_true rfl, Nat.le_of_ble_eq_true rfl⟩ ⟨(by first | exact Nat.le_of_ble_eq_true rfl | (dsimp only; omega)), (by first | exact Nat.le_of_ble_eq_true rfl | (dsimp only; omega))⟩ dX9_refusalOf_46 (fun _ _ h => h.elim) (fun v9 Y hp => ?_)
          obtain ⟨rfl, zb, rfl, hzb⟩ := hp
          have hz1 : rng zb := by rcases hzb with h | h <;> (rw [h.1]; decide)
          have hB1 : zb ≠ 0 → (∃ q ∈ bs, H q ≠ g ∧ F q ≤ n ∧ n < F q + 15) := fun e => hzb.elim (fun h => h.2) (fun h => absurd h.1 e)
          have hB0 : zb = 0 → ¬ (∃ q ∈ bs, H q ≠ g ∧ F q ≤ n ∧ n < F q + 15) := fun e => hzb.elim (fun h => absurd (h.1.symm.trans e) (by decide)) (fun h => h.2)
          clear hzb
          refine V_if_eq C dX9_refusalOf_49 hz1 (fun h49 => ?_) (fun h49 => ?_)
          · refine V_aload_n C dX9_refusalOf_55 rfl ?_
            refine V_getIx C cl2 fX9_183 (x := pl) hKk hpl dX9_refusalOf_56 ?_
            refine V_if_eq C dX9_refusalOf_59 (by clear hB1 hB0; omega) (fun h59 => ?_) (fun h59 => ?_)
            · refine V_iconst C dX9_refusalOf_67 ?_
              exact V_iret C (by omega) (by omega) ⟨rfl, _, rfl, by first | exact Or.inl ⟨rfl, by omega⟩ | exact Or.inr ⟨by omega, Or.inl ⟨rfl, by assumption⟩⟩ | exact Or.inr ⟨by omega, Or.inr ⟨by assumption, Or.inl ⟨rfl, by omega⟩⟩⟩ | exact Or.inr ⟨by clear hB1 hB0; omega, Or.inr ⟨by assumption, Or.inr ⟨by clear hB1 hB0; omega, Or.inl ⟨rfl, (hB1 h49)⟩⟩⟩⟩ | exact Or.inr ⟨by clear hB1 hB0; omega, Or.inr ⟨by assumption, Or.inr ⟨by clear hB1 hB0; omega, Or.inr ⟨(hB0 h49), Or.inl ⟨rfl, by clear hB1 hB0; omega⟩⟩⟩⟩⟩ | exact Or.inr ⟨by clear hB1 hB0; omega, Or.inr ⟨by assumption, Or.inr ⟨by clear hB1 hB0; omega, Or.inr ⟨(hB0 h49), Or.inr ⟨rfl, by clear hB1 hB0; omega⟩⟩⟩⟩⟩⟩ hr dX9_refusalOf_68
            · refine V_bipush C dX9_refusalOf_62 (by decide) ?_
              refine V_goto C dX9_refusalOf_64 ?_
              exact V_iret C (by omega) (by omega) ⟨rfl, _, rfl, by first | exact Or.inl ⟨rfl, by omega⟩ | exact Or.inr ⟨by omega, Or.inl ⟨rfl, by assumption⟩⟩ | exact Or.inr ⟨by omega, Or.inr ⟨by assumption, Or.inl ⟨rfl, by omega⟩⟩⟩ | exact Or.inr ⟨by clear hB1 hB0; omega, Or.inr ⟨by assumption, Or.inr ⟨by clear hB1 hB0; omega, Or.inl ⟨rfl, (hB1 h49)⟩⟩⟩⟩ | exact Or.inr ⟨by clear hB1 hB0; omega, Or.inr ⟨by assumption, Or.inr ⟨by clear hB1 hB0; omega, Or.inr ⟨(hB0 h49), Or.inl ⟨rfl, by clear hB1 hB0; omega⟩⟩⟩⟩⟩ | exact Or.inr ⟨by clear hB1 hB0; omega, Or.inr ⟨by assumption, Or.inr ⟨by clear hB1 hB0; omega, Or.inr ⟨(hB0 h49), Or.inr ⟨rfl, by clear hB1 hB0; omega⟩⟩⟩⟩⟩⟩ hr dX9_refusalOf_68
          · refine V_bipush C dX9_refusalOf_52 (by decide) ?_
            exact V_iret C (by omega) (by omega) ⟨rfl, _, rfl, by first | exact Or.inl ⟨rfl, by omega⟩ | exact Or.inr ⟨by omega, Or.inl ⟨rfl, by assumption⟩⟩ | exact Or.inr ⟨by omega, Or.inr ⟨by assumption, Or.inl ⟨rfl, by omega⟩⟩⟩ | exact Or.inr ⟨by clear hB1 hB0; omega, Or.inr ⟨by assumption, Or.inr ⟨by clear hB1 hB0; omega, Or.inl ⟨rfl, (hB1 h49)⟩⟩⟩⟩ | exact Or.inr ⟨by clear hB1 hB0; omega, Or.inr ⟨by assumption, Or.inr ⟨by clear hB1 hB0; omega, Or.inr ⟨(hB0 h49), Or.inl ⟨rfl, by clear hB1 hB0; omega⟩⟩⟩⟩⟩ | exact Or.inr ⟨by clear hB1 hB0; omega, Or.inr ⟨by assumption, Or.inr ⟨by clear hB1 hB0; omega, Or.inr ⟨(hB0 h49), Or.inr ⟨rfl, by clear hB1 hB0; omega⟩⟩⟩⟩⟩⟩ hr dX9_refusalOf_54
        · refine V_aload_n C dX9_refusalOf_33 rfl ?_
          refine V_getIx C cl3 fX9_333 (x := ls) hKg hls dX9_refusalOf_34 ?_
          refine V_if_ne C dX9_refusalOf_37 (by omega) (fun h37 => ?_) (fun h37 => ?_)
          · refine V_aload_n C dX9_refusalOf_43 rfl ?_
            refine V_aload_n C dX9_refusalOf_44 rfl ?_
            refine V_aload_n C dX9_refusalOf_45 rfl ?_
            refine V_callV C (As := [_, _]) (c_X9_isBookedByAnother hl hKs hbl h hb hKy hn hn9) kX9_336 hKy rfl rfl (Nat.le_of_ble_eq_true rfl) ⟨Nat.le_of_ble_eq_true rfl, Nat.le_of_ble_eq_true rfl⟩ ⟨(by first | exact Nat.le_of_ble_eq_true rfl | (dsimp only; omega)), (by first | exact Nat.le_of_ble_eq_true rfl | (dsimp only; omega))⟩ dX9_refusalOf_46 (fun _ _ h => h.elim) (fun v9 Y hp => ?_)
            obtain ⟨rfl, zb, rfl, hzb⟩ := hp
            have hz1 : rng zb := by rcases hzb with h | h <;> (rw [h.1]; decide)
            have hB1 : zb ≠ 0 → (∃ q ∈ bs, H q ≠ g ∧ F q ≤ n ∧ n < F q + 15) := fun e => hzb.elim (fun h => h.2) (fun h => absurd h.1 e)
            have hB0 : zb = 0 → ¬ (∃ q ∈ bs, H q ≠ g ∧ F q ≤ n ∧ n < F q + 15) := fun e => hzb.elim (fun h => absurd (h.1.symm.trans e) (by decide)) (fun h => h.2)
            clear hzb
            refine V_if_eq C dX9_refusalOf_49 hz1 (fun h49 => ?_) (fun h49 => ?_)
            · refine V_aload_n C dX9_refusalOf_55 rfl ?_
              refine V_getIx C cl2 fX9_183 (x := pl) hKk hpl dX9_refusalOf_56 ?_
              refine V_if_eq C dX9_refusalOf_59 (by clear hB1 hB0; omega) (fun h59 => ?_) (fun h59 => ?_)
              · refine V_iconst C dX9_refusalOf_67 ?_
                exact V_iret C (by omega) (by omega) ⟨rfl, _, rfl, by first | exact Or.inl ⟨rfl, by omega⟩ | exact Or.inr ⟨by omega, Or.inl ⟨rfl, by assumption⟩⟩ | exact Or.inr ⟨by omega, Or.inr ⟨by assumption, Or.inl ⟨rfl, by omega⟩⟩⟩ | exact Or.inr ⟨by clear hB1 hB0; omega, Or.inr ⟨by assumption, Or.inr ⟨by clear hB1 hB0; omega, Or.inl ⟨rfl, (hB1 h49)⟩⟩⟩⟩ | exact Or.inr ⟨by clear hB1 hB0; omega, Or.inr ⟨by assumption, Or.inr ⟨by clear hB1 hB0; omega, Or.inr ⟨(hB0 h49), Or.inl ⟨rfl, by clear hB1 hB0; omega⟩⟩⟩⟩⟩ | exact Or.inr ⟨by clear hB1 hB0; omega, Or.inr ⟨by assumption, Or.inr ⟨by clear hB1 hB0; omega, Or.inr ⟨(hB0 h49), Or.inr ⟨rfl, by clear hB1 hB0; omega⟩⟩⟩⟩⟩⟩ hr dX9_refusalOf_68
              · refine V_bipush C dX9_refusalOf_62 (by decide) ?_
                refine V_goto C dX9_refusalOf_64 ?_
                exact V_iret C (by omega) (by omega) ⟨rfl, _, rfl, by first | exact Or.inl ⟨rfl, by omega⟩ | exact Or.inr ⟨by omega, Or.inl ⟨rfl, by assumption⟩⟩ | exact Or.inr ⟨by omega, Or.inr ⟨by assumption, Or.inl ⟨rfl, by omega⟩⟩⟩ | exact Or.inr ⟨by clear hB1 hB0; omega, Or.inr ⟨by assumption, Or.inr ⟨by clear hB1 hB0; omega, Or.inl ⟨rfl, (hB1 h49)⟩⟩⟩⟩ | exact Or.inr ⟨by clear hB1 hB0; omega, Or.inr ⟨by assumption, Or.inr ⟨by clear hB1 hB0; omega, Or.inr ⟨(hB0 h49), Or.inl ⟨rfl, by clear hB1 hB0; omega⟩⟩⟩⟩⟩ | exact Or.inr ⟨by clear hB1 hB0; omega, Or.inr ⟨by assumption, Or.inr ⟨by clear hB1 hB0; omega, Or.inr ⟨(hB0 h49), Or.inr ⟨rfl, by clear hB1 hB0; omega⟩⟩⟩⟩⟩⟩ hr dX9_refusalOf_68
            · refine V_bipush C dX9_refusalOf_52 (by decide) ?_
              exact V_iret C (by omega) (by omega) ⟨rfl, _, rfl, by first | exact Or.inl ⟨rfl, by omega⟩ | exact Or.inr ⟨by omega, Or.inl ⟨rfl, by assumption⟩⟩ | exact Or.inr ⟨by omega, Or.inr ⟨by assumption, Or.inl ⟨rfl, by omega⟩⟩⟩ | exact Or.inr ⟨by clear hB1 hB0; omega, Or.inr ⟨by assumption, Or.inr ⟨by clear hB1 hB0; omega, Or.inl ⟨rfl, (hB1 h49)⟩⟩⟩⟩ | exact Or.inr ⟨by clear hB1 hB0; omega, Or.inr ⟨by assumption, Or.inr ⟨by clear hB1 hB0; omega, Or.inr ⟨(hB0 h49), Or.inl ⟨rfl, by clear hB1 hB0; omega⟩⟩⟩⟩⟩ | exact Or.inr ⟨by clear hB1 hB0; omega, Or.inr ⟨by assumption, Or.inr ⟨by clear hB1 hB0; omega, Or.inr ⟨(hB0 h49), Or.inr ⟨rfl, by clear hB1 hB0; omega⟩⟩⟩⟩⟩⟩ hr dX9_refusalOf_54
          · refine V_bipush C dX9_refusalOf_40 (by decide) ?_
            exact V_iret C (by omega) (by omega) ⟨rfl, _, rfl, by first | exact Or.inl ⟨rfl, by omega⟩ | exact Or.inr ⟨by omega, Or.inl ⟨rfl, by assumption⟩⟩ | exact Or.inr ⟨by omega, Or.inr ⟨by assumption, Or.inl ⟨rfl, by omega⟩⟩⟩ | exact Or.inr ⟨by clear hB1 hB0; omega, Or.inr ⟨by assumption, Or.inr ⟨by clear hB1 hB0; omega, Or.inl ⟨rfl, (hB1 h49)⟩⟩⟩⟩ | exact Or.inr ⟨by clear hB1 hB0; omega, Or.inr ⟨by assumption, Or.inr ⟨by clear hB1 hB0; omega, Or.inr ⟨(hB0 h49), Or.inl ⟨rfl, by clear hB1 hB0; omega⟩⟩⟩⟩⟩ | exact Or.inr ⟨by clear hB1 hB0; omega, Or.inr ⟨by assumption, Or.inr ⟨by clear hB1 hB0; omega, Or.inr ⟨(hB0 h49), Or.inr ⟨rfl, by clear hB1 hB0; omega⟩⟩⟩⟩⟩⟩ hr dX9_refusalOf_42
    · refine V_bipush C dX9_refusalOf_16 (by decide) ?_
      exact V_iret C (by omega) (by omega) ⟨rfl, _, rfl, by first | exact Or.inl ⟨rfl, by omega⟩ | exact Or.inr ⟨by omega, Or.inl ⟨rfl, by assumption⟩⟩ | exact Or.inr ⟨by omega, Or.inr ⟨by assumption, Or.inl ⟨rfl, by omega⟩⟩⟩ | exact Or.inr ⟨by clear hB1 hB0; omega, Or.inr ⟨by assumption, Or.inr ⟨by clear hB1 hB0; omega, Or.inl ⟨rfl, (hB1 h49)⟩⟩⟩⟩ | exact Or.inr ⟨by clear hB1 hB0; omega, Or.inr ⟨by assumption, Or.inr ⟨by clear hB1 hB0; omega, Or.inr ⟨(hB0 h49), Or.inl ⟨rfl, by clear hB1 hB0; omega⟩⟩⟩⟩⟩ | exact Or.inr ⟨by clear hB1 hB0; omega, Or.inr ⟨by assumption, Or.inr ⟨by clear hB1 hB0; omega, Or.inr ⟨(hB0 h49), Or.inr ⟨rfl, by clear hB1 hB0; omega⟩⟩⟩⟩⟩⟩ hr dX9_refusalOf_18
  · refine V_iconst C dX9_refusalOf_7 ?_
    exact V_iret C (by omega) (by omega) ⟨rfl, _, rfl, by first | exact Or.inl ⟨rfl, by omega⟩ | exact Or.inr ⟨by omega, Or.inl ⟨rfl, by assumption⟩⟩ | exact Or.inr ⟨by omega, Or.inr ⟨by assumption, Or.inl ⟨rfl, by omega⟩⟩⟩ | exact Or.inr ⟨by clear hB1 hB0; omega, Or.inr ⟨by assumption, Or.inr ⟨by clear hB1 hB0; omega, Or.inl ⟨rfl, (hB1 h49)⟩⟩⟩⟩ | exact Or.inr ⟨by clear hB1 hB0; omega, Or.inr ⟨by assumption, Or.inr ⟨by clear hB1 hB0; omega, Or.inr ⟨(hB0 h49), Or.inl ⟨rfl, by clear hB1 hB0; omega⟩⟩⟩⟩⟩ | exact Or.inr ⟨by clear hB1 hB0; omega, Or.inr ⟨by assumption, Or.inr ⟨by clear hB1 hB0; omega, Or.inr ⟨(hB0 h49), Or.inr ⟨rfl, by clear hB1 hB0; omega⟩⟩⟩⟩⟩⟩ hr dX9_refusalOf_8
set_option maxHeartbeats 2000000 in
set_option maxRecDepth 20000 in
theorem c_X9_listCards (hl : l.stackTraces = false) {y a d c : Nat} {cs : List Nat} (hKy : gK X y = 11) (ha : gP X 643 y = some a) (h : LI t0 X a cs d c) (hcs : ∀ q ∈ cs, gK X q = 4) (hg : ∀ q ∈ cs, gI X 194 q = 0 ∨ gI X 194 q = 1) : Ct l D kA b t0 yX9_listCards cX9_listCards 3 none 3 64 [rv (some y)] X 0 0 (pD none (lsM X cs cs.length)) (pF) := by
  refine Ct_mk hl (by decide) (Nat.le_of_ble_eq_true rfl) rfl ?_
  intro p9 e9 s9 m9 args9 below9 meth9 c9 C hr hx0
  refine V_iconst C dX9_listCards_0 ?_
  refine V_istore_n C dX9_listCards_1 (by decide) rfl ?_
  refine V_while C (St := Nat × Option Value) (f := fun x => lsM X cs x.1) (g := fun x => [some (rv (some y)), some (iv (x.1 : Int)), x.2]) (cs := fun _ => 0) (ss := fun _ => 0) (μ := fun x => cs.length + 1 - x.1) (I := fun x => x.1 ≤ cs.length) (x0 := (0, none)) rfl rfl rfl rfl (Nat.zero_le _) ?_
  rintro ⟨i, u3⟩ hi ih
  dsimp only at hi ih ⊢
  have hle : cs.length ≤ 1000 := Nat.le_trans h.2.2.2.2.2.1 h.2.2.2.2.2.2.1
  have hm := lsM_st X cs i
  refine V_iload_n C dX9_listCards_2 rfl ?_
  refine V_aload_n C dX9_listCards_3 rfl ?_
  refine V_getP C cl10 fX9_22 (r := some a) ((congrFun hm.1 y).trans hKy) ((congrFun (congrFun hm.2.1 643) y).trans ha) dX9_listCards_4 ?_
  refine V_callV1 C (As := []) (L_size hl (h.same hm.1 (hm.2.2.2.2.2 2 (by decide)) (congrFun hm.2.1 1) hm.2.2.1 hm.2.2.2.1)) kX9_63 ((congrFun hm.1 a).trans h.1) rfl rfl (Nat.le_of_ble_eq_true rfl) ⟨Nat.le_of_ble_eq_true rfl, Nat.le_of_ble_eq_true rfl⟩ ⟨Nat.le_of_ble_eq_true rfl, Nat.le_of_ble_eq_true rfl⟩ dX9_listCards_7 ?_
  refine V_icmp_ge C dX9_listCards_10 (by omega) (by omega) (fun h10 => ?_) (fun h10 => ?_)
  · exact V_vret C (by omega) (by omega) ⟨rfl, by rw [show i = cs.length by omega]⟩ hr dX9_listCards_39
  · obtain ⟨q, hq⟩ : ∃ q, cs[i]? = some q := ⟨cs[i]'(by omega), List.getElem?_eq_getElem (by omega)⟩
    have hgd := hg q (List.mem_of_getElem? hq)
    have eq : cs.getD i 0 = q := by rw [List.getD_eq_getElem?_getD, hq]; rfl
    refine V_aload_n C dX9_listCards_13 rfl ?_
    refine V_getP C cl10 fX9_22 (r := some a) ((congrFun hm.1 y).trans hKy) ((congrFun (congrFun hm.2.1 643) y).trans ha) dX9_listCards_14 ?_
    refine V_iload_n C dX9_listCards_17 rfl ?_
    refine V_callV1 C (As := [_]) (L_get hl (h.same hm.1 (hm.2.2.2.2.2 2 (by decide)) (congrFun hm.2.1 1) hm.2.2.1 hm.2.2.2.1) hq rfl) kX9_283 ((congrFun hm.1 a).trans h.1) rfl rfl (Nat.le_of_ble_eq_true rfl) ⟨Nat.le_of_ble_eq_true rfl, Nat.le_of_ble_eq_true rfl⟩ ⟨Nat.le_of_ble_eq_true rfl, Nat.le_of_ble_eq_true rfl⟩ dX9_listCards_18 ?_
    refine V_cast C cl3 cc_RX9_86 ((congrFun hm.1 q).trans (hcs q (List.mem_of_getElem? hq))) dX9_listCards_21 ?_
    refine V_astore_n C dX9_listCards_24 (by decide) rfl ?_
    refine V_aload_n C dX9_listCards_25 rfl ?_
    refine V_aload_n C dX9_listCards_26 rfl ?_
    refine V_getIx C cl3 fX9_95 (x := gI X 194 q) ((congrFun hm.1 q).trans (hcs q (List.mem_of_getElem? hq))) (congrFun (hm.2.2.2.2.2 194 (by decide)) q) dX9_listCards_27 ?_
    refine V_putZ C cl3 fX9_333 (Or.inl rfl) rfl (by first | decide | omega | (split <;> omega)) ((congrFun hm.1 q).trans (hcs q (List.mem_of_getElem? hq))) dX9_listCards_30 ?_
    refine V_iinc C dX9_listCards_33 (by decide) rfl rfl ?_
    refine V_goto C dX9_listCards_36 ?_
    have h8 := ih (i + 1, some (rv (some q))) (by show i + 1 ≤ cs.length; omega) (by show cs.length + 1 - (i + 1) < cs.length + 1 - i; omega)
    have e8 : lsM X cs (i + 1) = sI (lsM X cs i) 195 q (gI X 194 q) := by show sI (lsM X cs i) 195 (cs.getD i 0) (gI X 194 (cs.getD i 0)) = _; rw [eq]
    rw [e8] at h8
    exact h8
end CLS8
