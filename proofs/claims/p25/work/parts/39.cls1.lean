/-! the class: small methods -/
section VTW
variable {p : Program} {l : Launch} {e : Env} {R : Room} {s : State} {m : MethodId} {args : Array Value} {below : List Frame} {meth : Method} {c : Code}
variable {D : va_G} {kA : Nat → ClassId} {b t0 nL cells slots : Nat} {Q : State → Prop} {own nm : String} {cc : ByteArray} {X : Mm} {pc pc' tgt : Nat} {lv : List (Option Value)} {st : List Value}
variable {y : MethodName} {cy : ByteArray} {n fr lc mc ms : Nat} {ret : Option FieldType} {post : Option Value → Mm → Prop} {px : String → Mm → Prop}
theorem V_throwW (C : Cx p l s m args meth c D kA b t0 nL own nm cc) {cls text : String} {ik is ic : Nat} (kt : KT own cls text ik is ic) (hout : ∀ x ∈ c.exceptionTable.toList, False)
    (d0 : decode cc pc = .ok (.new ik, 3)) (d3 : decode cc (pc + 3) = .ok (.dup, 1)) (d4 : decode cc (pc + 4) = .ok (.ldc_w is, 3)) (d7 : decode cc (pc + 7) = .ok (.invokespecial ic, 3)) (d10 : decode cc (pc + 10) = .ok (.athrow, 1))
    (hRf : 5 < R.frames) (hRl : (st.map fun v => v.category).sum + 82 ≤ R.locals) (hRc : cells + 1 ≤ R.cells) (hRs : slots + 6 ≤ R.slots) (hc1 : cells + 1 ≤ mc) (hs1 : slots + 6 ≤ ms) (hp : px cls X) : V p l e R s m args below meth c D kA b nL (cells) (slots) ((vx_MQ below (Qk D kA b post) (Xk D kA b px) args s mc ms (Ab b))) X (pc) (lv) (st) := by
  obtain ⟨hx, hb, hml, hown, hts, hlk, hK, hF, hst, hbs, hnm⟩ := C
  obtain ⟨k1, k2, k3, k4, k5, k6, k7⟩ := kt
  obtain ⟨⟨f1, f2, -⟩, -, -, f6, -, -, -, f10, -⟩ := hF
  obtain ⟨sa, hsa⟩ := f6 _ k5
  intro H locs ls hW hS hl
  exact vx_throwSW (names := ["java/lang/RuntimeException", "java/lang/Exception"]) (A := Ab b) hx hb hst hown k1 k2 (hts _ k3) (hts _ k4) hsa (fun w hw => (k6 w hw).elim (fun h => hts _ h) (fun h => va_Nw.use (NW_on w h) (f10 w h))) k7 f1 f2 hS (by rw [hl.1, hml]) d0 d3 d4 d7 d10 (fun x hx => (hout x hx).elim) hRf hRl hRc hRs hlk (fun t ha hz hq => ⟨⟨X, hp, hW.kept hq⟩, Nat.le_trans hS.1 hz, fun q h1 h2 => (hq q (Nat.lt_of_lt_of_le h1 hS.1)).trans (hS.2.1 q h1 h2)⟩) (fun q hq => hS.2.2 q hq) hc1 hs1
end VTW
theorem tX9_280 : KT RX9 "java/lang/IndexOutOfBoundsException" "no such firm" 278 280 282 := ⟨by decide +kernel, by decide +kernel, TBL_mk 233 (by decide +kernel) (by decide +kernel), TBL_mk 46 (by decide +kernel) (by decide +kernel), by decide +kernel, kt_mk (by decide +kernel), kt_ot (by decide +kernel)⟩
theorem tX9_287 : KT RX9 "java/lang/IndexOutOfBoundsException" "no such socket" 278 287 282 := ⟨by decide +kernel, by decide +kernel, TBL_mk 233 (by decide +kernel) (by decide +kernel), TBL_mk 46 (by decide +kernel) (by decide +kernel), by decide +kernel, kt_mk (by decide +kernel), kt_ot (by decide +kernel)⟩
theorem tX9_289 : KT RX9 "java/lang/IndexOutOfBoundsException" "no such car" 278 289 282 := ⟨by decide +kernel, by decide +kernel, TBL_mk 233 (by decide +kernel) (by decide +kernel), TBL_mk 46 (by decide +kernel) (by decide +kernel), by decide +kernel, kt_mk (by decide +kernel), kt_ot (by decide +kernel)⟩
theorem tX9_291 : KT RX9 "java/lang/IndexOutOfBoundsException" "no such card" 278 291 282 := ⟨by decide +kernel, by decide +kernel, TBL_mk 233 (by decide +kernel) (by decide +kernel), TBL_mk 46 (by decide +kernel) (by decide +kernel), by decide +kernel, kt_mk (by decide +kernel), kt_ot (by decide +kernel)⟩
theorem tX9_293 : KT RX9 "java/lang/IndexOutOfBoundsException" "no such session" 278 293 282 := ⟨by decide +kernel, by decide +kernel, TBL_mk 233 (by decide +kernel) (by decide +kernel), TBL_mk 46 (by decide +kernel) (by decide +kernel), by decide +kernel, kt_mk (by decide +kernel), kt_ot (by decide +kernel)⟩
theorem tX9_295 : KT RX9 "java/lang/IllegalArgumentException" "an argument is out of its range" 229 295 233 := ⟨by decide +kernel, by decide +kernel, TBL_mk 319 (by decide +kernel) (by decide +kernel), TBL_mk 43 (by decide +kernel) (by decide +kernel), by decide +kernel, kt_mk (by decide +kernel), kt_ot (by decide +kernel)⟩
theorem tX9_297 : KT RX9 "java/lang/IllegalStateException" "there are as many as there may be" 138 297 142 := ⟨by decide +kernel, by decide +kernel, TBL_mk 338 (by decide +kernel) (by decide +kernel), TBL_mk 44 (by decide +kernel) (by decide +kernel), by decide +kernel, kt_mk (by decide +kernel), kt_ot (by decide +kernel)⟩
section CLS1
variable {l : Launch} {D : va_G} {kA : Nat → ClassId} {b t0 : Nat} {X : Mm}
set_option maxRecDepth 20000 in
theorem c_X1_init (hl : l.stackTraces = false) {a : Nat} {n cp ho mo : Int} (hKa : gK X a = 3) : Ct l D kA b t0 yX1_init cX1_init 5 none 1 20 [rv (some a), iv n, iv cp, iv ho, iv mo] X 0 0 (pD none (sI (sI (sI (sI (sI X 132 a 0) 128 a n) 129 a cp) 131 a ho) 130 a mo)) (pF) := by
  refine Ct_mk hl (by decide) (Nat.le_of_ble_eq_true rfl) rfl ?_
  intro p9 e9 s9 m9 args9 below9 meth9 c9 C hr hx0
  refine V_aload_n C dX1_init_0 rfl ?_
  refine V_objInit C oi_RX1_3 oi2 oi3 (Nat.le_of_ble_eq_true rfl) (Nat.le_of_ble_eq_true rfl) dX1_init_1 ?_
  refine V_aload_n C dX1_init_4 rfl ?_
  refine V_iconst C dX1_init_5 ?_
  refine V_putZ C cl2 fX1_9 (Or.inl rfl) rfl (by first | decide | omega | (split <;> omega)) hKa dX1_init_6 ?_
  refine V_aload_n C dX1_init_9 rfl ?_
  refine V_iload_n C dX1_init_10 rfl ?_
  refine V_putI C cl2 fX1_15 (Or.inr ⟨rfl, rfl, rfl⟩) rfl hKa dX1_init_11 ?_
  refine V_aload_n C dX1_init_14 rfl ?_
  refine V_iload_n C dX1_init_15 rfl ?_
  refine V_putI C cl2 fX1_19 (Or.inr ⟨rfl, rfl, rfl⟩) rfl hKa dX1_init_16 ?_
  refine V_aload_n C dX1_init_19 rfl ?_
  refine V_iload_n C dX1_init_20 rfl ?_
  refine V_putI C cl2 fX1_22 (Or.inl rfl) rfl hKa dX1_init_21 ?_
  refine V_aload_n C dX1_init_24 rfl ?_
  refine V_iload C dX1_init_25 rfl ?_
  refine V_putI C cl2 fX1_25 (Or.inr ⟨rfl, rfl, rfl⟩) rfl hKa dX1_init_27 ?_
  exact V_vret C (by omega) (by omega) ⟨rfl, rfl⟩ hr dX1_init_30
set_option maxRecDepth 20000 in
theorem c_X2_init (hl : l.stackTraces = false) {a f : Nat} {rk : Int} (hKa : gK X a = 4) : Ct l D kA b t0 yX2_init cX2_init 3 none 1 20 [rv (some a), rv (some f), iv rk] X 0 0 (pD none (sI (sP (sI (sI (sI X 194 a 1) 195 a 0) 196 a 0) 192 a (some f)) 193 a rk)) (pF) := by
  refine Ct_mk hl (by decide) (Nat.le_of_ble_eq_true rfl) rfl ?_
  intro p9 e9 s9 m9 args9 below9 meth9 c9 C hr hx0
  refine V_aload_n C dX2_init_0 rfl ?_
  refine V_objInit C oi_RX2_1 oi2 oi3 (Nat.le_of_ble_eq_true rfl) (Nat.le_of_ble_eq_true rfl) dX2_init_1 ?_
  refine V_aload_n C dX2_init_4 rfl ?_
  refine V_iconst C dX2_init_5 ?_
  refine V_putZ C cl3 fX2_7 (Or.inl rfl) rfl (by first | decide | omega | (split <;> omega)) hKa dX2_init_6 ?_
  refine V_aload_n C dX2_init_9 rfl ?_
  refine V_iconst C dX2_init_10 ?_
  refine V_putZ C cl3 fX2_13 (Or.inl rfl) rfl (by first | decide | omega | (split <;> omega)) hKa dX2_init_11 ?_
  refine V_aload_n C dX2_init_14 rfl ?_
  refine V_iconst C dX2_init_15 ?_
  refine V_putI C cl3 fX2_16 (Or.inl rfl) rfl hKa dX2_init_16 ?_
  refine V_aload_n C dX2_init_19 rfl ?_
  refine V_aload_n C dX2_init_20 rfl ?_
  refine V_putP C cl3 fX2_20 (Or.inr ⟨rfl, rfl, rfl⟩) (Or.inl ⟨_, rfl⟩) hKa dX2_init_21 ?_
  refine V_aload_n C dX2_init_24 rfl ?_
  refine V_iload_n C dX2_init_25 rfl ?_
  refine V_putI C cl3 fX2_24 (Or.inr ⟨rfl, rfl, rfl⟩) rfl hKa dX2_init_26 ?_
  exact V_vret C (by omega) (by omega) ⟨rfl, rfl⟩ hr dX2_init_29
set_option maxRecDepth 20000 in
theorem c_X6_init (hl : l.stackTraces = false) {a : Nat} (hKa : gK X a = 8) : Ct l D kA b t0 yX6_init cX6_init 1 none 1 20 [rv (some a)] X 0 0 (pD none (sI (sI (sI (sI X 448 a 0) 449 a 0) 450 a 0) 451 a 0)) (pF) := by
  refine Ct_mk hl (by decide) (Nat.le_of_ble_eq_true rfl) rfl ?_
  intro p9 e9 s9 m9 args9 below9 meth9 c9 C hr hx0
  refine V_aload_n C dX6_init_0 rfl ?_
  refine V_objInit C oi_RX6_3 oi2 oi3 (Nat.le_of_ble_eq_true rfl) (Nat.le_of_ble_eq_true rfl) dX6_init_1 ?_
  refine V_aload_n C dX6_init_4 rfl ?_
  refine V_iconst C dX6_init_5 ?_
  refine V_putI C cl7 fX6_9 (Or.inl rfl) rfl hKa dX6_init_6 ?_
  refine V_aload_n C dX6_init_9 rfl ?_
  refine V_iconst C dX6_init_10 ?_
  refine V_putI C cl7 fX6_15 (Or.inl rfl) rfl hKa dX6_init_11 ?_
  refine V_aload_n C dX6_init_14 rfl ?_
  refine V_iconst C dX6_init_15 ?_
  refine V_putI C cl7 fX6_18 (Or.inl rfl) rfl hKa dX6_init_16 ?_
  refine V_aload_n C dX6_init_19 rfl ?_
  refine V_iconst C dX6_init_20 ?_
  refine V_putI C cl7 fX6_21 (Or.inl rfl) rfl hKa dX6_init_21 ?_
  exact V_vret C (by omega) (by omega) ⟨rfl, rfl⟩ hr dX6_init_24
set_option maxRecDepth 20000 in
theorem c_X7_init (hl : l.stackTraces = false) {a : Nat} {s d n i : Int} (hKa : gK X a = 9) : Ct l D kA b t0 yX7_init cX7_init 5 none 1 20 [rv (some a), iv s, iv d, iv n, iv i] X 0 0 (pD none (sI (sI (sI (sI X 512 a s) 513 a d) 514 a n) 515 a i)) (pF) := by
  refine Ct_mk hl (by decide) (Nat.le_of_ble_eq_true rfl) rfl ?_
  intro p9 e9 s9 m9 args9 below9 meth9 c9 C hr hx0
  refine V_aload_n C dX7_init_0 rfl ?_
  refine V_objInit C oi_RX7_1 oi2 oi3 (Nat.le_of_ble_eq_true rfl) (Nat.le_of_ble_eq_true rfl) dX7_init_1 ?_
  refine V_aload_n C dX7_init_4 rfl ?_
  refine V_iload_n C dX7_init_5 rfl ?_
  refine V_putI C cl8 fX7_7 (Or.inr ⟨rfl, rfl, rfl⟩) rfl hKa dX7_init_6 ?_
  refine V_aload_n C dX7_init_9 rfl ?_
  refine V_iload_n C dX7_init_10 rfl ?_
  refine V_putI C cl8 fX7_13 (Or.inr ⟨rfl, rfl, rfl⟩) rfl hKa dX7_init_11 ?_
  refine V_aload_n C dX7_init_14 rfl ?_
  refine V_iload_n C dX7_init_15 rfl ?_
  refine V_putI C cl8 fX7_16 (Or.inr ⟨rfl, rfl, rfl⟩) rfl hKa dX7_init_16 ?_
  refine V_aload_n C dX7_init_19 rfl ?_
  refine V_iload C dX7_init_20 rfl ?_
  refine V_putI C cl8 fX7_19 (Or.inr ⟨rfl, rfl, rfl⟩) rfl hKa dX7_init_22 ?_
  exact V_vret C (by omega) (by omega) ⟨rfl, rfl⟩ hr dX7_init_25
set_option maxRecDepth 20000 in
theorem c_X3_init (hl : l.stackTraces = false) {a : Nat} (hKa : gK X a = 5) : Ct l D kA b t0 yX3_init cX3_init 1 none 2 44 [rv (some a)] X 1 4 (fun v Y => v = none ∧ ∃ q, gK X q = 0 ∧ b ≤ q ∧ Y = sI (sP (sI (sI (sI (sI (alO X q 9) 512 q 0) 513 q 0) 514 q 0) 515 q 0) 256 a (some q)) 257 a 0) (pF) := by
  refine Ct_mk hl (by decide) (Nat.le_of_ble_eq_true rfl) rfl ?_
  intro p9 e9 s9 m9 args9 below9 meth9 c9 C hr hx0
  refine V_aload_n C dX3_init_0 rfl ?_
  refine V_objInit C oi_RX3_1 oi2 oi3 (Nat.le_of_ble_eq_true rfl) (Nat.le_of_ble_eq_true rfl) dX3_init_1 ?_
  refine V_aload_n C dX3_init_4 rfl ?_
  refine V_new C cl8 nX3_7 rfl (by first | exact Nat.le_of_ble_eq_true rfl | (dsimp only; omega)) (by first | exact Nat.le_of_ble_eq_true rfl | (dsimp only; omega)) dX3_init_5 (fun q hq hbq => ?_)
  have hqa : a ≠ q := ne_of_0 hq (by omega)
  have hKq : gK (alO X q 9) q = 9 := if_pos rfl
  have hKa2 : gK (alO X q 9) a = 5 := (if_neg hqa).trans hKa
  refine V_dup C dX3_init_8 rfl ?_
  refine V_iconst C dX3_init_9 ?_
  refine V_iconst C dX3_init_10 ?_
  refine V_iconst C dX3_init_11 ?_
  refine V_iconst C dX3_init_12 ?_
  refine V_callI0 C (As := [_, _, _, _]) (c_X7_init hl hKq) kX3_9 rfl rfl (Nat.le_of_ble_eq_true rfl) ⟨Nat.le_of_ble_eq_true rfl, Nat.le_of_ble_eq_true rfl⟩ ⟨(by first | exact Nat.le_of_ble_eq_true rfl | (dsimp only; omega)), (by first | exact Nat.le_of_ble_eq_true rfl | (dsimp only; omega))⟩ dX3_init_13 ?_
  refine V_putP C cl4 fX3_12 (Or.inl rfl) (Or.inl ⟨_, rfl⟩) hKa2 dX3_init_16 ?_
  refine V_aload_n C dX3_init_19 rfl ?_
  refine V_iconst C dX3_init_20 ?_
  refine V_putI C cl4 fX3_18 (Or.inl rfl) rfl hKa2 dX3_init_21 ?_
  exact V_vret C (by omega) (by omega) ⟨rfl, q, hq, hbq, rfl⟩ hr dX3_init_24
set_option maxRecDepth 20000 in
theorem c_X5_init (hl : l.stackTraces = false) {a f : Nat} {n mo : Int} (hKa : gK X a = 7) : Ct l D kA b t0 yX5_init cX5_init 4 none 4 80 [rv (some a), iv n, rv (some f), iv mo] X 1 3 (fun v Y => v = none ∧ ∃ q, gK X q = 0 ∧ b ≤ q ∧ Y = sI (sP (sI (sP (sP (sI (alO (sP (sI (sI (sI X 387 a 0) 388 a 1) 389 a 0) 390 a none) q 1) 0 q 0) 1 q (some t0)) 391 a (some q)) 384 a n) 385 a (some f)) 386 a mo) (pF) := by
  refine Ct_mk hl (by decide) (Nat.le_of_ble_eq_true rfl) rfl ?_
  intro p9 e9 s9 m9 args9 below9 meth9 c9 C hr hx0
  refine V_aload_n C dX5_init_0 rfl ?_
  refine V_objInit C oi_RX5_1 oi2 oi3 (Nat.le_of_ble_eq_true rfl) (Nat.le_of_ble_eq_true rfl) dX5_init_1 ?_
  refine V_aload_n C dX5_init_4 rfl ?_
  refine V_iconst C dX5_init_5 ?_
  refine V_putZ C cl6 fX5_7 (Or.inl rfl) rfl (by first | decide | omega | (split <;> omega)) hKa dX5_init_6 ?_
  refine V_aload_n C dX5_init_9 rfl ?_
  refine V_iconst C dX5_init_10 ?_
  refine V_putZ C cl6 fX5_13 (Or.inl rfl) rfl (by first | decide | omega | (split <;> omega)) hKa dX5_init_11 ?_
  refine V_aload_n C dX5_init_14 rfl ?_
  refine V_iconst C dX5_init_15 ?_
  refine V_putI C cl6 fX5_16 (Or.inl rfl) rfl hKa dX5_init_16 ?_
  refine V_aload_n C dX5_init_19 rfl ?_
  refine V_null C dX5_init_20 ?_
  refine V_putP C cl6 fX5_20 (Or.inl rfl) (Or.inl ⟨_, rfl⟩) hKa dX5_init_21 ?_
  refine V_aload_n C dX5_init_24 rfl ?_
  refine V_new C cl0 nX5_24 rfl (by first | exact Nat.le_of_ble_eq_true rfl | (dsimp only; omega)) (by first | exact Nat.le_of_ble_eq_true rfl | (dsimp only; omega)) dX5_init_25 (fun q hq hbq => ?_)
  have hqa : a ≠ q := ne_of_0 hq (by show gK X a ≠ 0; omega)
  have hKq : gK (alO (sP (sI (sI (sI X 387 a 0) 388 a 1) 389 a 0) 390 a none) q 1) q = 1 := if_pos rfl
  have hKa2 : gK (alO (sP (sI (sI (sI X 387 a 0) 388 a 1) 389 a 0) 390 a none) q 1) a = 7 := (if_neg hqa).trans hKa
  refine V_dup C dX5_init_28 rfl ?_
  refine V_callI0 C (As := []) (c_Jx4a65c_init_da8c8 hl hKq) kX5_26 rfl rfl (Nat.le_of_ble_eq_true rfl) ⟨Nat.le_of_ble_eq_true rfl, Nat.le_of_ble_eq_true rfl⟩ ⟨(by first | exact Nat.le_of_ble_eq_true rfl | (dsimp only; omega)), (by first | exact Nat.le_of_ble_eq_true rfl | (dsimp only; omega))⟩ dX5_init_29 ?_
  refine V_putP C cl6 fX5_27 (Or.inr ⟨rfl, rfl, rfl⟩) (Or.inl ⟨_, rfl⟩) hKa2 dX5_init_32 ?_
  refine V_aload_n C dX5_init_35 rfl ?_
  refine V_iload_n C dX5_init_36 rfl ?_
  refine V_putI C cl6 fX5_31 (Or.inr ⟨rfl, rfl, rfl⟩) rfl hKa2 dX5_init_37 ?_
  refine V_aload_n C dX5_init_40 rfl ?_
  refine V_aload_n C dX5_init_41 rfl ?_
  refine V_putP C cl6 fX5_34 (Or.inr ⟨rfl, rfl, rfl⟩) (Or.inl ⟨_, rfl⟩) hKa2 dX5_init_42 ?_
  refine V_aload_n C dX5_init_45 rfl ?_
  refine V_iload_n C dX5_init_46 rfl ?_
  refine V_putI C cl6 fX5_38 (Or.inr ⟨rfl, rfl, rfl⟩) rfl hKa2 dX5_init_47 ?_
  exact V_vret C (by omega) (by omega) ⟨rfl, q, hq, hbq, rfl⟩ hr dX5_init_50
set_option maxRecDepth 20000 in
theorem c_X9_needWithin (hl : l.stackTraces = false) {z lo hi : Int} (hz : rng z) (hlo : rng lo) (hhi : rng hi) : Ct l D kA b t0 yX9_needWithin cX9_needWithin 3 none 6 90 [iv z, iv lo, iv hi] X 1 6 (fun v Y => v = none ∧ Y = X ∧ (lo ≤ z ∧ z ≤ hi)) (fun E Y => E = "java/lang/IllegalArgumentException" ∧ Y = X ∧ ¬ (lo ≤ z ∧ z ≤ hi)) := by
  refine Ct_mk hl (by decide) (Nat.le_of_ble_eq_true rfl) rfl ?_
  intro p9 e9 s9 m9 args9 below9 meth9 c9 C hr hx0
  refine V_iload_n C dX9_needWithin_0 rfl ?_
  refine V_iload_n C dX9_needWithin_1 rfl ?_
  refine V_icmp_lt C dX9_needWithin_2 hz hlo (fun h2 => ?_) (fun h2 => ?_)
  · exact V_throwW C tX9_295 hx0 dX9_needWithin_10.1 dX9_needWithin_13.1 dX9_needWithin_14.1 dX9_needWithin_17.1 dX9_needWithin_20.1 (Nat.le_of_ble_eq_true rfl) (Nat.le_of_ble_eq_true rfl) (by first | exact Nat.le_of_ble_eq_true rfl | (dsimp only; omega)) (by first | exact Nat.le_of_ble_eq_true rfl | (dsimp only; omega)) (by omega) (by omega) ⟨rfl, rfl, by omega⟩
  · refine V_iload_n C dX9_needWithin_5 rfl ?_
    refine V_iload_n C dX9_needWithin_6 rfl ?_
    refine V_icmp_le C dX9_needWithin_7 hz hhi (fun h7 => ?_) (fun h7 => ?_)
    · exact V_vret C (by omega) (by omega) ⟨rfl, rfl, by omega⟩ hr dX9_needWithin_21
    · exact V_throwW C tX9_295 hx0 dX9_needWithin_10.1 dX9_needWithin_13.1 dX9_needWithin_14.1 dX9_needWithin_17.1 dX9_needWithin_20.1 (Nat.le_of_ble_eq_true rfl) (Nat.le_of_ble_eq_true rfl) (by first | exact Nat.le_of_ble_eq_true rfl | (dsimp only; omega)) (by first | exact Nat.le_of_ble_eq_true rfl | (dsimp only; omega)) (by omega) (by omega) ⟨rfl, rfl, by omega⟩
set_option maxRecDepth 20000 in
theorem c_X9_needRoom (hl : l.stackTraces = false) {z hi : Int} (hz : rng z) (hhi : rng hi) : Ct l D kA b t0 yX9_needRoom cX9_needRoom 2 none 6 90 [iv z, iv hi] X 1 6 (fun v Y => v = none ∧ Y = X ∧ z < hi) (fun E Y => E = "java/lang/IllegalStateException" ∧ Y = X ∧ ¬ z < hi) := by
  refine Ct_mk hl (by decide) (Nat.le_of_ble_eq_true rfl) rfl ?_
  intro p9 e9 s9 m9 args9 below9 meth9 c9 C hr hx0
  refine V_iload_n C dX9_needRoom_0 rfl ?_
  refine V_iload_n C dX9_needRoom_1 rfl ?_
  refine V_icmp_lt C dX9_needRoom_2 hz hhi (fun h2 => ?_) (fun h2 => ?_)
  · exact V_vret C (by omega) (by omega) ⟨rfl, rfl, by omega⟩ hr dX9_needRoom_16
  · exact V_throwW C tX9_297 hx0 dX9_needRoom_5.1 dX9_needRoom_8.1 dX9_needRoom_9.1 dX9_needRoom_12.1 dX9_needRoom_15.1 (Nat.le_of_ble_eq_true rfl) (Nat.le_of_ble_eq_true rfl) (by first | exact Nat.le_of_ble_eq_true rfl | (dsimp only; omega)) (by first | exact Nat.le_of_ble_eq_true rfl | (dsimp only; omega)) (by omega) (by omega) ⟨rfl, rfl, by omega⟩
set_option maxRecDepth 20000 in
theorem c_X9_partOf (hl : l.stackTraces = false) {x h : Int} (hx : rng x) (hh : rng h) (hp : -21000000000 ≤ x * h ∧ x * h ≤ 21000000000) : Ct l D kA b t0 yX9_partOf cX9_partOf 2 (some FieldType.int) 0 0 [iv x, iv h] X 0 0 (pD (some (iv ((x * h).tdiv 100))) X) (pF) := by
  refine Ct_mk hl (by decide) (Nat.le_of_ble_eq_true rfl) rfl ?_
  intro p9 e9 s9 m9 args9 below9 meth9 c9 C hr hx0
  refine V_iload_n C dX9_partOf_0 rfl ?_
  refine V_i2l C dX9_partOf_1 hx ?_
  refine V_iload_n C dX9_partOf_2 rfl ?_
  refine V_i2l C dX9_partOf_3 hh ?_
  refine V_lmul C dX9_partOf_4 ?_
  refine V_ldc2 C dX9_partOf_5 qX9_396 ?_
  refine V_ldiv C dX9_partOf_8 (by omega) (by decide) (by decide) ?_
  refine V_l2i C dX9_partOf_9 ?_
  exact V_iret C (by omega) (by omega) ⟨rfl, rfl⟩ hr dX9_partOf_10
end CLS1
