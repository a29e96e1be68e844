/-! the law: its turns -/
section LACT7
variable {p : Program} {l : Launch} {e : Env} {s : State} {m : MethodId} {args : Array Value} {below : List Frame} {meth : Method} {c : Code}
variable {D : va_G} {kA : Nat → ClassId} {b t0 sb y : Nat} {ad : Nat → Nat} {Q : State → Prop} {nm : String} {X : Mm} {Mr M : Mo} {n Ls : Nat} {xs : Nat → Int32} {now ed : Int} {u11 u12 u13 u14 u15 u16 u17 u18 u19 : Option Value} {c1 s1 cB sB : Nat}

set_option maxHeartbeats 2000000 in
set_option maxRecDepth 20000 in
theorem l_turns (C : Cx p l s m args meth c D kA b t0 20 RL nm cL_law) (hl : l.stackTraces = false) (hX : va_X sb Ls xs s s.heap) (hb1 : sb < s.heap.size) (hb2 : sb < b) (hL : Ls ≤ 260) (hT : TS t0 ad y X Mr M n now ed (20 * ((0 : Nat) : Int))) (hc : c1 + budC M ≤ 1000) (hs : s1 + budS M ≤ 2430000) (hret : ∀ (Y : Mm) (c2 s2 : Nat) (lv : List (Option Value)), c2 ≤ 600086 → s2 ≤ 7301442 → V p l e room_1 s m args below meth c D kA b 20 (c2) (s2) (Q) Y (1178) (lv) ([iv 1])) : V p l e room_1 s m args below meth c D kA b 20 (c1) (s1) (Q) X (223) ([some (rv (some sb)), some (rv (some y)), some (rv (some (ad 0))), some (rv (some (ad 1))), some (rv (some (ad 2))), some (rv (some (ad 3))), some (rv (some (ad 4))), some (iv (n : Int)), some (iv now), some (iv ed), some (iv ((0 : Nat) : Int)), u11, u12, u13, u14, u15, u16, u17, u18, u19]) ([]) := by
  refine V_while C (St := Nat × Mm × Mo × Mo × Nat × Int × Int × Nat × Nat × Option Value × Option Value × Option Value × Option Value × Option Value × Option Value × Option Value × Option Value × Option Value) (f := fun z => z.2.1) (g := fun z => [some (rv (some sb)), some (rv (some y)), some (rv (some (ad 0))), some (rv (some (ad 1))), some (rv (some (ad 2))), some (rv (some (ad 3))), some (rv (some (ad 4))), some (iv (z.2.2.2.2.1 : Int)), some (iv z.2.2.2.2.2.1), some (iv z.2.2.2.2.2.2.1), some (iv (z.1 : Int)), z.2.2.2.2.2.2.2.2.2.1, z.2.2.2.2.2.2.2.2.2.2.1, z.2.2.2.2.2.2.2.2.2.2.2.1, z.2.2.2.2.2.2.2.2.2.2.2.2.1, z.2.2.2.2.2.2.2.2.2.2.2.2.2.1, z.2.2.2.2.2.2.2.2.2.2.2.2.2.2.1, z.2.2.2.2.2.2.2.2.2.2.2.2.2.2.2.1, z.2.2.2.2.2.2.2.2.2.2.2.2.2.2.2.2.1, z.2.2.2.2.2.2.2.2.2.2.2.2.2.2.2.2.2]) (cs := fun z => z.2.2.2.2.2.2.2.1) (ss := fun z => z.2.2.2.2.2.2.2.2.1) (μ := fun z => 61 - z.1) (I := fun z => z.1 ≤ 60 ∧ TS t0 ad y (z.2.1) (z.2.2.2.1) (z.2.2.1) (z.2.2.2.2.1) (z.2.2.2.2.2.1) (z.2.2.2.2.2.2.1) (20 * (z.1 : Int)) ∧ z.2.2.2.2.2.2.2.1 + budC (z.2.2.1) ≤ 1000 + 1400 * z.1 ∧ z.2.2.2.2.2.2.2.2.1 + budS (z.2.2.1) ≤ 2430000 + 13000 * z.1) (x0 := (0, X, M, Mr, n, now, ed, c1, s1, u11, u12, u13, u14, u15, u16, u17, u18, u19)) rfl rfl rfl rfl ⟨Nat.zero_le _, hT, by show c1 + budC M ≤ 1000 + 1400 * 0; omega, by show s1 + budS M ≤ 2430000 + 13000 * 0; omega⟩ ?_
  rintro ⟨turn, Xj, Mj, Mrj, nj, nowj, edj, cj, sj, w11, w12, w13, w14, w15, w16, w17, w18, w19⟩ ⟨ht60, hTj, hcj, hsj⟩ ih
  dsimp only at ht60 hTj hcj hsj ih ⊢
  have hSj := hTj.1
  refine V_iload C dL_law_223 rfl ?_
  refine V_bipush C dL_law_225 (by decide) ?_
  refine V_icmp_ge C dL_law_227 (by omega) (by omega) (fun h227 => ?_) (fun h227 => ?_)
  · refine V_iconst C dL_law_1177 ?_
    exact hret _ _ _ _ (by omega) (by omega)
  refine V_aload_n C dL_law_230 rfl ?_
  refine V_bipush C dL_law_231 (by decide) ?_
  refine V_iload C dL_law_233 rfl ?_
  refine V_iadd C dL_law_235 ?_
  refine V_cell C hl hX hb1 hb2 hL (k := 7 + turn) (by omega) (by omega) (Nat.le_of_ble_eq_true rfl) ⟨(Nat.le_of_ble_eq_true rfl), (Nat.le_of_ble_eq_true rfl)⟩ ⟨(by show _ ≤ 600086; omega), (by show _ ≤ 7301442; omega)⟩ dL_law_236 (fun z236 hz236 => ?_)
  refine V_ldc C dL_law_239 qL_17 ?_
  refine V_iandX C dL_law_241 (fun x241 hx241 => ?_)
  refine V_istore C dL_law_242 (by decide) rfl ?_
  refine V_iload C dL_law_244 rfl ?_
  refine V_bipush C dL_law_246 (by decide) ?_
  refine V_at C hl (by omega) (Nat.le_of_ble_eq_true rfl) ⟨(Nat.le_of_ble_eq_true rfl), (Nat.le_of_ble_eq_true rfl)⟩ ⟨(by show _ ≤ 600086; omega), (by show _ ≤ 7301442; omega)⟩ dL_law_248 (fun z248 hz248 => ?_)
  refine V_istore C dL_law_251 (by decide) rfl ?_
  refine V_iload C dL_law_253 rfl ?_
  refine V_iconst C dL_law_255 ?_
  refine V_ishrX C dL_law_256 (fun x256 hx256 => ?_)
  refine V_iconst C dL_law_257 ?_
  refine V_at C hl (by omega) (Nat.le_of_ble_eq_true rfl) ⟨(Nat.le_of_ble_eq_true rfl), (Nat.le_of_ble_eq_true rfl)⟩ ⟨(by show _ ≤ 600086; omega), (by show _ ≤ 7301442; omega)⟩ dL_law_258 (fun z258 hz258 => ?_)
  refine V_istore C dL_law_261 (by decide) rfl ?_
  refine V_iload C dL_law_263 rfl ?_
  refine V_bipush C dL_law_265 (by decide) ?_
  refine V_ishrX C dL_law_267 (fun x267 hx267 => ?_)
  refine V_iconst C dL_law_268 ?_
  refine V_at C hl (by omega) (Nat.le_of_ble_eq_true rfl) ⟨(Nat.le_of_ble_eq_true rfl), (Nat.le_of_ble_eq_true rfl)⟩ ⟨(by show _ ≤ 600086; omega), (by show _ ≤ 7301442; omega)⟩ dL_law_269 (fun z269 hz269 => ?_)
  refine V_istore C dL_law_272 (by decide) rfl ?_
  refine V_iload C dL_law_274 rfl ?_
  refine V_bipush C dL_law_276 (by decide) ?_
  refine V_ishrX C dL_law_278 (fun x278 hx278 => ?_)
  refine V_iconst C dL_law_279 ?_
  refine V_at C hl (by omega) (Nat.le_of_ble_eq_true rfl) ⟨(Nat.le_of_ble_eq_true rfl), (Nat.le_of_ble_eq_true rfl)⟩ ⟨(by show _ ≤ 600086; omega), (by show _ ≤ 7301442; omega)⟩ dL_law_280 (fun z280 hz280 => ?_)
  refine V_istore C dL_law_283 (by decide) rfl ?_
  have hend : LEnd p l e s m args below meth c D kA b t0 sb y ad Q turn x241 z248 z258 z269 z280 (20 * (turn : Int)) (1000 + 1400 * turn) (2430000 + 13000 * turn) := by
    intro Y M2 Mr2 n2 now2 ed2 v16 v17 v18 v19 c2 s2 hT2 hc2 hs2
    refine l_ch1 C hl hT2 (by omega) (by omega) (by omega) (fun Y3 a16 a17 a18 c3 s3 g1 g2 g3 => ?_)
    have hT3 : TS t0 ad y Y3 Mr2 M2 n2 now2 ed2 (20 * (turn : Int) + 20) := ⟨g1, hT2.2⟩
    refine l_ch2 C hl hT3 (by omega) (by omega) (by omega) (fun Y4 a17 a18 a19 c4 s4 g4 g5 g6 => ?_)
    have hT4 : TS t0 ad y Y4 Mr2 M2 n2 now2 ed2 (20 * (turn : Int) + 20) := ⟨g4, hT2.2⟩
    refine l_fin C hl hT4 (by omega) (by omega) (by omega) (fun Y5 b17 c5 s5 g7 g8 g9 => ?_)
    have hT5 : TS t0 ad y Y5 Mr2 M2 n2 now2 ed2 (20 * (turn : Int) + 20) := ⟨g7, hT2.2⟩
    have h9 := ih (turn + 1, Y5, M2, Mr2, n2, now2, ed2, c5, s5, some (iv x241), some (iv (z248 : Int)), some (iv (z258 : Int)), some (iv (z269 : Int)), some (iv (z280 : Int)), some (iv (boS M2 n2)), b17, a18, a19) ⟨by show turn + 1 ≤ 60; omega, by show TS t0 ad y Y5 Mr2 M2 n2 now2 ed2 (20 * ((turn + 1 : Nat) : Int)); rw [show 20 * ((turn + 1 : Nat) : Int) = 20 * (turn : Int) + 20 by omega]; exact hT5, by show c5 + budC M2 ≤ 1000 + 1400 * (turn + 1); omega, by show s5 + budS M2 ≤ 2430000 + 13000 * (turn + 1); omega⟩ (by show 61 - (turn + 1) < 61 - turn; omega)
    dsimp only at h9
    rw [show ((turn + 1 : Nat) : Int) = (turn : Int) + 1 by omega] at h9
    exact h9
  exact l_act C hl hTj (by omega) (by omega) (by omega) (by omega) hx241 hcj hsj (by omega) (by omega) (by omega) hend
end LACT7
