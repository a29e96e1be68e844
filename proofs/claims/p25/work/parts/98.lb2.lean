/-! the law: its walk -/
section LAWV
variable {p : Program} {l : Launch} {e : Env} {s : State} {m : MethodId} {args : Array Value} {below : List Frame} {meth : Method} {c : Code}
variable {D : va_G} {kA : Nat → ClassId} {b t0 sb Ls : Nat} {Q : State → Prop} {X : Mm} {xs : Nat → Int32}
set_option maxHeartbeats 2000000 in
set_option maxRecDepth 20000 in
theorem law_V {nm : String} (C : Cx p l s m args meth c D kA b t0 20 RL nm cL_law) (hl : l.stackTraces = false) (hX : va_X sb Ls xs s s.heap) (hb1 : sb < s.heap.size) (hb2 : sb < b) (hL : Ls ≤ 260) (ht : gK X t0 = 24 ∧ gN X t0 = 0) (hret : ∀ (Y : Mm) (c2 s2 : Nat) (lv : List (Option Value)), c2 ≤ 600086 → s2 ≤ 7301442 → V p l e room_1 s m args below meth c D kA b 20 (c2) (s2) (Q) Y (1178) (lv) ([iv 1])) : V p l e room_1 s m args below meth c D kA b 20 0 0 Q X 0 [some (rv (some sb)), none, none, none, none, none, none, none, none, none, none, none, none, none, none, none, none, none, none, none] [] := by
  refine V_new C cl10 nL_8 rfl (Nat.le_of_ble_eq_true rfl) (Nat.le_of_ble_eq_true rfl) dL_law_0 (fun y hy0 hby => ?_)
  refine V_dup C dL_law_3 rfl ?_
  have nt : t0 ≠ y := ne_of_0 hy0 (by omega)
  refine V_callI C (As := []) (c_X9_init hl (X := alO X y 11) (y := y) (if_pos rfl) ⟨(if_neg nt).trans ht.1, ht.2⟩) kL_10 rfl rfl (Nat.le_of_ble_eq_true rfl) ⟨Nat.le_of_ble_eq_true rfl, Nat.le_of_ble_eq_true rfl⟩ ⟨Nat.le_of_ble_eq_true rfl, Nat.le_of_ble_eq_true rfl⟩ dL_law_4 (fun _ _ h => h.elim) (fun v Y hp => ?_)
  obtain ⟨rfl, lf, fg, gg, d, c0, hY⟩ := hp
  have hA0 : AI Y (fun _ => 0) 0 := ⟨fun k hk => absurd hk (Nat.not_lt_zero k), fun j k hj => absurd hj (Nat.not_lt_zero j)⟩
  refine V_astore_n C dL_law_7 (by decide) rfl ?_
  refine V_iconst C dL_law_8 ?_
  refine V_newI C (n := 4) rfl (by omega) a_int (Nat.le_of_ble_eq_true rfl) (Nat.le_of_ble_eq_true rfl) dL_law_9 (fun q0 h0 g0 => ?_)
  have hY0 := hY.kept (fun x hx => eqc_alA (t := 20) (n := 4) (ne_of_0 h0 hx))
  have hA1 := hA0.step (m := 4) h0 rfl
  refine V_astore_n C dL_law_11 (by decide) rfl ?_
  refine V_bipush C dL_law_12 (by decide) ?_
  refine V_newI C (n := 40) rfl (by omega) a_int (Nat.le_of_ble_eq_true rfl) (Nat.le_of_ble_eq_true rfl) dL_law_14 (fun q1 h1 g1 => ?_)
  have hY1 := hY0.kept (fun x hx => eqc_alA (t := 20) (n := 40) (ne_of_0 h1 hx))
  have hA2 := hA1.step (m := 40) h1 rfl
  refine V_astore_n C dL_law_16 (by decide) rfl ?_
  refine V_bipush C dL_law_17 (by decide) ?_
  refine V_newI C (n := 40) rfl (by omega) a_int (Nat.le_of_ble_eq_true rfl) (Nat.le_of_ble_eq_true rfl) dL_law_19 (fun q2 h2 g2 => ?_)
  have hY2 := hY1.kept (fun x hx => eqc_alA (t := 20) (n := 40) (ne_of_0 h2 hx))
  have hA3 := hA2.step (m := 40) h2 rfl
  refine V_astore C dL_law_21 (by decide) rfl ?_
  refine V_iconst C dL_law_23 ?_
  refine V_newI C (n := 3) rfl (by omega) a_int (Nat.le_of_ble_eq_true rfl) (Nat.le_of_ble_eq_true rfl) dL_law_24 (fun q3 h3 g3 => ?_)
  have hY3 := hY2.kept (fun x hx => eqc_alA (t := 20) (n := 3) (ne_of_0 h3 hx))
  have hA4 := hA3.step (m := 3) h3 rfl
  refine V_astore C dL_law_26 (by decide) rfl ?_
  refine V_iconst C dL_law_28 ?_
  refine V_newI C (n := 3) rfl (by omega) a_int (Nat.le_of_ble_eq_true rfl) (Nat.le_of_ble_eq_true rfl) dL_law_29 (fun q4 h4 g4 => ?_)
  have hY4 := hY3.kept (fun x hx => eqc_alA (t := 20) (n := 3) (ne_of_0 h4 hx))
  have hA5 := hA4.step (m := 3) h4 rfl
  refine V_astore C dL_law_31 (by decide) rfl ?_
  obtain ⟨ad, ead⟩ : ∃ ad, ad = u1 (u1 (u1 (u1 (u1 (fun _ => 0) 0 q0) 1 q1) 2 q2) 3 q3) 4 q4 := ⟨_, rfl⟩
  have e0 : q0 = ad 0 := by rw [ead]; rfl
  have e1 : q1 = ad 1 := by rw [ead]; rfl
  have e2 : q2 = ad 2 := by rw [ead]; rfl
  have e3 : q3 = ad 3 := by rw [ead]; rfl
  have e4 : q4 = ad 4 := by rw [ead]; rfl
  change AI _ (u1 (u1 (u1 (u1 (u1 (fun _ => 0) 0 q0) 1 q1) 2 q2) 3 q3) 4 q4) 5 at hA5
  rw [← ead] at hA5
  generalize alA (alA (alA (alA (alA Y q0 20 4) q1 20 40) q2 20 40) q3 20 3) q4 20 3 = X5 at hY4 hA5 ⊢
  rw [e0, e1, e2, e3, e4]
  have hS : SX t0 ad y X5 Mr0 M0 := ⟨_, _, 0, cx_begin hY4 hA5.rr, zm_begin hY4, iv_M0, rfl⟩
  refine V_iconst C dL_law_33 ?_
  refine V_istore C dL_law_34 (by decide) rfl ?_
  refine l_b1 C hl hX hb1 hb2 hL hS (in_0 Mr0) (fun q _ i => rfl) (Nat.le_of_ble_eq_true rfl) (Nat.le_of_ble_eq_true rfl) (fun Y2 M2 Mr2 v7 v8 v9 c2 s2 hS2 hi2 hz2 hc2 hs2 => ?_)
  have hc2 : c2 ≤ 21 + 64 := hc2
  have hs2 : s2 ≤ 4637 + 16800 := hs2
  refine V_iconst C dL_law_139 ?_
  refine V_istore C dL_law_140 (by decide) rfl ?_
  refine l_b2 C hl hX hb1 hb2 hL hS2 hi2 (fun i => hz2 4 (by decide) i) (by omega) (by omega) (fun Y3 M3 Mr3 v7 c3 s3 hS3 hi3 h33 h34 hc3 hs3 => ?_)
  have hT := ts_begin hS3 hi3 h33 h34
  obtain ⟨-, -, -, -, -, bd1, bd2⟩ := hi3
  refine V_iconst C dL_law_211 ?_
  refine V_istore C dL_law_212 (by decide) rfl ?_
  refine V_iconst C dL_law_214 ?_
  refine V_istore C dL_law_215 (by decide) rfl ?_
  refine V_iconst C dL_law_217 ?_
  refine V_istore C dL_law_218 (by decide) rfl ?_
  refine V_iconst C dL_law_220 ?_
  refine V_istore C dL_law_221 (by decide) rfl ?_
  exact l_turns C hl hX hb1 hb2 hL hT (by omega) (by omega) hret
end LAWV
