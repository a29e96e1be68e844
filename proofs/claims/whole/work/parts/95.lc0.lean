/-! the law: its calls -/
def Lsc (xs : Nat → Int32) (j : Nat) (q : Nat → Int) : Prop := ∀ k, k < 6 → rng (q k) ∧ xs (6 * j + k) = zI (q k)
/-- what is wanted behind a call -/
def LEnd (p : Program) (l : Launch) (e : Env) (s : State) (m : MethodId) (args : Array Value) (below : List Frame) (meth : Method) (c : Code) (D : va_G) (kA : Nat → ClassId) (b : Nat) (Q : State → Prop) (t0 ao mo : Nat) (ad : Nat → Nat) (sb : Nat) (L : Ly) (j : Nat) : Prop := ∀ (Y : Mm) (L2 : Ly) (Z2 : Zs) (M2 : Mo) (v5 v6 : Option Value) (c2 s2 : Nat), CX t0 ao mo ad L2 Y Z2 M2 → ZM Z2 M2 → Iv M2 (j + 1) → lA L2 11 0 = lA L 11 0 → c2 + budC M2 ≤ 400 + 26 * (j + 1) → s2 + budS M2 ≤ 2440000 + 4402 * (j + 1) → V p l e room_1 s m args below meth c D kA b 7 c2 s2 Q Y 1603 [some (rv (some sb)), some (rv (some (lA L 11 0))), some (rv (some mo)), some (rv (some ao)), some (iv (6 * (j : Int))), v5, v6] []
theorem stK_pasG {M M2 : Mo} {j n : Nat} {g r : Int} (h : Iv M j) (hn : (n : Int) = M.1 30) (hgood : (1 ≤ g ∧ g ≤ 120) ∧ M.1 1 + g ≤ 20000) (hP : pasP M n g M2 r) : Iv M2 (j + 1) ∧ (phC M n - phC (pcN M n g.toNat) n) + budC M2 = budC M ∧ (phS M n - phS (pcN M n g.toNat) n) + budS M2 = budS M := by
  have h1 := stK_pas h hn hP
  refine ⟨h1.1, h1.2.2.1 ?_⟩
  rcases hP with ⟨a1, -⟩ | ⟨-, a2, -⟩ | ⟨a1, a2, hN, -⟩
  · exact absurd hgood.1 a1
  · omega
  · exact (PJ_iv h hn (passN_J h g.toNat M2 (by omega) hN)).2.2.2
theorem stK_pasB {M M2 : Mo} {j n : Nat} {g r : Int} (h : Iv M j) (hbad : ¬ ((1 ≤ g ∧ g ≤ 120) ∧ M.1 1 + g ≤ 20000)) (hP : pasP M n g M2 r) : stK M M2 j := by
  rcases hP with ⟨-, rfl, -⟩ | ⟨-, -, rfl, -⟩ | ⟨a1, a2, -⟩
  · exact stK_p h
  · exact stK_p h
  · exact absurd ⟨a1, a2⟩ hbad
section LC0
variable {p : Program} {l : Launch} {e : Env} {s : State} {m : MethodId} {args : Array Value} {below : List Frame} {meth : Method} {c : Code}
variable {D : va_G} {kA : Nat → ClassId} {b t0 cells slots : Nat} {Q : State → Prop} {X : Mm} {ao mo sb Ls j : Nat} {ad : Nat → Nat} {L : Ly} {Z : Zs} {M : Mo} {xs : Nat → Int32} {q : Nat → Int} {u5 u6 : Option Value}
set_option maxHeartbeats 2000000 in
set_option maxRecDepth 20000 in
theorem lc_socket {nm : String} (C : Cx p l s m args meth c D kA b t0 7 RL nm cL_law) (hl : l.stackTraces = false) (hX : va_X sb Ls xs s s.heap) (hb1 : sb < s.heap.size) (hb2 : sb < b) (hL6 : 6 * j + 6 ≤ Ls) (hL : Ls ≤ 3072) (h : CX t0 ao mo ad L X Z M) (hZ : ZM Z M) (hI : Iv M j) (hq : Lsc xs j q) (hc : cells + budC M ≤ 400 + 26 * j) (hs : slots + budS M ≤ 2440000 + 4402 * j) (hend : LEnd p l e s m args below meth c D kA b Q t0 ao mo ad sb L j) : V p l e room_1 s m args below meth c D kA b 7 cells slots Q X 144 [some (rv (some sb)), some (rv (some (lA L 11 0))), some (rv (some mo)), some (rv (some ao)), some (iv (6 * (j : Int))), u5, u6] [] := by
  have hKy := (yd_C h hZ.1).1
  have hn : ((yC Z 6 : Nat) : Int) = M.1 30 := hZ.1.1.2.2.2.2.2.1
  refine V_aload_n C dL_law_144 rfl ?_
  refine V_aload_n C dL_law_145 rfl ?_
  refine V_iload C dL_law_146 rfl ?_
  refine V_iconst C dL_law_148 ?_
  refine V_iadd C dL_law_149 ?_
  refine V_sld C (j := 6 * j + 1) hX hb1 hb2 (by omega) hL (by omega) (hq 1 (by decide)).2 dL_law_150 ?_
  refine V_aload_n C dL_law_151 rfl ?_
  refine V_iload C dL_law_152 rfl ?_
  refine V_iconst C dL_law_154 ?_
  refine V_iadd C dL_law_155 ?_
  refine V_sld C (j := 6 * j + 2) hX hb1 hb2 (by omega) hL (by omega) (hq 2 (by decide)).2 dL_law_156 ?_
  refine V_aload_n C dL_law_157 rfl ?_
  refine V_callSH C (As := [_, _, _, _]) (c_L_socket hl h hZ hI (hq 1 (by decide)).1 (hq 2 (by decide)).1) sL_socket rfl rfl (Nat.le_of_ble_eq_true rfl) ⟨(Nat.le_of_ble_eq_true rfl), (Nat.le_of_ble_eq_true rfl)⟩ ⟨(by show cells + 8 ≤ 601024; omega), (by show slots + 2100 ≤ 7293034; omega)⟩ dL_law_158 (fun _ _ h => h.elim) (fun v Y hp => ?_)
  obtain ⟨hRR, k, rfl, hk, hU⟩ := hp
  refine V_istore C dL_law_161 (by decide) rfl ?_
  refine V_aload_n C dL_law_163 rfl ?_
  refine V_aload_n C dL_law_164 rfl ?_
  refine V_iload C dL_law_165 rfl ?_
  refine V_iconst C dL_law_167 ?_
  refine V_iadd C dL_law_168 ?_
  refine V_sld C (j := 6 * j + 1) hX hb1 hb2 (by omega) hL (by omega) (hq 1 (by decide)).2 dL_law_169 ?_
  refine V_aload_n C dL_law_170 rfl ?_
  refine V_iload C dL_law_171 rfl ?_
  refine V_iconst C dL_law_173 ?_
  refine V_iadd C dL_law_174 ?_
  refine V_sld C (j := 6 * j + 2) hX hb1 hb2 (by omega) hL (by omega) (hq 2 (by decide)).2 dL_law_175 ?_
  refine V_callV C (As := [_, _]) ((c_X10_socket hl (hq 1 (by decide)).1 (hq 2 (by decide)).1 hI.1) Y hRR) kL_94 hRR.1 rfl rfl (Nat.le_of_ble_eq_true rfl) ⟨(Nat.le_of_ble_eq_true rfl), (Nat.le_of_ble_eq_true rfl)⟩ ⟨(by show cells + 8 + 0 ≤ 601024; omega), (by show slots + 2100 + 0 ≤ 7293034; omega)⟩ dL_law_176 (fun _ _ h => h.elim) (fun v Y2 hp => ?_)
  obtain ⟨M2, hp, hR2, hq2⟩ := hp
  obtain ⟨hM2, rfl⟩ := hp
  obtain ⟨hk0, hzz, hcl⟩ := hU M2 _ ⟨hM2, rfl⟩
  have hst : stK M M2 j := by rw [hM2]; exact stK_soc hI
  obtain ⟨L2, Z2, hcx, hzm, hy2⟩ := hcl
  obtain ⟨hcx2, hga2⟩ := ref_aft hcx hR2 hq2
  obtain ⟨rr, hrr, er⟩ := iv_rng ((socS M (q 1) (q 2)).2)
  rw [← er]
  refine V_istore C dL_law_179 (by decide) rfl ?_
  refine V_aload_n C dL_law_181 rfl ?_
  refine V_callV C (As := []) (c_X10_thrown hl Y2 hcx2.1) kL_95 hcx2.1.1 rfl rfl (Nat.le_of_ble_eq_true rfl) ⟨(Nat.le_of_ble_eq_true rfl), (Nat.le_of_ble_eq_true rfl)⟩ ⟨(by show cells + 8 + 0 + 0 ≤ 601024; omega), (by show slots + 2100 + 0 + 0 ≤ 7293034; omega)⟩ dL_law_182 (fun _ _ h => h.elim) (fun v Y3 hp => ?_)
  obtain ⟨M3, ⟨hM3, rfl⟩, hR3, hq3⟩ := hp
  rw [hM3] at hR3
  obtain ⟨hcx3, hga3⟩ := ref_aft hcx2 hR3 hq3
  rw [hk0]
  refine V_iload C dL_law_185 rfl ?_
  refine V_icmp_eq C dL_law_187 (by omega) (by omega) (fun h187 => ?_) (fun h187 => ?_)
  · refine V_iload C dL_law_192 rfl ?_
    refine V_if_ne C dL_law_194 (by omega) (fun h194 => ?_) (fun h194 => ?_)
    · refine V_goto C dL_law_209 ?_
      exact hend _ _ _ _ _ _ _ _ hcx3 hzm hst.1 hy2 (by have := hst.2.1; omega) (by have := hst.2.2; omega)
    · refine V_aload_n C dL_law_197 rfl ?_
      refine V_iconst C dL_law_198 ?_
      obtain ⟨zz, hz, ez, hga⟩ := hzz (by omega)
      obtain rfl : rr = zz := iv_inj hrr hz (er.trans ez.symm)
      have hao := hcx3.ao
      have hga4 : gA Y3 ao 0 = rr := (hga3.trans hga2).trans hga
      refine V_lald C (j := 0) (n := 1) hao.1 hao.2 (by decide) (by decide) rfl dL_law_199 ?_
      rw [hga4]
      refine V_iload C dL_law_200 rfl ?_
      refine V_i2l C dL_law_202 hrr ?_
      refine V_lcmp C dL_law_203 (by first | omega | decide) (by first | omega | decide) ?_
      rw [lc0]
      refine V_if_eq C dL_law_204 (by decide) (fun h204 => ?_) (fun h204 => ?_)
      · refine V_goto C dL_law_209 ?_
        exact hend _ _ _ _ _ _ _ _ hcx3 hzm hst.1 hy2 (by have := hst.2.1; omega) (by have := hst.2.2; omega)
      · exact absurd rfl h204
  · exact absurd rfl h187
set_option maxHeartbeats 2000000 in
set_option maxRecDepth 20000 in
theorem lc_car {nm : String} (C : Cx p l s m args meth c D kA b t0 7 RL nm cL_law) (hl : l.stackTraces = false) (hX : va_X sb Ls xs s s.heap) (hb1 : sb < s.heap.size) (hb2 : sb < b) (hL6 : 6 * j + 6 ≤ Ls) (hL : Ls ≤ 3072) (h : CX t0 ao mo ad L X Z M) (hZ : ZM Z M) (hI : Iv M j) (hq : Lsc xs j q) (hc : cells + budC M ≤ 400 + 26 * j) (hs : slots + budS M ≤ 2440000 + 4402 * j) (hend : LEnd p l e s m args below meth c D kA b Q t0 ao mo ad sb L j) : V p l e room_1 s m args below meth c D kA b 7 cells slots Q X 212 [some (rv (some sb)), some (rv (some (lA L 11 0))), some (rv (some mo)), some (rv (some ao)), some (iv (6 * (j : Int))), u5, u6] [] := by
  have hKy := (yd_C h hZ.1).1
  have hn : ((yC Z 6 : Nat) : Int) = M.1 30 := hZ.1.1.2.2.2.2.2.1
  refine V_aload_n C dL_law_212 rfl ?_
  refine V_aload_n C dL_law_213 rfl ?_
  refine V_iload C dL_law_214 rfl ?_
  refine V_iconst C dL_law_216 ?_
  refine V_iadd C dL_law_217 ?_
  refine V_sld C (j := 6 * j + 1) hX hb1 hb2 (by omega) hL (by omega) (hq 1 (by decide)).2 dL_law_218 ?_
  refine V_aload_n C dL_law_219 rfl ?_
  refine V_iload C dL_law_220 rfl ?_
  refine V_iconst C dL_law_222 ?_
  refine V_iadd C dL_law_223 ?_
  refine V_sld C (j := 6 * j + 2) hX hb1 hb2 (by omega) hL (by omega) (hq 2 (by decide)).2 dL_law_224 ?_
  refine V_aload_n C dL_law_225 rfl ?_
  refine V_iload C dL_law_226 rfl ?_
  refine V_iconst C dL_law_228 ?_
  refine V_iadd C dL_law_229 ?_
  refine V_sld C (j := 6 * j + 3) hX hb1 hb2 (by omega) hL (by omega) (hq 3 (by decide)).2 dL_law_230 ?_
  refine V_aload_n C dL_law_231 rfl ?_
  refine V_callSH C (As := [_, _, _, _, _]) (c_L_car hl h hZ hI (hq 1 (by decide)).1 (hq 2 (by decide)).1 (hq 3 (by decide)).1) sL_car rfl rfl (Nat.le_of_ble_eq_true rfl) ⟨(Nat.le_of_ble_eq_true rfl), (Nat.le_of_ble_eq_true rfl)⟩ ⟨(by show cells + 8 ≤ 601024; omega), (by show slots + 2100 ≤ 7293034; omega)⟩ dL_law_232 (fun _ _ h => h.elim) (fun v Y hp => ?_)
  obtain ⟨hRR, k, rfl, hk, hU⟩ := hp
  refine V_istore C dL_law_235 (by decide) rfl ?_
  refine V_aload_n C dL_law_237 rfl ?_
  refine V_aload_n C dL_law_238 rfl ?_
  refine V_iload C dL_law_239 rfl ?_
  refine V_iconst C dL_law_241 ?_
  refine V_iadd C dL_law_242 ?_
  refine V_sld C (j := 6 * j + 1) hX hb1 hb2 (by omega) hL (by omega) (hq 1 (by decide)).2 dL_law_243 ?_
  refine V_aload_n C dL_law_244 rfl ?_
  refine V_iload C dL_law_245 rfl ?_
  refine V_iconst C dL_law_247 ?_
  refine V_iadd C dL_law_248 ?_
  refine V_sld C (j := 6 * j + 2) hX hb1 hb2 (by omega) hL (by omega) (hq 2 (by decide)).2 dL_law_249 ?_
  refine V_aload_n C dL_law_250 rfl ?_
  refine V_iload C dL_law_251 rfl ?_
  refine V_iconst C dL_law_253 ?_
  refine V_iadd C dL_law_254 ?_
  refine V_sld C (j := 6 * j + 3) hX hb1 hb2 (by omega) hL (by omega) (hq 3 (by decide)).2 dL_law_255 ?_
  refine V_callV C (As := [_, _, _]) ((c_X10_car hl (hq 1 (by decide)).1 (hq 2 (by decide)).1 (hq 3 (by decide)).1 hI.1) Y hRR) kL_102 hRR.1 rfl rfl (Nat.le_of_ble_eq_true rfl) ⟨(Nat.le_of_ble_eq_true rfl), (Nat.le_of_ble_eq_true rfl)⟩ ⟨(by show cells + 8 + 0 ≤ 601024; omega), (by show slots + 2100 + 0 ≤ 7293034; omega)⟩ dL_law_256 (fun _ _ h => h.elim) (fun v Y2 hp => ?_)
  obtain ⟨M2, hp, hR2, hq2⟩ := hp
  obtain ⟨hM2, rfl⟩ := hp
  obtain ⟨hk0, hzz, hcl⟩ := hU M2 _ ⟨hM2, rfl⟩
  have hst : stK M M2 j := by rw [hM2]; exact stK_car hI
  obtain ⟨L2, Z2, hcx, hzm, hy2⟩ := hcl
  obtain ⟨hcx2, hga2⟩ := ref_aft hcx hR2 hq2
  obtain ⟨rr, hrr, er⟩ := iv_rng ((carS M (q 1) (q 2) (q 3)).2)
  rw [← er]
  refine V_istore C dL_law_259 (by decide) rfl ?_
  refine V_aload_n C dL_law_261 rfl ?_
  refine V_callV C (As := []) (c_X10_thrown hl Y2 hcx2.1) kL_95 hcx2.1.1 rfl rfl (Nat.le_of_ble_eq_true rfl) ⟨(Nat.le_of_ble_eq_true rfl), (Nat.le_of_ble_eq_true rfl)⟩ ⟨(by show cells + 8 + 0 + 0 ≤ 601024; omega), (by show slots + 2100 + 0 + 0 ≤ 7293034; omega)⟩ dL_law_262 (fun _ _ h => h.elim) (fun v Y3 hp => ?_)
  obtain ⟨M3, ⟨hM3, rfl⟩, hR3, hq3⟩ := hp
  rw [hM3] at hR3
  obtain ⟨hcx3, hga3⟩ := ref_aft hcx2 hR3 hq3
  rw [hk0]
  refine V_iload C dL_law_265 rfl ?_
  refine V_icmp_eq C dL_law_267 (by omega) (by omega) (fun h267 => ?_) (fun h267 => ?_)
  · refine V_iload C dL_law_272 rfl ?_
    refine V_if_ne C dL_law_274 (by omega) (fun h274 => ?_) (fun h274 => ?_)
    · refine V_goto C dL_law_289 ?_
      exact hend _ _ _ _ _ _ _ _ hcx3 hzm hst.1 hy2 (by have := hst.2.1; omega) (by have := hst.2.2; omega)
    · refine V_aload_n C dL_law_277 rfl ?_
      refine V_iconst C dL_law_278 ?_
      obtain ⟨zz, hz, ez, hga⟩ := hzz (by omega)
      obtain rfl : rr = zz := iv_inj hrr hz (er.trans ez.symm)
      have hao := hcx3.ao
      have hga4 : gA Y3 ao 0 = rr := (hga3.trans hga2).trans hga
      refine V_lald C (j := 0) (n := 1) hao.1 hao.2 (by decide) (by decide) rfl dL_law_279 ?_
      rw [hga4]
      refine V_iload C dL_law_280 rfl ?_
      refine V_i2l C dL_law_282 hrr ?_
      refine V_lcmp C dL_law_283 (by first | omega | decide) (by first | omega | decide) ?_
      rw [lc0]
      refine V_if_eq C dL_law_284 (by decide) (fun h284 => ?_) (fun h284 => ?_)
      · refine V_goto C dL_law_289 ?_
        exact hend _ _ _ _ _ _ _ _ hcx3 hzm hst.1 hy2 (by have := hst.2.1; omega) (by have := hst.2.2; omega)
      · exact absurd rfl h284
  · exact absurd rfl h267
set_option maxHeartbeats 2000000 in
set_option maxRecDepth 20000 in
theorem lc_card {nm : String} (C : Cx p l s m args meth c D kA b t0 7 RL nm cL_law) (hl : l.stackTraces = false) (hX : va_X sb Ls xs s s.heap) (hb1 : sb < s.heap.size) (hb2 : sb < b) (hL6 : 6 * j + 6 ≤ Ls) (hL : Ls ≤ 3072) (h : CX t0 ao mo ad L X Z M) (hZ : ZM Z M) (hI : Iv M j) (hq : Lsc xs j q) (hc : cells + budC M ≤ 400 + 26 * j) (hs : slots + budS M ≤ 2440000 + 4402 * j) (hend : LEnd p l e s m args below meth c D kA b Q t0 ao mo ad sb L j) : V p l e room_1 s m args below meth c D kA b 7 cells slots Q X 292 [some (rv (some sb)), some (rv (some (lA L 11 0))), some (rv (some mo)), some (rv (some ao)), some (iv (6 * (j : Int))), u5, u6] [] := by
  have hKy := (yd_C h hZ.1).1
  have hn : ((yC Z 6 : Nat) : Int) = M.1 30 := hZ.1.1.2.2.2.2.2.1
  refine V_aload_n C dL_law_292 rfl ?_
  refine V_aload_n C dL_law_293 rfl ?_
  refine V_iload C dL_law_294 rfl ?_
  refine V_iconst C dL_law_296 ?_
  refine V_iadd C dL_law_297 ?_
  refine V_sld C (j := 6 * j + 1) hX hb1 hb2 (by omega) hL (by omega) (hq 1 (by decide)).2 dL_law_298 ?_
  refine V_aload_n C dL_law_299 rfl ?_
  refine V_iload C dL_law_300 rfl ?_
  refine V_iconst C dL_law_302 ?_
  refine V_iadd C dL_law_303 ?_
  refine V_sld C (j := 6 * j + 2) hX hb1 hb2 (by omega) hL (by omega) (hq 2 (by decide)).2 dL_law_304 ?_
  refine V_aload_n C dL_law_305 rfl ?_
  refine V_callSH C (As := [_, _, _, _]) (c_L_card hl h hZ hI (hq 1 (by decide)).1 (hq 2 (by decide)).1) sL_card rfl rfl (Nat.le_of_ble_eq_true rfl) ⟨(Nat.le_of_ble_eq_true rfl), (Nat.le_of_ble_eq_true rfl)⟩ ⟨(by show cells + 8 ≤ 601024; omega), (by show slots + 2100 ≤ 7293034; omega)⟩ dL_law_306 (fun _ _ h => h.elim) (fun v Y hp => ?_)
  obtain ⟨hRR, k, rfl, hk, hU⟩ := hp
  refine V_istore C dL_law_309 (by decide) rfl ?_
  refine V_aload_n C dL_law_311 rfl ?_
  refine V_aload_n C dL_law_312 rfl ?_
  refine V_iload C dL_law_313 rfl ?_
  refine V_iconst C dL_law_315 ?_
  refine V_iadd C dL_law_316 ?_
  refine V_sld C (j := 6 * j + 1) hX hb1 hb2 (by omega) hL (by omega) (hq 1 (by decide)).2 dL_law_317 ?_
  refine V_aload_n C dL_law_318 rfl ?_
  refine V_iload C dL_law_319 rfl ?_
  refine V_iconst C dL_law_321 ?_
  refine V_iadd C dL_law_322 ?_
  refine V_sld C (j := 6 * j + 2) hX hb1 hb2 (by omega) hL (by omega) (hq 2 (by decide)).2 dL_law_323 ?_
  refine V_callV C (As := [_, _]) ((c_X10_card hl (hq 1 (by decide)).1 (hq 2 (by decide)).1 hI.1) Y hRR) kL_105 hRR.1 rfl rfl (Nat.le_of_ble_eq_true rfl) ⟨(Nat.le_of_ble_eq_true rfl), (Nat.le_of_ble_eq_true rfl)⟩ ⟨(by show cells + 8 + 0 ≤ 601024; omega), (by show slots + 2100 + 0 ≤ 7293034; omega)⟩ dL_law_324 (fun _ _ h => h.elim) (fun v Y2 hp => ?_)
  obtain ⟨M2, hp, hR2, hq2⟩ := hp
  obtain ⟨hM2, rfl⟩ := hp
  obtain ⟨hk0, hzz, hcl⟩ := hU M2 _ ⟨hM2, rfl⟩
  have hst : stK M M2 j := by rw [hM2]; exact stK_card hI
  obtain ⟨L2, Z2, hcx, hzm, hy2⟩ := hcl
  obtain ⟨hcx2, hga2⟩ := ref_aft hcx hR2 hq2
  obtain ⟨rr, hrr, er⟩ := iv_rng ((cdS M (q 1) (q 2)).2)
  rw [← er]
  refine V_istore C dL_law_327 (by decide) rfl ?_
  refine V_aload_n C dL_law_329 rfl ?_
  refine V_callV C (As := []) (c_X10_thrown hl Y2 hcx2.1) kL_95 hcx2.1.1 rfl rfl (Nat.le_of_ble_eq_true rfl) ⟨(Nat.le_of_ble_eq_true rfl), (Nat.le_of_ble_eq_true rfl)⟩ ⟨(by show cells + 8 + 0 + 0 ≤ 601024; omega), (by show slots + 2100 + 0 + 0 ≤ 7293034; omega)⟩ dL_law_330 (fun _ _ h => h.elim) (fun v Y3 hp => ?_)
  obtain ⟨M3, ⟨hM3, rfl⟩, hR3, hq3⟩ := hp
  rw [hM3] at hR3
  obtain ⟨hcx3, hga3⟩ := ref_aft hcx2 hR3 hq3
  rw [hk0]
  refine V_iload C dL_law_333 rfl ?_
  refine V_icmp_eq C dL_law_335 (by omega) (by omega) (fun h335 => ?_) (fun h335 => ?_)
  · refine V_iload C dL_law_340 rfl ?_
    refine V_if_ne C dL_law_342 (by omega) (fun h342 => ?_) (fun h342 => ?_)
    · refine V_goto C dL_law_357 ?_
      exact hend _ _ _ _ _ _ _ _ hcx3 hzm hst.1 hy2 (by have := hst.2.1; omega) (by have := hst.2.2; omega)
    · refine V_aload_n C dL_law_345 rfl ?_
      refine V_iconst C dL_law_346 ?_
      obtain ⟨zz, hz, ez, hga⟩ := hzz (by omega)
      obtain rfl : rr = zz := iv_inj hrr hz (er.trans ez.symm)
      have hao := hcx3.ao
      have hga4 : gA Y3 ao 0 = rr := (hga3.trans hga2).trans hga
      refine V_lald C (j := 0) (n := 1) hao.1 hao.2 (by decide) (by decide) rfl dL_law_347 ?_
      rw [hga4]
      refine V_iload C dL_law_348 rfl ?_
      refine V_i2l C dL_law_350 hrr ?_
      refine V_lcmp C dL_law_351 (by first | omega | decide) (by first | omega | decide) ?_
      rw [lc0]
      refine V_if_eq C dL_law_352 (by decide) (fun h352 => ?_) (fun h352 => ?_)
      · refine V_goto C dL_law_357 ?_
        exact hend _ _ _ _ _ _ _ _ hcx3 hzm hst.1 hy2 (by have := hst.2.1; omega) (by have := hst.2.2; omega)
      · exact absurd rfl h352
  · exact absurd rfl h335
set_option maxHeartbeats 2000000 in
set_option maxRecDepth 20000 in
theorem lc_good {nm : String} (C : Cx p l s m args meth c D kA b t0 7 RL nm cL_law) (hl : l.stackTraces = false) (hX : va_X sb Ls xs s s.heap) (hb1 : sb < s.heap.size) (hb2 : sb < b) (hL6 : 6 * j + 6 ≤ Ls) (hL : Ls ≤ 3072) (h : CX t0 ao mo ad L X Z M) (hZ : ZM Z M) (hI : Iv M j) (hq : Lsc xs j q) (hc : cells + budC M ≤ 400 + 26 * j) (hs : slots + budS M ≤ 2440000 + 4402 * j) (hend : LEnd p l e s m args below meth c D kA b Q t0 ao mo ad sb L j) : V p l e room_1 s m args below meth c D kA b 7 cells slots Q X 360 [some (rv (some sb)), some (rv (some (lA L 11 0))), some (rv (some mo)), some (rv (some ao)), some (iv (6 * (j : Int))), u5, u6] [] := by
  have hKy := (yd_C h hZ.1).1
  have hn : ((yC Z 6 : Nat) : Int) = M.1 30 := hZ.1.1.2.2.2.2.2.1
  obtain ⟨ub, hub, hub2⟩ : ∃ ub : Int, ub = (if q 2 = 0 then 0 else 1) ∧ (ub = 0 ∨ ub = 1) := ⟨_, rfl, by split <;> omega⟩
  refine V_aload_n C dL_law_360 rfl ?_
  refine V_aload_n C dL_law_361 rfl ?_
  refine V_iload C dL_law_362 rfl ?_
  refine V_iconst C dL_law_364 ?_
  refine V_iadd C dL_law_365 ?_
  refine V_sld C (j := 6 * j + 1) hX hb1 hb2 (by omega) hL (by omega) (hq 1 (by decide)).2 dL_law_366 ?_
  refine V_aload_n C dL_law_367 rfl ?_
  refine V_iload C dL_law_368 rfl ?_
  refine V_iconst C dL_law_370 ?_
  refine V_iadd C dL_law_371 ?_
  refine V_sld C (j := 6 * j + 2) hX hb1 hb2 (by omega) hL (by omega) (hq 2 (by decide)).2 dL_law_372 ?_
  refine V_joinP C (pcm := 381) (P := fun z => z = ub) (fun hj => ?_) (fun z hz => ?_)
  · refine V_if_eq C dL_law_373 (hq 2 (by decide)).1 (fun h373 => ?_) (fun h373 => ?_)
    · refine V_iconst C dL_law_380 ?_
      exact hj _ (by rw [hub]; first | exact (if_pos h373).symm | exact (if_neg h373).symm)
    · refine V_iconst C dL_law_376 ?_
      refine V_goto C dL_law_377 ?_
      exact hj _ (by rw [hub]; first | exact (if_pos h373).symm | exact (if_neg h373).symm)
  rw [hz]
  refine V_aload_n C dL_law_381 rfl ?_
  refine V_callSH C (As := [_, _, _, _]) (c_L_good hl h hZ hI (hq 1 (by decide)).1 hub2) sL_good rfl rfl (Nat.le_of_ble_eq_true rfl) ⟨(Nat.le_of_ble_eq_true rfl), (Nat.le_of_ble_eq_true rfl)⟩ ⟨(by show cells + 1 ≤ 601024; omega), (by show slots + 6 ≤ 7293034; omega)⟩ dL_law_382 (fun _ _ h => h.elim) (fun v Y hp => ?_)
  obtain ⟨hRR, k, rfl, hk, hU⟩ := hp
  refine V_istore C dL_law_385 (by decide) rfl ?_
  refine V_aload_n C dL_law_387 rfl ?_
  refine V_aload_n C dL_law_388 rfl ?_
  refine V_iload C dL_law_389 rfl ?_
  refine V_iconst C dL_law_391 ?_
  refine V_iadd C dL_law_392 ?_
  refine V_sld C (j := 6 * j + 1) hX hb1 hb2 (by omega) hL (by omega) (hq 1 (by decide)).2 dL_law_393 ?_
  refine V_aload_n C dL_law_394 rfl ?_
  refine V_iload C dL_law_395 rfl ?_
  refine V_iconst C dL_law_397 ?_
  refine V_iadd C dL_law_398 ?_
  refine V_sld C (j := 6 * j + 2) hX hb1 hb2 (by omega) hL (by omega) (hq 2 (by decide)).2 dL_law_399 ?_
  refine V_joinP C (pcm := 408) (P := fun z => z = ub) (fun hj => ?_) (fun z hz => ?_)
  · refine V_if_eq C dL_law_400 (hq 2 (by decide)).1 (fun h400 => ?_) (fun h400 => ?_)
    · refine V_iconst C dL_law_407 ?_
      exact hj _ (by rw [hub]; first | exact (if_pos h400).symm | exact (if_neg h400).symm)
    · refine V_iconst C dL_law_403 ?_
      refine V_goto C dL_law_404 ?_
      exact hj _ (by rw [hub]; first | exact (if_pos h400).symm | exact (if_neg h400).symm)
  rw [hz]
  refine V_callV C (As := [_, _]) ((c_X10_good hl (hq 1 (by decide)).1 hub2 hI.1) Y hRR) kL_109 hRR.1 rfl rfl (Nat.le_of_ble_eq_true rfl) ⟨(Nat.le_of_ble_eq_true rfl), (Nat.le_of_ble_eq_true rfl)⟩ ⟨(by show cells + 1 + 0 ≤ 601024; omega), (by show slots + 6 + 0 ≤ 7293034; omega)⟩ dL_law_408 (fun _ _ h => h.elim) (fun v Y2 hp => ?_)
  obtain ⟨M2, hp, hR2, hq2⟩ := hp
  obtain ⟨hM2, rfl⟩ := hp
  obtain ⟨hk0, hzz, hcl⟩ := hU M2 _ ⟨hM2, rfl⟩
  have hst : stK M M2 j := by rw [hM2]; exact stK_good hI hub2
  obtain ⟨L2, Z2, hcx, hzm, hy2⟩ := hcl
  obtain ⟨hcx2, hga2⟩ := ref_aft hcx hR2 hq2
  obtain ⟨rr, hrr, er⟩ := iv_rng ((goodS M (q 1) ub).2)
  rw [← er]
  refine V_istore C dL_law_411 (by decide) rfl ?_
  refine V_aload_n C dL_law_413 rfl ?_
  refine V_callV C (As := []) (c_X10_thrown hl Y2 hcx2.1) kL_95 hcx2.1.1 rfl rfl (Nat.le_of_ble_eq_true rfl) ⟨(Nat.le_of_ble_eq_true rfl), (Nat.le_of_ble_eq_true rfl)⟩ ⟨(by show cells + 1 + 0 + 0 ≤ 601024; omega), (by show slots + 6 + 0 + 0 ≤ 7293034; omega)⟩ dL_law_414 (fun _ _ h => h.elim) (fun v Y3 hp => ?_)
  obtain ⟨M3, ⟨hM3, rfl⟩, hR3, hq3⟩ := hp
  rw [hM3] at hR3
  obtain ⟨hcx3, hga3⟩ := ref_aft hcx2 hR3 hq3
  rw [hk0]
  refine V_iload C dL_law_417 rfl ?_
  refine V_icmp_eq C dL_law_419 (by omega) (by omega) (fun h419 => ?_) (fun h419 => ?_)
  · refine V_iload C dL_law_424 rfl ?_
    refine V_if_ne C dL_law_426 (by omega) (fun h426 => ?_) (fun h426 => ?_)
    · refine V_goto C dL_law_448 ?_
      exact hend _ _ _ _ _ _ _ _ hcx3 hzm hst.1 hy2 (by have := hst.2.1; omega) (by have := hst.2.2; omega)
    · refine V_aload_n C dL_law_429 rfl ?_
      refine V_iconst C dL_law_430 ?_
      obtain ⟨zz, hz, ez, hga⟩ := hzz (by omega)
      obtain rfl : rr = zz := iv_inj hrr hz (er.trans ez.symm)
      have hao := hcx3.ao
      have hga4 : gA Y3 ao 0 = wB rr := (hga3.trans hga2).trans hga
      refine V_lald C (j := 0) (n := 1) hao.1 hao.2 (by decide) (by decide) rfl dL_law_431 ?_
      rw [hga4]
      refine V_iload C dL_law_432 rfl ?_
      refine V_if_eq C dL_law_434 hrr (fun h434 => ?_) (fun h434 => ?_)
      · refine V_lconst C dL_law_441 (z := 0) rfl ?_
        first | rw [show wB rr = 0 from if_pos h434] | rw [show wB rr = 1 from if_neg h434]
        refine V_lcmp C dL_law_442 (by first | omega | decide) (by first | omega | decide) ?_
        rw [lc0]
        refine V_if_eq C dL_law_443 (by decide) (fun h443 => ?_) (fun h443 => ?_)
        · refine V_goto C dL_law_448 ?_
          exact hend _ _ _ _ _ _ _ _ hcx3 hzm hst.1 hy2 (by have := hst.2.1; omega) (by have := hst.2.2; omega)
        · exact absurd rfl h443
      · refine V_lconst C dL_law_437 (z := 1) rfl ?_
        refine V_goto C dL_law_438 ?_
        first | rw [show wB rr = 0 from if_pos h434] | rw [show wB rr = 1 from if_neg h434]
        refine V_lcmp C dL_law_442 (by first | omega | decide) (by first | omega | decide) ?_
        rw [lc0]
        refine V_if_eq C dL_law_443 (by decide) (fun h443 => ?_) (fun h443 => ?_)
        · refine V_goto C dL_law_448 ?_
          exact hend _ _ _ _ _ _ _ _ hcx3 hzm hst.1 hy2 (by have := hst.2.1; omega) (by have := hst.2.2; omega)
        · exact absurd rfl h443
  · exact absurd rfl h419
end LC0
