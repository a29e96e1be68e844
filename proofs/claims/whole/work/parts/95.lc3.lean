/-! the law: its calls, 4 -/
section LC3
variable {p : Program} {l : Launch} {e : Env} {s : State} {m : MethodId} {args : Array Value} {below : List Frame} {meth : Method} {c : Code}
variable {D : va_G} {kA : Nat → ClassId} {b t0 cells slots : Nat} {Q : State → Prop} {X : Mm} {ao mo sb Ls j : Nat} {ad : Nat → Nat} {L : Ly} {Z : Zs} {M : Mo} {xs : Nat → Int32} {q : Nat → Int} {u5 u6 : Option Value}
set_option maxHeartbeats 2000000 in
set_option maxRecDepth 20000 in
theorem lc_charge {nm : String} (C : Cx p l s m args meth c D kA b t0 7 RL nm cL_law) (hl : l.stackTraces = false) (hX : va_X sb Ls xs s s.heap) (hb1 : sb < s.heap.size) (hb2 : sb < b) (hL6 : 6 * j + 6 ≤ Ls) (hL : Ls ≤ 3072) (h : CX t0 ao mo ad L X Z M) (hZ : ZM Z M) (hI : Iv M j) (hq : Lsc xs j q) (hc : cells + budC M ≤ 400 + 26 * j) (hs : slots + budS M ≤ 2440000 + 4402 * j) (hend : LEnd p l e s m args below meth c D kA b Q t0 ao mo ad sb L j) : V p l e room_1 s m args below meth c D kA b 7 cells slots Q X 1130 [some (rv (some sb)), some (rv (some (lA L 11 0))), some (rv (some mo)), some (rv (some ao)), some (iv (6 * (j : Int))), u5, u6] [] := by
  have hKy := (yd_C h hZ.1).1
  have hn : ((yC Z 6 : Nat) : Int) = M.1 30 := hZ.1.1.2.2.2.2.2.1
  refine V_aload_n C dL_law_1130 rfl ?_
  refine V_aload_n C dL_law_1131 rfl ?_
  refine V_iload C dL_law_1132 rfl ?_
  refine V_iconst C dL_law_1134 ?_
  refine V_iadd C dL_law_1135 ?_
  refine V_sld C (j := 6 * j + 1) hX hb1 hb2 (by omega) hL (by omega) (hq 1 (by decide)).2 dL_law_1136 ?_
  refine V_aload_n C dL_law_1137 rfl ?_
  refine V_callSH C (As := [_, _, _]) (c_L_charge hl h hZ hI (hq 1 (by decide)).1) sL_charge rfl rfl (Nat.le_of_ble_eq_true rfl) ⟨(Nat.le_of_ble_eq_true rfl), (Nat.le_of_ble_eq_true rfl)⟩ ⟨(by show cells + 1 ≤ 601024; omega), (by show slots + 6 ≤ 7293034; omega)⟩ dL_law_1138 (fun _ _ h => h.elim) (fun v Y hp => ?_)
  obtain ⟨hRR, k, rfl, hk, hU⟩ := hp
  refine V_istore C dL_law_1141 (by decide) rfl ?_
  refine V_aload_n C dL_law_1143 rfl ?_
  refine V_aload_n C dL_law_1144 rfl ?_
  refine V_iload C dL_law_1145 rfl ?_
  refine V_iconst C dL_law_1147 ?_
  refine V_iadd C dL_law_1148 ?_
  refine V_sld C (j := 6 * j + 1) hX hb1 hb2 (by omega) hL (by omega) (hq 1 (by decide)).2 dL_law_1149 ?_
  refine V_callV C (As := [_]) ((c_X10_charge hl (hq 1 (by decide)).1 hI.1) Y hRR) kL_142 hRR.1 rfl rfl (Nat.le_of_ble_eq_true rfl) ⟨(Nat.le_of_ble_eq_true rfl), (Nat.le_of_ble_eq_true rfl)⟩ ⟨(by show cells + 1 + 0 ≤ 601024; omega), (by show slots + 6 + 0 ≤ 7293034; omega)⟩ dL_law_1150 (fun _ _ h => h.elim) (fun v Y2 hp => ?_)
  obtain ⟨M2, hp, hR2, hq2⟩ := hp
  obtain ⟨hM2, rfl⟩ := hp
  obtain ⟨hk0, hzz, hcl⟩ := hU M2 _ ⟨hM2, rfl⟩
  have hst : stK M M2 j := by rw [hM2]; exact stK_cha hI
  obtain ⟨L2, Z2, hcx, hzm, hy2⟩ := hcl
  obtain ⟨hcx2, hga2⟩ := ref_aft hcx hR2 hq2
  obtain ⟨rr, hrr, er⟩ := iv_rng ((chaS M (q 1)).2)
  rw [← er]
  refine V_istore C dL_law_1153 (by decide) rfl ?_
  refine V_aload_n C dL_law_1155 rfl ?_
  refine V_callV C (As := []) (c_X10_thrown hl Y2 hcx2.1) kL_95 hcx2.1.1 rfl rfl (Nat.le_of_ble_eq_true rfl) ⟨(Nat.le_of_ble_eq_true rfl), (Nat.le_of_ble_eq_true rfl)⟩ ⟨(by show cells + 1 + 0 + 0 ≤ 601024; omega), (by show slots + 6 + 0 + 0 ≤ 7293034; omega)⟩ dL_law_1156 (fun _ _ h => h.elim) (fun v Y3 hp => ?_)
  obtain ⟨M3, ⟨hM3, rfl⟩, hR3, hq3⟩ := hp
  rw [hM3] at hR3
  obtain ⟨hcx3, hga3⟩ := ref_aft hcx2 hR3 hq3
  rw [hk0]
  refine V_iload C dL_law_1159 rfl ?_
  refine V_icmp_eq C dL_law_1161 (by omega) (by omega) (fun h1161 => ?_) (fun h1161 => ?_)
  · refine V_iload C dL_law_1166 rfl ?_
    refine V_if_ne C dL_law_1168 (by omega) (fun h1168 => ?_) (fun h1168 => ?_)
    · refine V_goto C dL_law_1183 ?_
      exact hend _ _ _ _ _ _ _ _ hcx3 hzm hst.1 hy2 (by have := hst.2.1; omega) (by have := hst.2.2; omega)
    · refine V_aload_n C dL_law_1171 rfl ?_
      refine V_iconst C dL_law_1172 ?_
      obtain ⟨zz, hz, ez, hga⟩ := hzz (by omega)
      obtain rfl : rr = zz := iv_inj hrr hz (er.trans ez.symm)
      have hao := hcx3.ao
      have hga4 : gA Y3 ao 0 = rr := (hga3.trans hga2).trans hga
      refine V_lald C (j := 0) (n := 1) hao.1 hao.2 (by decide) (by decide) rfl dL_law_1173 ?_
      rw [hga4]
      refine V_iload C dL_law_1174 rfl ?_
      refine V_i2l C dL_law_1176 hrr ?_
      refine V_lcmp C dL_law_1177 (by first | omega | decide) (by first | omega | decide) ?_
      rw [lc0]
      refine V_if_eq C dL_law_1178 (by decide) (fun h1178 => ?_) (fun h1178 => ?_)
      · refine V_goto C dL_law_1183 ?_
        exact hend _ _ _ _ _ _ _ _ hcx3 hzm hst.1 hy2 (by have := hst.2.1; omega) (by have := hst.2.2; omega)
      · exact absurd rfl h1178
  · exact absurd rfl h1161
set_option maxHeartbeats 2000000 in
set_option maxRecDepth 20000 in
theorem lc_power {nm : String} (C : Cx p l s m args meth c D kA b t0 7 RL nm cL_law) (hl : l.stackTraces = false) (hX : va_X sb Ls xs s s.heap) (hb1 : sb < s.heap.size) (hb2 : sb < b) (hL6 : 6 * j + 6 ≤ Ls) (hL : Ls ≤ 3072) (h : CX t0 ao mo ad L X Z M) (hZ : ZM Z M) (hI : Iv M j) (hq : Lsc xs j q) (hc : cells + budC M ≤ 400 + 26 * j) (hs : slots + budS M ≤ 2440000 + 4402 * j) (hend : LEnd p l e s m args below meth c D kA b Q t0 ao mo ad sb L j) : V p l e room_1 s m args below meth c D kA b 7 cells slots Q X 1186 [some (rv (some sb)), some (rv (some (lA L 11 0))), some (rv (some mo)), some (rv (some ao)), some (iv (6 * (j : Int))), u5, u6] [] := by
  have hKy := (yd_C h hZ.1).1
  have hn : ((yC Z 6 : Nat) : Int) = M.1 30 := hZ.1.1.2.2.2.2.2.1
  refine V_aload_n C dL_law_1186 rfl ?_
  refine V_aload_n C dL_law_1187 rfl ?_
  refine V_iload C dL_law_1188 rfl ?_
  refine V_iconst C dL_law_1190 ?_
  refine V_iadd C dL_law_1191 ?_
  refine V_sld C (j := 6 * j + 1) hX hb1 hb2 (by omega) hL (by omega) (hq 1 (by decide)).2 dL_law_1192 ?_
  refine V_aload_n C dL_law_1193 rfl ?_
  refine V_callSH C (As := [_, _, _]) (c_L_power hl h hZ hI (hq 1 (by decide)).1) sL_power rfl rfl (Nat.le_of_ble_eq_true rfl) ⟨(Nat.le_of_ble_eq_true rfl), (Nat.le_of_ble_eq_true rfl)⟩ ⟨(by show cells + 1 ≤ 601024; omega), (by show slots + 6 ≤ 7293034; omega)⟩ dL_law_1194 (fun _ _ h => h.elim) (fun v Y hp => ?_)
  obtain ⟨hRR, k, rfl, hk, hU⟩ := hp
  refine V_istore C dL_law_1197 (by decide) rfl ?_
  refine V_aload_n C dL_law_1199 rfl ?_
  refine V_aload_n C dL_law_1200 rfl ?_
  refine V_iload C dL_law_1201 rfl ?_
  refine V_iconst C dL_law_1203 ?_
  refine V_iadd C dL_law_1204 ?_
  refine V_sld C (j := 6 * j + 1) hX hb1 hb2 (by omega) hL (by omega) (hq 1 (by decide)).2 dL_law_1205 ?_
  refine V_callV C (As := [_]) ((c_X10_power hl (hq 1 (by decide)).1 hI.1 hn) Y hRR) kL_145 hRR.1 rfl rfl (Nat.le_of_ble_eq_true rfl) ⟨(Nat.le_of_ble_eq_true rfl), (Nat.le_of_ble_eq_true rfl)⟩ ⟨(by show cells + 1 + 0 ≤ 601024; omega), (by show slots + 6 + 0 ≤ 7293034; omega)⟩ dL_law_1206 (fun _ _ h => h.elim) (fun v Y2 hp => ?_)
  obtain ⟨M2, hp, hR2, hq2⟩ := hp
  obtain ⟨hM2, rfl⟩ := hp
  obtain ⟨hk0, hzz, hcl⟩ := hU M2 _ ⟨hM2, rfl⟩
  have hst : stK M M2 j := by rw [hM2]; exact stK_pow hI
  obtain ⟨L2, Z2, hcx, hzm, hy2⟩ := hcl
  obtain ⟨hcx2, hga2⟩ := ref_aft hcx hR2 hq2
  obtain ⟨rr, hrr, er⟩ := iv_rng ((powS M (yC Z 6) (q 1)).2)
  rw [← er]
  refine V_istore C dL_law_1209 (by decide) rfl ?_
  refine V_aload_n C dL_law_1211 rfl ?_
  refine V_callV C (As := []) (c_X10_thrown hl Y2 hcx2.1) kL_95 hcx2.1.1 rfl rfl (Nat.le_of_ble_eq_true rfl) ⟨(Nat.le_of_ble_eq_true rfl), (Nat.le_of_ble_eq_true rfl)⟩ ⟨(by show cells + 1 + 0 + 0 ≤ 601024; omega), (by show slots + 6 + 0 + 0 ≤ 7293034; omega)⟩ dL_law_1212 (fun _ _ h => h.elim) (fun v Y3 hp => ?_)
  obtain ⟨M3, ⟨hM3, rfl⟩, hR3, hq3⟩ := hp
  rw [hM3] at hR3
  obtain ⟨hcx3, hga3⟩ := ref_aft hcx2 hR3 hq3
  rw [hk0]
  refine V_iload C dL_law_1215 rfl ?_
  refine V_icmp_eq C dL_law_1217 (by omega) (by omega) (fun h1217 => ?_) (fun h1217 => ?_)
  · refine V_iload C dL_law_1222 rfl ?_
    refine V_if_ne C dL_law_1224 (by omega) (fun h1224 => ?_) (fun h1224 => ?_)
    · refine V_goto C dL_law_1239 ?_
      exact hend _ _ _ _ _ _ _ _ hcx3 hzm hst.1 hy2 (by have := hst.2.1; omega) (by have := hst.2.2; omega)
    · refine V_aload_n C dL_law_1227 rfl ?_
      refine V_iconst C dL_law_1228 ?_
      obtain ⟨zz, hz, ez, hga⟩ := hzz (by omega)
      obtain rfl : rr = zz := iv_inj hrr hz (er.trans ez.symm)
      have hao := hcx3.ao
      have hga4 : gA Y3 ao 0 = rr := (hga3.trans hga2).trans hga
      refine V_lald C (j := 0) (n := 1) hao.1 hao.2 (by decide) (by decide) rfl dL_law_1229 ?_
      rw [hga4]
      refine V_iload C dL_law_1230 rfl ?_
      refine V_i2l C dL_law_1232 hrr ?_
      refine V_lcmp C dL_law_1233 (by first | omega | decide) (by first | omega | decide) ?_
      rw [lc0]
      refine V_if_eq C dL_law_1234 (by decide) (fun h1234 => ?_) (fun h1234 => ?_)
      · refine V_goto C dL_law_1239 ?_
        exact hend _ _ _ _ _ _ _ _ hcx3 hzm hst.1 hy2 (by have := hst.2.1; omega) (by have := hst.2.2; omega)
      · exact absurd rfl h1234
  · exact absurd rfl h1217
set_option maxHeartbeats 2000000 in
set_option maxRecDepth 20000 in
theorem lc_powerAnew {nm : String} (C : Cx p l s m args meth c D kA b t0 7 RL nm cL_law) (hl : l.stackTraces = false) (hX : va_X sb Ls xs s s.heap) (hb1 : sb < s.heap.size) (hb2 : sb < b) (hL6 : 6 * j + 6 ≤ Ls) (hL : Ls ≤ 3072) (h : CX t0 ao mo ad L X Z M) (hZ : ZM Z M) (hI : Iv M j) (hq : Lsc xs j q) (hc : cells + budC M ≤ 400 + 26 * j) (hs : slots + budS M ≤ 2440000 + 4402 * j) (hend : LEnd p l e s m args below meth c D kA b Q t0 ao mo ad sb L j) : V p l e room_1 s m args below meth c D kA b 7 cells slots Q X 1242 [some (rv (some sb)), some (rv (some (lA L 11 0))), some (rv (some mo)), some (rv (some ao)), some (iv (6 * (j : Int))), u5, u6] [] := by
  have hKy := (yd_C h hZ.1).1
  have hn : ((yC Z 6 : Nat) : Int) = M.1 30 := hZ.1.1.2.2.2.2.2.1
  refine V_aload_n C dL_law_1242 rfl ?_
  refine V_aload_n C dL_law_1243 rfl ?_
  refine V_iload C dL_law_1244 rfl ?_
  refine V_iconst C dL_law_1246 ?_
  refine V_iadd C dL_law_1247 ?_
  refine V_sld C (j := 6 * j + 1) hX hb1 hb2 (by omega) hL (by omega) (hq 1 (by decide)).2 dL_law_1248 ?_
  refine V_aload_n C dL_law_1249 rfl ?_
  refine V_callSH C (As := [_, _, _]) (c_L_powerAnew hl h hZ hI (hq 1 (by decide)).1) sL_powerAnew rfl rfl (Nat.le_of_ble_eq_true rfl) ⟨(Nat.le_of_ble_eq_true rfl), (Nat.le_of_ble_eq_true rfl)⟩ ⟨(by show cells + 1 ≤ 601024; omega), (by show slots + 6 ≤ 7293034; omega)⟩ dL_law_1250 (fun _ _ h => h.elim) (fun v Y hp => ?_)
  obtain ⟨hRR, k, rfl, hk, hU⟩ := hp
  refine V_istore C dL_law_1253 (by decide) rfl ?_
  refine V_aload_n C dL_law_1255 rfl ?_
  refine V_aload_n C dL_law_1256 rfl ?_
  refine V_iload C dL_law_1257 rfl ?_
  refine V_iconst C dL_law_1259 ?_
  refine V_iadd C dL_law_1260 ?_
  refine V_sld C (j := 6 * j + 1) hX hb1 hb2 (by omega) hL (by omega) (hq 1 (by decide)).2 dL_law_1261 ?_
  refine V_callV C (As := [_]) ((c_X10_powerAnew hl (hq 1 (by decide)).1 hI.1 hn) Y hRR) kL_148 hRR.1 rfl rfl (Nat.le_of_ble_eq_true rfl) ⟨(Nat.le_of_ble_eq_true rfl), (Nat.le_of_ble_eq_true rfl)⟩ ⟨(by show cells + 1 + 0 ≤ 601024; omega), (by show slots + 6 + 0 ≤ 7293034; omega)⟩ dL_law_1262 (fun _ _ h => h.elim) (fun v Y2 hp => ?_)
  obtain ⟨M2, hp, hR2, hq2⟩ := hp
  obtain ⟨hM2, rfl⟩ := hp
  obtain ⟨hk0, hzz, hcl⟩ := hU M2 _ ⟨hM2, rfl⟩
  have hst : stK M M2 j := by rw [hM2]; exact stK_pow hI
  obtain ⟨L2, Z2, hcx, hzm, hy2⟩ := hcl
  obtain ⟨hcx2, hga2⟩ := ref_aft hcx hR2 hq2
  obtain ⟨rr, hrr, er⟩ := iv_rng ((powS M (yC Z 6) (q 1)).2)
  rw [← er]
  refine V_istore C dL_law_1265 (by decide) rfl ?_
  refine V_aload_n C dL_law_1267 rfl ?_
  refine V_callV C (As := []) (c_X10_thrown hl Y2 hcx2.1) kL_95 hcx2.1.1 rfl rfl (Nat.le_of_ble_eq_true rfl) ⟨(Nat.le_of_ble_eq_true rfl), (Nat.le_of_ble_eq_true rfl)⟩ ⟨(by show cells + 1 + 0 + 0 ≤ 601024; omega), (by show slots + 6 + 0 + 0 ≤ 7293034; omega)⟩ dL_law_1268 (fun _ _ h => h.elim) (fun v Y3 hp => ?_)
  obtain ⟨M3, ⟨hM3, rfl⟩, hR3, hq3⟩ := hp
  rw [hM3] at hR3
  obtain ⟨hcx3, hga3⟩ := ref_aft hcx2 hR3 hq3
  rw [hk0]
  refine V_iload C dL_law_1271 rfl ?_
  refine V_icmp_eq C dL_law_1273 (by omega) (by omega) (fun h1273 => ?_) (fun h1273 => ?_)
  · refine V_iload C dL_law_1278 rfl ?_
    refine V_if_ne C dL_law_1280 (by omega) (fun h1280 => ?_) (fun h1280 => ?_)
    · refine V_goto C dL_law_1295 ?_
      exact hend _ _ _ _ _ _ _ _ hcx3 hzm hst.1 hy2 (by have := hst.2.1; omega) (by have := hst.2.2; omega)
    · refine V_aload_n C dL_law_1283 rfl ?_
      refine V_iconst C dL_law_1284 ?_
      obtain ⟨zz, hz, ez, hga⟩ := hzz (by omega)
      obtain rfl : rr = zz := iv_inj hrr hz (er.trans ez.symm)
      have hao := hcx3.ao
      have hga4 : gA Y3 ao 0 = rr := (hga3.trans hga2).trans hga
      refine V_lald C (j := 0) (n := 1) hao.1 hao.2 (by decide) (by decide) rfl dL_law_1285 ?_
      rw [hga4]
      refine V_iload C dL_law_1286 rfl ?_
      refine V_i2l C dL_law_1288 hrr ?_
      refine V_lcmp C dL_law_1289 (by first | omega | decide) (by first | omega | decide) ?_
      rw [lc0]
      refine V_if_eq C dL_law_1290 (by decide) (fun h1290 => ?_) (fun h1290 => ?_)
      · refine V_goto C dL_law_1295 ?_
        exact hend _ _ _ _ _ _ _ _ hcx3 hzm hst.1 hy2 (by have := hst.2.1; omega) (by have := hst.2.2; omega)
      · exact absurd rfl h1290
  · exact absurd rfl h1273
set_option maxHeartbeats 2000000 in
set_option maxRecDepth 20000 in
theorem lc_overloads {nm : String} (C : Cx p l s m args meth c D kA b t0 7 RL nm cL_law) (hl : l.stackTraces = false) (hX : va_X sb Ls xs s s.heap) (hb1 : sb < s.heap.size) (hb2 : sb < b) (hL6 : 6 * j + 6 ≤ Ls) (hL : Ls ≤ 3072) (h : CX t0 ao mo ad L X Z M) (hZ : ZM Z M) (hI : Iv M j) (hq : Lsc xs j q) (hc : cells + budC M ≤ 400 + 26 * j) (hs : slots + budS M ≤ 2440000 + 4402 * j) (hend : LEnd p l e s m args below meth c D kA b Q t0 ao mo ad sb L j) : V p l e room_1 s m args below meth c D kA b 7 cells slots Q X 1298 [some (rv (some sb)), some (rv (some (lA L 11 0))), some (rv (some mo)), some (rv (some ao)), some (iv (6 * (j : Int))), u5, u6] [] := by
  have hKy := (yd_C h hZ.1).1
  have hn : ((yC Z 6 : Nat) : Int) = M.1 30 := hZ.1.1.2.2.2.2.2.1
  refine V_aload_n C dL_law_1298 rfl ?_
  refine V_callV C (As := []) (c_X9_overloads hl h hZ hI) kL_149 hKy rfl rfl (Nat.le_of_ble_eq_true rfl) ⟨(Nat.le_of_ble_eq_true rfl), (Nat.le_of_ble_eq_true rfl)⟩ ⟨(by show cells + 0 ≤ 601024; omega), (by show slots + 0 ≤ 7293034; omega)⟩ dL_law_1299 (fun _ _ h => h.elim) (fun v Y hp => ?_)
  obtain ⟨h9, rfl, hcl⟩ := hp
  have hRR := clR_rr hcl
  have o0 := hI.1.1
  unfold okSc at o0
  refine V_aload_n C dL_law_1302 rfl ?_
  refine V_callV C (As := []) ((c_X10_overloads hl) Y hRR) kL_152 hRR.1 rfl rfl (Nat.le_of_ble_eq_true rfl) ⟨(Nat.le_of_ble_eq_true rfl), (Nat.le_of_ble_eq_true rfl)⟩ ⟨(by show cells + 0 + 0 ≤ 601024; omega), (by show slots + 0 + 0 ≤ 7293034; omega)⟩ dL_law_1303 (fun _ _ h => h.elim) (fun v Y2 hp => ?_)
  obtain ⟨M2, hp, hR2, hq2⟩ := hp
  obtain ⟨hM2, rfl⟩ := hp
  rw [hM2] at hR2
  obtain ⟨L2, Z2, hcx, hzm, hy2⟩ := hcl
  obtain ⟨hcx2, hga2⟩ := ref_aft hcx hR2 hq2
  have hst := stK_0 hI
  refine V_icmp_eq C dL_law_1306 (by omega) (by omega) (fun h1306 => ?_) (fun h1306 => ?_)
  · exact hend _ _ _ _ _ _ _ _ hcx2 hzm hst.1 hy2 (by have := hst.2.1; omega) (by have := hst.2.2; omega)
  · exact absurd rfl h1306
set_option maxHeartbeats 2000000 in
set_option maxRecDepth 20000 in
theorem lc_bill {nm : String} (C : Cx p l s m args meth c D kA b t0 7 RL nm cL_law) (hl : l.stackTraces = false) (hX : va_X sb Ls xs s s.heap) (hb1 : sb < s.heap.size) (hb2 : sb < b) (hL6 : 6 * j + 6 ≤ Ls) (hL : Ls ≤ 3072) (h : CX t0 ao mo ad L X Z M) (hZ : ZM Z M) (hI : Iv M j) (hq : Lsc xs j q) (hc : cells + budC M ≤ 400 + 26 * j) (hs : slots + budS M ≤ 2440000 + 4402 * j) (hend : LEnd p l e s m args below meth c D kA b Q t0 ao mo ad sb L j) : V p l e room_1 s m args below meth c D kA b 7 cells slots Q X 1311 [some (rv (some sb)), some (rv (some (lA L 11 0))), some (rv (some mo)), some (rv (some ao)), some (iv (6 * (j : Int))), u5, u6] [] := by
  have hKy := (yd_C h hZ.1).1
  have hn : ((yC Z 6 : Nat) : Int) = M.1 30 := hZ.1.1.2.2.2.2.2.1
  refine V_aload_n C dL_law_1311 rfl ?_
  refine V_aload_n C dL_law_1312 rfl ?_
  refine V_iload C dL_law_1313 rfl ?_
  refine V_iconst C dL_law_1315 ?_
  refine V_iadd C dL_law_1316 ?_
  refine V_sld C (j := 6 * j + 1) hX hb1 hb2 (by omega) hL (by omega) (hq 1 (by decide)).2 dL_law_1317 ?_
  refine V_aload_n C dL_law_1318 rfl ?_
  refine V_callSH C (As := [_, _, _]) (c_L_bill hl h hZ hI (hq 1 (by decide)).1) sL_bill rfl rfl (Nat.le_of_ble_eq_true rfl) ⟨(Nat.le_of_ble_eq_true rfl), (Nat.le_of_ble_eq_true rfl)⟩ ⟨(by show cells + 1 ≤ 601024; omega), (by show slots + 6 ≤ 7293034; omega)⟩ dL_law_1319 (fun _ _ h => h.elim) (fun v Y hp => ?_)
  obtain ⟨hRR, k, rfl, hk, hU⟩ := hp
  refine V_istore C dL_law_1322 (by decide) rfl ?_
  refine V_aload_n C dL_law_1324 rfl ?_
  refine V_aload_n C dL_law_1325 rfl ?_
  refine V_iload C dL_law_1326 rfl ?_
  refine V_iconst C dL_law_1328 ?_
  refine V_iadd C dL_law_1329 ?_
  refine V_sld C (j := 6 * j + 1) hX hb1 hb2 (by omega) hL (by omega) (hq 1 (by decide)).2 dL_law_1330 ?_
  refine V_callV C (As := [_]) ((c_X10_bill hl (hq 1 (by decide)).1 hI.1) Y hRR) kL_155 hRR.1 rfl rfl (Nat.le_of_ble_eq_true rfl) ⟨(Nat.le_of_ble_eq_true rfl), (Nat.le_of_ble_eq_true rfl)⟩ ⟨(by show cells + 1 + 0 ≤ 601024; omega), (by show slots + 6 + 0 ≤ 7293034; omega)⟩ dL_law_1331 (fun _ _ h => h.elim) (fun v Y2 hp => ?_)
  obtain ⟨M2, hp, hR2, hq2⟩ := hp
  obtain ⟨hM2, rfl⟩ := hp
  obtain ⟨hk0, hzz, hcl⟩ := hU M2 _ ⟨hM2, rfl⟩
  have hst : stK M M2 j := by rw [hM2]; exact stK_bil hI
  obtain ⟨L2, Z2, hcx, hzm, hy2⟩ := hcl
  obtain ⟨hcx2, hga2⟩ := ref_aft hcx hR2 hq2
  obtain ⟨rr, hrr, er⟩ := iv_rng ((bilS M (q 1)).2)
  rw [← er]
  refine V_istore C dL_law_1334 (by decide) rfl ?_
  refine V_aload_n C dL_law_1336 rfl ?_
  refine V_callV C (As := []) (c_X10_thrown hl Y2 hcx2.1) kL_95 hcx2.1.1 rfl rfl (Nat.le_of_ble_eq_true rfl) ⟨(Nat.le_of_ble_eq_true rfl), (Nat.le_of_ble_eq_true rfl)⟩ ⟨(by show cells + 1 + 0 + 0 ≤ 601024; omega), (by show slots + 6 + 0 + 0 ≤ 7293034; omega)⟩ dL_law_1337 (fun _ _ h => h.elim) (fun v Y3 hp => ?_)
  obtain ⟨M3, ⟨hM3, rfl⟩, hR3, hq3⟩ := hp
  rw [hM3] at hR3
  obtain ⟨hcx3, hga3⟩ := ref_aft hcx2 hR3 hq3
  rw [hk0]
  refine V_iload C dL_law_1340 rfl ?_
  refine V_icmp_eq C dL_law_1342 (by omega) (by omega) (fun h1342 => ?_) (fun h1342 => ?_)
  · refine V_iload C dL_law_1347 rfl ?_
    refine V_if_ne C dL_law_1349 (by omega) (fun h1349 => ?_) (fun h1349 => ?_)
    · refine V_goto C dL_law_1364 ?_
      exact hend _ _ _ _ _ _ _ _ hcx3 hzm hst.1 hy2 (by have := hst.2.1; omega) (by have := hst.2.2; omega)
    · refine V_aload_n C dL_law_1352 rfl ?_
      refine V_iconst C dL_law_1353 ?_
      obtain ⟨zz, hz, ez, hga⟩ := hzz (by omega)
      obtain rfl : rr = zz := iv_inj hrr hz (er.trans ez.symm)
      have hao := hcx3.ao
      have hga4 : gA Y3 ao 0 = rr := (hga3.trans hga2).trans hga
      refine V_lald C (j := 0) (n := 1) hao.1 hao.2 (by decide) (by decide) rfl dL_law_1354 ?_
      rw [hga4]
      refine V_iload C dL_law_1355 rfl ?_
      refine V_i2l C dL_law_1357 hrr ?_
      refine V_lcmp C dL_law_1358 (by first | omega | decide) (by first | omega | decide) ?_
      rw [lc0]
      refine V_if_eq C dL_law_1359 (by decide) (fun h1359 => ?_) (fun h1359 => ?_)
      · refine V_goto C dL_law_1364 ?_
        exact hend _ _ _ _ _ _ _ _ hcx3 hzm hst.1 hy2 (by have := hst.2.1; omega) (by have := hst.2.2; omega)
      · exact absurd rfl h1359
  · exact absurd rfl h1342
set_option maxHeartbeats 2000000 in
set_option maxRecDepth 20000 in
theorem lc_billAnew {nm : String} (C : Cx p l s m args meth c D kA b t0 7 RL nm cL_law) (hl : l.stackTraces = false) (hX : va_X sb Ls xs s s.heap) (hb1 : sb < s.heap.size) (hb2 : sb < b) (hL6 : 6 * j + 6 ≤ Ls) (hL : Ls ≤ 3072) (h : CX t0 ao mo ad L X Z M) (hZ : ZM Z M) (hI : Iv M j) (hq : Lsc xs j q) (hc : cells + budC M ≤ 400 + 26 * j) (hs : slots + budS M ≤ 2440000 + 4402 * j) (hend : LEnd p l e s m args below meth c D kA b Q t0 ao mo ad sb L j) : V p l e room_1 s m args below meth c D kA b 7 cells slots Q X 1367 [some (rv (some sb)), some (rv (some (lA L 11 0))), some (rv (some mo)), some (rv (some ao)), some (iv (6 * (j : Int))), u5, u6] [] := by
  have hKy := (yd_C h hZ.1).1
  have hn : ((yC Z 6 : Nat) : Int) = M.1 30 := hZ.1.1.2.2.2.2.2.1
  refine V_aload_n C dL_law_1367 rfl ?_
  refine V_aload_n C dL_law_1368 rfl ?_
  refine V_iload C dL_law_1369 rfl ?_
  refine V_iconst C dL_law_1371 ?_
  refine V_iadd C dL_law_1372 ?_
  refine V_sld C (j := 6 * j + 1) hX hb1 hb2 (by omega) hL (by omega) (hq 1 (by decide)).2 dL_law_1373 ?_
  refine V_aload_n C dL_law_1374 rfl ?_
  refine V_callSH C (As := [_, _, _]) (c_L_billAnew hl h hZ hI (hq 1 (by decide)).1) sL_billAnew rfl rfl (Nat.le_of_ble_eq_true rfl) ⟨(Nat.le_of_ble_eq_true rfl), (Nat.le_of_ble_eq_true rfl)⟩ ⟨(by show cells + 2 ≤ 601024; omega), (by show slots + 10 ≤ 7293034; omega)⟩ dL_law_1375 (fun _ _ h => h.elim) (fun v Y hp => ?_)
  obtain ⟨hRR, k, rfl, hk, hU⟩ := hp
  refine V_istore C dL_law_1378 (by decide) rfl ?_
  refine V_aload_n C dL_law_1380 rfl ?_
  refine V_aload_n C dL_law_1381 rfl ?_
  refine V_iload C dL_law_1382 rfl ?_
  refine V_iconst C dL_law_1384 ?_
  refine V_iadd C dL_law_1385 ?_
  refine V_sld C (j := 6 * j + 1) hX hb1 hb2 (by omega) hL (by omega) (hq 1 (by decide)).2 dL_law_1386 ?_
  refine V_callV C (As := [_]) ((c_X10_billAnew hl (hq 1 (by decide)).1 hI.1) Y hRR) kL_158 hRR.1 rfl rfl (Nat.le_of_ble_eq_true rfl) ⟨(Nat.le_of_ble_eq_true rfl), (Nat.le_of_ble_eq_true rfl)⟩ ⟨(by show cells + 2 + 0 ≤ 601024; omega), (by show slots + 10 + 0 ≤ 7293034; omega)⟩ dL_law_1387 (fun _ _ h => h.elim) (fun v Y2 hp => ?_)
  obtain ⟨M2, hp, hR2, hq2⟩ := hp
  obtain ⟨hM2, rfl⟩ := hp
  obtain ⟨hk0, hzz, hcl⟩ := hU M2 _ ⟨hM2, rfl⟩
  have hst : stK M M2 j := by rw [hM2]; exact stK_bia hI
  obtain ⟨L2, Z2, hcx, hzm, hy2⟩ := hcl
  obtain ⟨hcx2, hga2⟩ := ref_aft hcx hR2 hq2
  obtain ⟨rr, hrr, er⟩ := iv_rng ((bilA M (q 1)).2)
  rw [← er]
  refine V_istore C dL_law_1390 (by decide) rfl ?_
  refine V_aload_n C dL_law_1392 rfl ?_
  refine V_callV C (As := []) (c_X10_thrown hl Y2 hcx2.1) kL_95 hcx2.1.1 rfl rfl (Nat.le_of_ble_eq_true rfl) ⟨(Nat.le_of_ble_eq_true rfl), (Nat.le_of_ble_eq_true rfl)⟩ ⟨(by show cells + 2 + 0 + 0 ≤ 601024; omega), (by show slots + 10 + 0 + 0 ≤ 7293034; omega)⟩ dL_law_1393 (fun _ _ h => h.elim) (fun v Y3 hp => ?_)
  obtain ⟨M3, ⟨hM3, rfl⟩, hR3, hq3⟩ := hp
  rw [hM3] at hR3
  obtain ⟨hcx3, hga3⟩ := ref_aft hcx2 hR3 hq3
  rw [hk0]
  refine V_iload C dL_law_1396 rfl ?_
  refine V_icmp_eq C dL_law_1398 (by omega) (by omega) (fun h1398 => ?_) (fun h1398 => ?_)
  · refine V_iload C dL_law_1403 rfl ?_
    refine V_if_ne C dL_law_1405 (by omega) (fun h1405 => ?_) (fun h1405 => ?_)
    · refine V_goto C dL_law_1420 ?_
      exact hend _ _ _ _ _ _ _ _ hcx3 hzm hst.1 hy2 (by have := hst.2.1; omega) (by have := hst.2.2; omega)
    · refine V_aload_n C dL_law_1408 rfl ?_
      refine V_iconst C dL_law_1409 ?_
      obtain ⟨zz, hz, ez, hga⟩ := hzz (by omega)
      obtain rfl : rr = zz := iv_inj hrr hz (er.trans ez.symm)
      have hao := hcx3.ao
      have hga4 : gA Y3 ao 0 = rr := (hga3.trans hga2).trans hga
      refine V_lald C (j := 0) (n := 1) hao.1 hao.2 (by decide) (by decide) rfl dL_law_1410 ?_
      rw [hga4]
      refine V_iload C dL_law_1411 rfl ?_
      refine V_i2l C dL_law_1413 hrr ?_
      refine V_lcmp C dL_law_1414 (by first | omega | decide) (by first | omega | decide) ?_
      rw [lc0]
      refine V_if_eq C dL_law_1415 (by decide) (fun h1415 => ?_) (fun h1415 => ?_)
      · refine V_goto C dL_law_1420 ?_
        exact hend _ _ _ _ _ _ _ _ hcx3 hzm hst.1 hy2 (by have := hst.2.1; omega) (by have := hst.2.2; omega)
      · exact absurd rfl h1415
  · exact absurd rfl h1398
end LC3
