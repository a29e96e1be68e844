/-! the law: the yard is laid out -/
section LBEG
variable {p : Program} {l : Launch} {e : Env} {s : State} {m : MethodId} {args : Array Value} {below : List Frame} {meth : Method} {c : Code}
variable {D : va_G} {kA : Nat → ClassId} {b t0 sb y : Nat} {ad : Nat → Nat} {Q : State → Prop} {nm : String} {X : Mm} {Mr M : Mo} {Ls : Nat} {xs : Nat → Int32} {c1 s1 : Nat} {u7 u8 u9 u10 u11 u12 u13 u14 u15 u16 u17 u18 u19 : Option Value}

set_option maxHeartbeats 2000000 in
set_option maxRecDepth 20000 in
theorem l_b1 (C : Cx p l s m args meth c D kA b t0 20 RL nm cL_law) (hl : l.stackTraces = false) (hX : va_X sb Ls xs s s.heap) (hb1 : sb < s.heap.size) (hb2 : sb < b) (hL : Ls ≤ 260) (hS : SX t0 ad y X Mr M) (hin : IN M Mr 0 0 0) (hz : ∀ q, q ≠ 0 → ∀ i, Mr.2 q i = 0) (hcB : c1 ≤ 1000) (hsB : s1 ≤ 100000) (hend : ∀ (Y : Mm) (M2 Mr2 : Mo) (v7 v8 v9 : Option Value) (c2 s2 : Nat), SX t0 ad y Y Mr2 M2 → IN M2 Mr2 0 4 4 → (∀ q, q ≠ 0 → ∀ i, Mr2.2 q i = 0) → c2 ≤ c1 + 64 → s2 ≤ s1 + 16800 → V p l e room_1 s m args below meth c D kA b 20 (c2) (s2) (Q) Y (139) ([some (rv (some sb)), some (rv (some y)), some (rv (some (ad 0))), some (rv (some (ad 1))), some (rv (some (ad 2))), some (rv (some (ad 3))), some (rv (some (ad 4))), v7, v8, v9, u10, u11, u12, u13, u14, u15, u16, u17, u18, u19]) ([])) : V p l e room_1 s m args below meth c D kA b 20 (c1) (s1) (Q) X (36) ([some (rv (some sb)), some (rv (some y)), some (rv (some (ad 0))), some (rv (some (ad 1))), some (rv (some (ad 2))), some (rv (some (ad 3))), some (rv (some (ad 4))), some (iv ((0 : Nat) : Int)), u8, u9, u10, u11, u12, u13, u14, u15, u16, u17, u18, u19]) ([]) := by
  refine V_while C (St := Nat × Mm × Mo × Mo × Nat × Nat × Option Value × Option Value) (f := fun z => z.2.1) (g := fun z => [some (rv (some sb)), some (rv (some y)), some (rv (some (ad 0))), some (rv (some (ad 1))), some (rv (some (ad 2))), some (rv (some (ad 3))), some (rv (some (ad 4))), some (iv (z.1 : Int)), z.2.2.2.2.2.2.1, z.2.2.2.2.2.2.2, u10, u11, u12, u13, u14, u15, u16, u17, u18, u19]) (cs := fun z => z.2.2.2.2.1) (ss := fun z => z.2.2.2.2.2.1) (μ := fun z => 5 - z.1) (I := fun z => z.1 ≤ 4 ∧ SX t0 ad y z.2.1 z.2.2.2.1 z.2.2.1 ∧ IN z.2.2.1 z.2.2.2.1 0 z.1 z.1 ∧ (∀ q, q ≠ 0 → ∀ i, z.2.2.2.1.2 q i = 0) ∧ z.2.2.2.2.1 ≤ c1 + 16 * z.1 ∧ z.2.2.2.2.2.1 ≤ s1 + 4200 * z.1) (x0 := (0, X, M, Mr, c1, s1, u8, u9)) rfl rfl rfl rfl ⟨Nat.zero_le _, hS, hin, hz, by show c1 ≤ c1 + 16 * 0; omega, by show s1 ≤ s1 + 4200 * 0; omega⟩ ?_
  rintro ⟨k, Xk, Mk, Mrk, ck, sk, w8, w9⟩ ⟨hk, hSk, hik, hzk, hck, hsk⟩ ih
  dsimp only at hk hSk hik hzk hck hsk ih ⊢
  refine V_iload C dL_law_36 rfl ?_
  refine V_iconst C dL_law_38 ?_
  refine V_icmp_ge C dL_law_39 (by omega) (by omega) (fun h39 => ?_) (fun h39 => ?_)
  · have ek : k = 4 := by omega
    rw [ek] at hik
    exact hend _ _ _ _ _ _ _ _ hSk hik hzk (by omega) (by omega)
  obtain ⟨⟨i6, i13, i17, i30, i1, i2⟩, r22, r12, r10, r15, bd1, bd2⟩ := id hik
  refine V_aload_n C dL_law_42 rfl ?_
  refine V_iload C dL_law_43 rfl ?_
  refine V_cell C hl hX hb1 hb2 hL (k := k) (by omega) (rfl) (Nat.le_of_ble_eq_true rfl) ⟨(Nat.le_of_ble_eq_true rfl), (Nat.le_of_ble_eq_true rfl)⟩ ⟨(by show _ ≤ 600086; omega), (by show _ ≤ 7301442; omega)⟩ dL_law_45 (fun z45 hz45 => ?_)
  refine V_ldc C dL_law_48 qL_17 ?_
  refine V_iandX C dL_law_50 (fun x50 hx50 => ?_)
  refine V_istore C dL_law_51 (by decide) rfl ?_
  refine V_sipush C dL_law_53 (by decide) ?_
  refine V_iload C dL_law_56 rfl ?_
  refine V_ldc C dL_law_58 qL_18 ?_
  refine V_at C hl (by omega) (Nat.le_of_ble_eq_true rfl) ⟨(Nat.le_of_ble_eq_true rfl), (Nat.le_of_ble_eq_true rfl)⟩ ⟨(by show _ ≤ 600086; omega), (by show _ ≤ 7301442; omega)⟩ dL_law_60 (fun z60 hz60 => ?_)
  refine V_iadd C dL_law_63 ?_
  refine V_istore C dL_law_64 (by decide) rfl ?_
  refine V_aload_n C dL_law_66 rfl ?_
  refine V_iload C dL_law_67 rfl ?_
  refine V_iload C dL_law_69 rfl ?_
  refine V_iconst C dL_law_71 ?_
  refine V_ishrX C dL_law_72 (fun x72 hx72 => ?_)
  refine V_iload C dL_law_73 rfl ?_
  refine V_at C hl (by omega) (Nat.le_of_ble_eq_true rfl) ⟨(Nat.le_of_ble_eq_true rfl), (Nat.le_of_ble_eq_true rfl)⟩ ⟨(by show _ ≤ 600086; omega), (by show _ ≤ 7301442; omega)⟩ dL_law_75 (fun z75 hz75 => ?_)
  refine V_iast C (j := k) hSk.a0.1 hSk.a0.2.1 (show k < 4 by omega) (Nat.le_of_ble_eq_true rfl) (rfl) dL_law_78 ?_
  have hS78 := hSk.put 0 (k) ((z75 : Int)) (by decide)
  refine V_aload_n C dL_law_79 rfl ?_
  refine V_iload C dL_law_80 rfl ?_
  refine V_aload_n C dL_law_82 rfl ?_
  refine V_iload C dL_law_83 rfl ?_
  refine V_ialdx C hS78.a0.1 hS78.a0.2.1 (show k < 4 by omega) (Nat.le_of_ble_eq_true rfl) (rfl) (x := (z75 : Int)) ((hS78.a0.2.2 k).trans (if_pos rfl)) dL_law_85 ?_
  refine V_sipush C dL_law_86 (by decide) ?_
  refine V_iload C dL_law_89 rfl ?_
  refine V_bipush C dL_law_91 (by decide) ?_
  refine V_ishrX C dL_law_93 (fun x93 hx93 => ?_)
  refine V_sipush C dL_law_94 (by decide) ?_
  refine V_at C hl (by omega) (Nat.le_of_ble_eq_true rfl) ⟨(Nat.le_of_ble_eq_true rfl), (Nat.le_of_ble_eq_true rfl)⟩ ⟨(by show _ ≤ 600086; omega), (by show _ ≤ 7301442; omega)⟩ dL_law_97 (fun z97 hz97 => ?_)
  refine V_iadd C dL_law_100 ?_
  have hsv : (setA Mrk 0 (k) ((z75 : Int))).2 0 k = (z75 : Int) := if_pos rfl
  refine V_callV C (As := [_, _, _]) (q_car hl hS78 (c := (2000 + (z60 : Int))) (h9 := (z75 : Int)) (w := (500 + (z97 : Int))) (by omega) (by omega) (by omega) (by omega)) kL_23 hS78.ky rfl rfl (Nat.le_of_ble_eq_true rfl) ⟨(Nat.le_of_ble_eq_true rfl), (Nat.le_of_ble_eq_true rfl)⟩ ⟨(by show _ ≤ 600086; omega), (by show _ ≤ 7301442; omega)⟩ dL_law_101 (fun _ _ h => h.elim) (fun v101 Y101 hp => ?_)
  obtain ⟨rfl, hS101⟩ := hp
  refine V_iload C dL_law_104 rfl ?_
  refine V_icmp_ne C dL_law_106 (by omega) (by omega) (fun h106 => absurd h106 (by omega)) (fun h106 => ?_)
  refine V_aload_n C dL_law_109 rfl ?_
  refine V_iload C dL_law_110 rfl ?_
  refine V_iconst C dL_law_112 ?_
  refine V_iremN C dL_law_113 (by omega) (by omega) (by omega) (by omega) ?_
  refine V_iload C dL_law_114 rfl ?_
  refine V_bipush C dL_law_116 (by decide) ?_
  refine V_ishrX C dL_law_118 (fun x118 hx118 => ?_)
  refine V_iconst C dL_law_119 ?_
  refine V_at C hl (by omega) (Nat.le_of_ble_eq_true rfl) ⟨(Nat.le_of_ble_eq_true rfl), (Nat.le_of_ble_eq_true rfl)⟩ ⟨(by show _ ≤ 600086; omega), (by show _ ≤ 7301442; omega)⟩ dL_law_120 (fun z120 hz120 => ?_)
  refine V_callV C (As := [_, _]) (q_card hl hS101 (f := ((k : Int) % 3)) (w := (z120 : Int)) (by omega) (by omega) (by show Mk.1 17 < 12; omega)) kL_27 hS101.ky rfl rfl (Nat.le_of_ble_eq_true rfl) ⟨(Nat.le_of_ble_eq_true rfl), (Nat.le_of_ble_eq_true rfl)⟩ ⟨(by show _ ≤ 600086; omega), (by show _ ≤ 7301442; omega)⟩ dL_law_123 (fun _ _ h => h.elim) (fun v123 Y123 hp => ?_)
  obtain ⟨rfl, hS123⟩ := hp
  rw [show (setS (setA (setA (setA (setS Mk 0 0) 14 (Mk.1 13).toNat (2000 + (z60 : Int))) 15 (Mk.1 13).toNat (z75 : Int)) 16 (Mk.1 13).toNat (500 + (z97 : Int))) 13 (Mk.1 13 + 1)).1 17 = Mk.1 17 from rfl]
  refine V_iload C dL_law_126 rfl ?_
  refine V_icmp_eq C dL_law_128 (by omega) (by omega) (fun h128 => ?_) (fun h128 => absurd h128 (by omega))
  refine V_iinc C dL_law_133 (by decide) rfl rfl ?_
  refine V_goto C dL_law_136 ?_
  obtain ⟨M3, eM3⟩ : ∃ M3, M3 = (setS (setA (setA (setA (setS (setS (setA (setA (setA (setS Mk 0 0) 14 (Mk.1 13).toNat (2000 + (z60 : Int))) 15 (Mk.1 13).toNat (z75 : Int)) 16 (Mk.1 13).toNat (500 + (z97 : Int))) 13 (Mk.1 13 + 1)) 0 0) 18 ((setS (setA (setA (setA (setS Mk 0 0) 14 (Mk.1 13).toNat (2000 + (z60 : Int))) 15 (Mk.1 13).toNat (z75 : Int)) 16 (Mk.1 13).toNat (500 + (z97 : Int))) 13 (Mk.1 13 + 1)).1 17).toNat ((k : Int) % 3)) 19 ((setS (setA (setA (setA (setS Mk 0 0) 14 (Mk.1 13).toNat (2000 + (z60 : Int))) 15 (Mk.1 13).toNat (z75 : Int)) 16 (Mk.1 13).toNat (500 + (z97 : Int))) 13 (Mk.1 13 + 1)).1 17).toNat (z120 : Int)) 20 ((setS (setA (setA (setA (setS Mk 0 0) 14 (Mk.1 13).toNat (2000 + (z60 : Int))) 15 (Mk.1 13).toNat (z75 : Int)) 16 (Mk.1 13).toNat (500 + (z97 : Int))) 13 (Mk.1 13 + 1)).1 17).toNat 1) 17 ((setS (setA (setA (setA (setS Mk 0 0) 14 (Mk.1 13).toNat (2000 + (z60 : Int))) 15 (Mk.1 13).toNat (z75 : Int)) 16 (Mk.1 13).toNat (500 + (z97 : Int))) 13 (Mk.1 13 + 1)).1 17 + 1)) := ⟨_, rfl⟩
  rw [← eM3] at hS123
  have b9 : budC M3 = budC Mk ∧ budS M3 = budS Mk := by
    rw [eM3]
    exact bud_eq rfl (fun _ => rfl)
  have hi3 : IN M3 (setA Mrk 0 (k) ((z75 : Int))) 0 (k + 1) (k + 1) := by
    subst eM3
    refine ⟨⟨i6, ?_, ?_, i30, i1, i2⟩, r22, r12, r10, fun q hq => ?_, b9.1.trans bd1, b9.2.trans bd2⟩
    · show Mk.1 13 + 1 = ((k + 1 : Nat) : Int)
      omega
    · show Mk.1 17 + 1 = ((k + 1 : Nat) : Int)
      omega
    · show (if q = (Mk.1 13).toNat then (z75 : Int) else Mk.2 15 q) = (if q = k then (z75 : Int) else Mrk.2 0 q)
      rw [show (Mk.1 13).toNat = k by omega]
      by_cases e : q = k
      · rw [if_pos e, if_pos e]
      · rw [if_neg e, if_neg e]
        exact r15 q (by omega)
  refine (fun h9 => ?_) (ih (k + 1, Y123, M3, (setA Mrk 0 (k) ((z75 : Int))), ck + 8 + 8, sk + 2100 + 2100, (some (iv x50)), (some (iv (2000 + (z60 : Int))))) ⟨by show k + 1 ≤ 4; omega, hS123, hi3, fun q hq i => ?_, by show ck + 8 + 8 ≤ c1 + 16 * (k + 1); omega, by show sk + 2100 + 2100 ≤ s1 + 4200 * (k + 1); omega⟩ (by show 5 - (k + 1) < 5 - k; omega))
  · dsimp only at h9
    rw [show ((k + 1 : Nat) : Int) = (k : Int) + 1 by omega] at h9
    exact h9
  · exact (if_neg hq).trans (hzk q hq i)
set_option maxHeartbeats 2000000 in
set_option maxRecDepth 20000 in
theorem l_b2 (C : Cx p l s m args meth c D kA b t0 20 RL nm cL_law) (hl : l.stackTraces = false) (hX : va_X sb Ls xs s s.heap) (hb1 : sb < s.heap.size) (hb2 : sb < b) (hL : Ls ≤ 260) (hS : SX t0 ad y X Mr M) (hin : IN M Mr 0 4 4) (hz : ∀ i, Mr.2 4 i = 0) (hcB : c1 ≤ 1000) (hsB : s1 ≤ 100000) (hend : ∀ (Y : Mm) (M2 Mr2 : Mo) (v7 : Option Value) (c2 s2 : Nat), SX t0 ad y Y Mr2 M2 → IN M2 Mr2 3 4 4 → (∀ i, i < 3 → Mr2.2 3 i = -1) → (∀ i, Mr2.2 4 i = 0) → c2 ≤ c1 + 48 → s2 ≤ s1 + 6420 → V p l e room_1 s m args below meth c D kA b 20 (c2) (s2) (Q) Y (211) ([some (rv (some sb)), some (rv (some y)), some (rv (some (ad 0))), some (rv (some (ad 1))), some (rv (some (ad 2))), some (rv (some (ad 3))), some (rv (some (ad 4))), v7, u8, u9, u10, u11, u12, u13, u14, u15, u16, u17, u18, u19]) ([])) : V p l e room_1 s m args below meth c D kA b 20 (c1) (s1) (Q) X (142) ([some (rv (some sb)), some (rv (some y)), some (rv (some (ad 0))), some (rv (some (ad 1))), some (rv (some (ad 2))), some (rv (some (ad 3))), some (rv (some (ad 4))), some (iv ((0 : Nat) : Int)), u8, u9, u10, u11, u12, u13, u14, u15, u16, u17, u18, u19]) ([]) := by
  refine V_while C (St := Nat × Mm × Mo × Mo × Nat × Nat) (f := fun z => z.2.1) (g := fun z => [some (rv (some sb)), some (rv (some y)), some (rv (some (ad 0))), some (rv (some (ad 1))), some (rv (some (ad 2))), some (rv (some (ad 3))), some (rv (some (ad 4))), some (iv (z.1 : Int)), u8, u9, u10, u11, u12, u13, u14, u15, u16, u17, u18, u19]) (cs := fun z => z.2.2.2.2.1) (ss := fun z => z.2.2.2.2.2) (μ := fun z => 4 - z.1) (I := fun z => z.1 ≤ 3 ∧ SX t0 ad y z.2.1 z.2.2.2.1 z.2.2.1 ∧ IN z.2.2.1 z.2.2.2.1 z.1 4 4 ∧ (∀ i, i < z.1 → z.2.2.2.1.2 3 i = -1) ∧ (∀ i, z.2.2.2.1.2 4 i = 0) ∧ z.2.2.2.2.1 ≤ c1 + 16 * z.1 ∧ z.2.2.2.2.2 ≤ s1 + 2140 * z.1) (x0 := (0, X, M, Mr, c1, s1)) rfl rfl rfl rfl ⟨Nat.zero_le _, hS, hin, fun i hi => absurd hi (Nat.not_lt_zero i), hz, by show c1 ≤ c1 + 16 * 0; omega, by show s1 ≤ s1 + 2140 * 0; omega⟩ ?_
  rintro ⟨k, Xk, Mk, Mrk, ck, sk⟩ ⟨hk, hSk, hik, h3k, h4k, hck, hsk⟩ ih
  dsimp only at hk hSk hik h3k h4k hck hsk ih ⊢
  refine V_iload C dL_law_142 rfl ?_
  refine V_iconst C dL_law_144 ?_
  refine V_icmp_ge C dL_law_145 (by omega) (by omega) (fun h145 => ?_) (fun h145 => ?_)
  · have ek : k = 3 := by omega
    rw [ek] at hik h3k
    exact hend _ _ _ _ _ _ hSk hik h3k h4k (by omega) (by omega)
  obtain ⟨⟨i6, i13, i17, i30, i1, i2⟩, r22, r12, r10, r15, bd1, bd2⟩ := id hik
  refine V_aload C dL_law_148 rfl ?_
  refine V_iload C dL_law_150 rfl ?_
  refine V_iconst C dL_law_152 ?_
  refine V_iast C (j := k) hSk.a3.1 hSk.a3.2.1 (show k < 3 by omega) (Nat.le_of_ble_eq_true rfl) (rfl) dL_law_153 ?_
  have hS153 := hSk.put 3 (k) ((-1)) (by decide)
  refine V_aload_n C dL_law_154 rfl ?_
  refine V_iload C dL_law_155 rfl ?_
  refine V_sipush C dL_law_157 (by decide) ?_
  refine V_aload_n C dL_law_160 rfl ?_
  refine V_iconst C dL_law_161 ?_
  refine V_iload C dL_law_162 rfl ?_
  refine V_iadd C dL_law_164 ?_
  refine V_cell C hl hX hb1 hb2 hL (k := 4 + k) (by omega) (by omega) (Nat.le_of_ble_eq_true rfl) ⟨(Nat.le_of_ble_eq_true rfl), (Nat.le_of_ble_eq_true rfl)⟩ ⟨(by show _ ≤ 600086; omega), (by show _ ≤ 7301442; omega)⟩ dL_law_165 (fun z165 hz165 => ?_)
  refine V_ldc C dL_law_168 qL_17 ?_
  refine V_iandX C dL_law_170 (fun x170 hx170 => ?_)
  refine V_sipush C dL_law_171 (by decide) ?_
  refine V_at C hl (by omega) (Nat.le_of_ble_eq_true rfl) ⟨(Nat.le_of_ble_eq_true rfl), (Nat.le_of_ble_eq_true rfl)⟩ ⟨(by show _ ≤ 600086; omega), (by show _ ≤ 7301442; omega)⟩ dL_law_174 (fun z174 hz174 => ?_)
  refine V_iadd C dL_law_177 ?_
  refine V_callV C (As := [_, _]) (q_socket hl hS153 (f := (k : Int)) (w := (1400 + (z174 : Int))) (by omega) (by omega) (by omega)) kL_30 hS153.ky rfl rfl (Nat.le_of_ble_eq_true rfl) ⟨(Nat.le_of_ble_eq_true rfl), (Nat.le_of_ble_eq_true rfl)⟩ ⟨(by show _ ≤ 600086; omega), (by show _ ≤ 7301442; omega)⟩ dL_law_178 (fun _ _ h => h.elim) (fun v178 Y178 hp => ?_)
  obtain ⟨rfl, hS178⟩ := hp
  refine V_iload C dL_law_181 rfl ?_
  refine V_icmp_eq C dL_law_183 (by omega) (by omega) (fun h183 => ?_) (fun h183 => absurd h183 (by omega))
  refine V_aload_n C dL_law_188 rfl ?_
  refine V_iload C dL_law_189 rfl ?_
  refine V_bipush C dL_law_191 (by decide) ?_
  refine V_iload C dL_law_193 rfl ?_
  refine V_imul C dL_law_195 ?_
  refine V_bipush C dL_law_196 (by decide) ?_
  refine V_bipush C dL_law_198 (by decide) ?_
  refine V_bipush C dL_law_200 (by decide) ?_
  refine V_callV C (As := [_, _, _, _, _]) (q_tariff hl hS178 (f := k) (s := (100 * (k : Int))) (d := 40) (g := 30) (i := 7) (by omega) (by omega) (by omega) (by omega) (by omega)) kL_33 hS178.ky rfl rfl (Nat.le_of_ble_eq_true rfl) ⟨(Nat.le_of_ble_eq_true rfl), (Nat.le_of_ble_eq_true rfl)⟩ ⟨(by show _ ≤ 600086; omega), (by show _ ≤ 7301442; omega)⟩ dL_law_202 (fun _ _ h => h.elim) (fun v202 Y202 hp => ?_)
  obtain ⟨rfl, hS202⟩ := hp
  refine V_iinc C dL_law_205 (by decide) rfl rfl ?_
  refine V_goto C dL_law_208 ?_
  obtain ⟨M3, eM3⟩ : ∃ M3, M3 = (setA (setA (setA (setA (setS (setS (setA (setA (setS Mk 0 0) 7 (Mk.1 6).toNat (k : Int)) 8 (Mk.1 6).toNat (1400 + (z174 : Int))) 6 (Mk.1 6 + 1)) 0 0) 23 (4 * k) (100 * (k : Int))) 23 (4 * k + 1) 40) 23 (4 * k + 2) 30) 23 (4 * k + 3) 7) := ⟨_, rfl⟩
  rw [← eM3] at hS202
  have b9 : budC M3 = budC Mk ∧ budS M3 = budS Mk := by
    rw [eM3]
    exact bud_eq rfl (fun _ => rfl)
  have hi3 : IN M3 (setA Mrk 3 (k) ((-1))) (k + 1) 4 4 := by
    subst eM3
    refine ⟨⟨?_, i13, i17, i30, i1, i2⟩, r22, r12, r10, r15, b9.1.trans bd1, b9.2.trans bd2⟩
    show Mk.1 6 + 1 = ((k + 1 : Nat) : Int)
    omega
  refine (fun h9 => ?_) (ih (k + 1, Y202, M3, (setA Mrk 3 (k) ((-1))), ck + 8 + 8, sk + 2100 + 40) ⟨by show k + 1 ≤ 3; omega, hS202, hi3, fun i hi => ?_, fun i => h4k i, by show ck + 8 + 8 ≤ c1 + 16 * (k + 1); omega, by show sk + 2100 + 40 ≤ s1 + 2140 * (k + 1); omega⟩ (by show 4 - (k + 1) < 4 - k; omega))
  · dsimp only at h9
    rw [show ((k + 1 : Nat) : Int) = (k : Int) + 1 by omega] at h9
    exact h9
  · show (if i = k then (-1 : Int) else Mrk.2 3 i) = -1
    by_cases e : i = k
    · rw [if_pos e]
    · rw [if_neg e]
      have hi2 : i < k + 1 := hi
      exact h3k i (by omega)
end LBEG
