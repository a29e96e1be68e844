/-! the law: what it looks at behind each turn, sessions and bills -/
def boS (M : Mo) (k : Nat) : Int := sumF (fun j => if M.2 34 j = 3 then M.2 46 j else 0) k
section LACT6
variable {p : Program} {l : Launch} {e : Env} {s : State} {m : MethodId} {args : Array Value} {below : List Frame} {meth : Method} {c : Code}
variable {D : va_G} {kA : Nat → ClassId} {b t0 sb y : Nat} {ad : Nat → Nat} {Q : State → Prop} {nm : String} {X : Mm} {Mr M : Mo} {n turn : Nat} {now ed nb x : Int} {a i w o : Nat} {u16 u17 u18 u19 : Option Value} {c1 s1 cB sB : Nat}

set_option maxHeartbeats 2000000 in
set_option maxRecDepth 20000 in
theorem l_c2_10 (C : Cx p l s m args meth c D kA b t0 20 RL nm cL_law) (hl : l.stackTraces = false) (hT : TS t0 ad y X Mr M n now ed nb) {k : Nat} (hk : k < n) (e34 : M.2 34 k = 1) (hd : ∀ q : Nat, M.2 31 k = (q : Int) → M.2 10 q = 0) (hcB : c1 ≤ 201000) (hsB : s1 ≤ 6010000) (hend : ∀ (Y : Mm) (v18 v19 : Option Value) (c2 s2 : Nat), SX t0 ad y Y Mr M → c2 ≤ c1 + 21 → s2 ≤ s1 + 124 → V p l e room_1 s m args below meth c D kA b 20 (c2) (s2) (Q) Y (914) ([some (rv (some sb)), some (rv (some y)), some (rv (some (ad 0))), some (rv (some (ad 1))), some (rv (some (ad 2))), some (rv (some (ad 3))), some (rv (some (ad 4))), some (iv (n : Int)), some (iv now), some (iv ed), some (iv (turn : Int)), some (iv x), some (iv (a : Int)), some (iv (i : Int)), some (iv (w : Int)), some (iv (o : Int)), some (iv (boS M (k + 1))), some (iv ((k : Int) + 1)), v18, v19]) ([])) : V p l e room_1 s m args below meth c D kA b 20 (c1) (s1) (Q) X (921) ([some (rv (some sb)), some (rv (some y)), some (rv (some (ad 0))), some (rv (some (ad 1))), some (rv (some (ad 2))), some (rv (some (ad 3))), some (rv (some (ad 4))), some (iv (n : Int)), some (iv now), some (iv ed), some (iv (turn : Int)), some (iv x), some (iv (a : Int)), some (iv (i : Int)), some (iv (w : Int)), some (iv (o : Int)), some (iv (boS M k)), some (iv (k : Int)), u18, u19]) ([]) := by
  obtain ⟨hS, hJ, hn36, hcs, hgd, ⟨hnow, hnn⟩, hed, hed0⟩ := id hT
  obtain ⟨jj, hI⟩ := hS.iv
  have o0 := hI.1.1
  unfold okSc at o0
  obtain ⟨c6, c13, c17, c30⟩ := hJ.1
  have hk30 : (k : Int) < M.1 30 := by omega
  obtain ⟨⟨i2, hi2, f31, fon, f38, f10, f12⟩, f32, -, fv, f2, f3, f46, fp⟩ := ts_se hI hJ hk
  have e10 : M.2 10 i2 = 0 := (hd i2 f31)
  have v4 := (of_4 hk30).trans e34
  refine V_aload C dL_law_921 rfl ?_
  refine V_aload C dL_law_923 rfl ?_
  refine V_iload C dL_law_925 rfl ?_
  refine V_ialdx C hS.a2.1 hS.a2.2.1 (show k < 40 by omega) (Nat.le_of_ble_eq_true rfl) (rfl) (x := (i2 : Int)) ((hS.a2.2.2 k).trans (((hcs k hk).2).trans f31)) dL_law_927 ?_
  refine V_ialdx C hS.a3.1 hS.a3.2.1 (show i2 < 3 by omega) (Nat.le_of_ble_eq_true rfl) (rfl) (x := (k : Int)) ((hS.a3.2.2 i2).trans (((hgd i2 hi2).1).trans (fon.mp e34))) dL_law_928 ?_
  refine V_iload C dL_law_929 rfl ?_
  refine V_icmp_ne C dL_law_931 (by omega) (by omega) (fun h931 => absurd h931 (by omega)) (fun h931 => ?_)
  refine V_iconst C dL_law_934 ?_
  refine V_goto C dL_law_935 ?_
  refine V_istore C dL_law_939 (by decide) rfl ?_
  refine V_aload_n C dL_law_941 rfl ?_
  refine V_iload C dL_law_942 rfl ?_
  refine V_iconst C dL_law_944 ?_
  refine V_callV C (As := [_, _]) (q_of hl hS (k := k) hk30 (by decide) (v4)) kL_44 hS.ky rfl rfl (Nat.le_of_ble_eq_true rfl) ⟨(Nat.le_of_ble_eq_true rfl), (Nat.le_of_ble_eq_true rfl)⟩ ⟨(by show _ ≤ 600086; omega), (by show _ ≤ 7301442; omega)⟩ dL_law_945 (fun _ _ h => h.elim) (fun v945 Y945 hp => ?_)
  obtain ⟨rfl, hS945⟩ := hp
  refine V_istore C dL_law_948 (by decide) rfl ?_
  refine V_iload C dL_law_950 rfl ?_
  refine V_iload C dL_law_952 rfl ?_
  refine V_iconst C dL_law_954 ?_
  refine V_icmp_ne C dL_law_955 (by omega) (by omega) (fun h955 => absurd h955 (by omega)) (fun h955 => ?_)
  refine V_iconst C dL_law_958 ?_
  refine V_goto C dL_law_959 ?_
  refine V_icmp_ne C dL_law_963 (by omega) (by omega) (fun h963 => absurd h963 (by omega)) (fun h963 => ?_)
  refine V_aload_n C dL_law_966 rfl ?_
  refine V_iload C dL_law_967 rfl ?_
  refine V_iconst C dL_law_969 ?_
  refine V_callV C (As := [_, _]) (q_of hl hS945 (k := k) hk30 (by decide) (of_3 hk30)) kL_44 hS945.ky rfl rfl (Nat.le_of_ble_eq_true rfl) ⟨(Nat.le_of_ble_eq_true rfl), (Nat.le_of_ble_eq_true rfl)⟩ ⟨(by show _ ≤ 600086; omega), (by show _ ≤ 7301442; omega)⟩ dL_law_970 (fun _ _ h => h.elim) (fun v970 Y970 hp => ?_)
  obtain ⟨rfl, hS970⟩ := hp
  refine V_aload_n C dL_law_973 rfl ?_
  refine V_iload C dL_law_974 rfl ?_
  refine V_iconst C dL_law_976 ?_
  refine V_callV C (As := [_, _]) (q_of hl hS970 (k := k) hk30 (by decide) (of_2 hk30)) kL_44 hS970.ky rfl rfl (Nat.le_of_ble_eq_true rfl) ⟨(Nat.le_of_ble_eq_true rfl), (Nat.le_of_ble_eq_true rfl)⟩ ⟨(by show _ ≤ 600086; omega), (by show _ ≤ 7301442; omega)⟩ dL_law_977 (fun _ _ h => h.elim) (fun v977 Y977 hp => ?_)
  obtain ⟨rfl, hS977⟩ := hp
  refine V_icmp_gt C dL_law_980 (by omega) (by omega) (fun h980 => absurd h980 (by omega)) (fun h980 => ?_)
  refine V_aload C dL_law_983 rfl ?_
  refine V_aload C dL_law_985 rfl ?_
  refine V_iload C dL_law_987 rfl ?_
  refine V_ialdx C hS977.a2.1 hS977.a2.2.1 (show k < 40 by omega) (Nat.le_of_ble_eq_true rfl) (rfl) (x := (i2 : Int)) ((hS977.a2.2.2 k).trans (((hcs k hk).2).trans f31)) dL_law_989 ?_
  refine V_ialdx C hS977.a4.1 hS977.a4.2.1 (show i2 < 3 by omega) (Nat.le_of_ble_eq_true rfl) (rfl) (x := 0) ((hS977.a4.2.2 i2).trans (((hgd i2 hi2).2).trans e10)) dL_law_990 ?_
  refine V_if_ne C dL_law_991 (by omega) (fun h991 => absurd h991 (by omega)) (fun h991 => ?_)
  refine V_aload_n C dL_law_994 rfl ?_
  refine V_iload C dL_law_995 rfl ?_
  refine V_iconst C dL_law_997 ?_
  refine V_callV C (As := [_, _]) (q_of hl hS977 (k := k) hk30 (by decide) (of_3 hk30)) kL_44 hS977.ky rfl rfl (Nat.le_of_ble_eq_true rfl) ⟨(Nat.le_of_ble_eq_true rfl), (Nat.le_of_ble_eq_true rfl)⟩ ⟨(by show _ ≤ 600086; omega), (by show _ ≤ 7301442; omega)⟩ dL_law_998 (fun _ _ h => h.elim) (fun v998 Y998 hp => ?_)
  obtain ⟨rfl, hS998⟩ := hp
  refine V_aload_n C dL_law_1001 rfl ?_
  refine V_iload C dL_law_1002 rfl ?_
  refine V_iconst C dL_law_1004 ?_
  refine V_callV C (As := [_, _]) (q_of hl hS998 (k := k) hk30 (by decide) (of_2 hk30)) kL_44 hS998.ky rfl rfl (Nat.le_of_ble_eq_true rfl) ⟨(Nat.le_of_ble_eq_true rfl), (Nat.le_of_ble_eq_true rfl)⟩ ⟨(by show _ ≤ 600086; omega), (by show _ ≤ 7301442; omega)⟩ dL_law_1005 (fun _ _ h => h.elim) (fun v1005 Y1005 hp => ?_)
  obtain ⟨rfl, hS1005⟩ := hp
  refine V_icmp_eq C dL_law_1008 (by omega) (by omega) (fun h1008 => ?_) (fun h1008 => absurd h1008 (fun z => z (f38 e10)))
  refine V_iload C dL_law_1013 rfl ?_
  refine V_iconst C dL_law_1015 ?_
  refine V_icmp_ne C dL_law_1016 (by omega) (by omega) (fun h1016 => ?_) (fun h1016 => absurd h1016 (by omega))
  refine V_iload C dL_law_1038 rfl ?_
  refine V_iconst C dL_law_1040 ?_
  refine V_icmp_ne C dL_law_1041 (by omega) (by omega) (fun h1041 => ?_) (fun h1041 => absurd h1041 (by omega))
  refine V_aload_n C dL_law_1061 rfl ?_
  refine V_iload C dL_law_1062 rfl ?_
  refine V_callV C (As := [_]) (q_power hl hS1005 (n := n) (k := k) c30.symm hk) kL_77 hS1005.ky rfl rfl (Nat.le_of_ble_eq_true rfl) ⟨(Nat.le_of_ble_eq_true rfl), (Nat.le_of_ble_eq_true rfl)⟩ ⟨(by show _ ≤ 600086; omega), (by show _ ≤ 7301442; omega)⟩ dL_law_1064 (fun _ _ h => h.elim) (fun v1064 Y1064 hp => ?_)
  obtain ⟨rfl, hS1064⟩ := hp
  refine V_aload_n C dL_law_1067 rfl ?_
  refine V_iload C dL_law_1068 rfl ?_
  refine V_callV C (As := [_]) (q_powerAnew hl hS1064 (n := n) (k := k) c30.symm hk) kL_80 hS1064.ky rfl rfl (Nat.le_of_ble_eq_true rfl) ⟨(Nat.le_of_ble_eq_true rfl), (Nat.le_of_ble_eq_true rfl)⟩ ⟨(by show _ ≤ 600086; omega), (by show _ ≤ 7301442; omega)⟩ dL_law_1070 (fun _ _ h => h.elim) (fun v1070 Y1070 hp => ?_)
  obtain ⟨rfl, hS1070⟩ := hp
  refine V_icmp_ne C dL_law_1073 (by omega) (by omega) (fun h1073 => absurd h1073 (by omega)) (fun h1073 => ?_)
  refine V_iload C dL_law_1076 rfl ?_
  refine V_if_ne C dL_law_1078 (by omega) (fun h1078 => ?_) (fun h1078 => absurd h1078 (by omega))
  refine V_iload C dL_law_1092 rfl ?_
  refine V_iconst C dL_law_1094 ?_
  refine V_icmp_ne C dL_law_1095 (by omega) (by omega) (fun h1095 => ?_) (fun h1095 => absurd h1095 (by omega))
  refine V_iinc C dL_law_1109 (by decide) rfl rfl ?_
  refine V_goto C dL_law_1112 ?_
  have e16 : boS M (k + 1) = boS M k + 0 := by
    show boS M k + (if M.2 34 k = 3 then M.2 46 k else 0) = _
    rw [if_neg (show ¬ M.2 34 k = 3 by omega)]
  have h9 := hend Y1070 (some (iv 1)) (some (iv 1)) (c1 + 2 + 2 + 2 + 2 + 2 + 1 + 1) (s1 + 12 + 12 + 12 + 12 + 12 + 6 + 6) hS1070 (by omega) (by omega)
  rw [e16, Int.add_zero] at h9
  exact h9
set_option maxHeartbeats 2000000 in
set_option maxRecDepth 20000 in
theorem l_c2_11 (C : Cx p l s m args meth c D kA b t0 20 RL nm cL_law) (hl : l.stackTraces = false) (hT : TS t0 ad y X Mr M n now ed nb) {k : Nat} (hk : k < n) (e34 : M.2 34 k = 1) (hd : ∀ q : Nat, M.2 31 k = (q : Int) → M.2 10 q = 1) (hcB : c1 ≤ 201000) (hsB : s1 ≤ 6010000) (hend : ∀ (Y : Mm) (v18 v19 : Option Value) (c2 s2 : Nat), SX t0 ad y Y Mr M → c2 ≤ c1 + 21 → s2 ≤ s1 + 124 → V p l e room_1 s m args below meth c D kA b 20 (c2) (s2) (Q) Y (914) ([some (rv (some sb)), some (rv (some y)), some (rv (some (ad 0))), some (rv (some (ad 1))), some (rv (some (ad 2))), some (rv (some (ad 3))), some (rv (some (ad 4))), some (iv (n : Int)), some (iv now), some (iv ed), some (iv (turn : Int)), some (iv x), some (iv (a : Int)), some (iv (i : Int)), some (iv (w : Int)), some (iv (o : Int)), some (iv (boS M (k + 1))), some (iv ((k : Int) + 1)), v18, v19]) ([])) : V p l e room_1 s m args below meth c D kA b 20 (c1) (s1) (Q) X (921) ([some (rv (some sb)), some (rv (some y)), some (rv (some (ad 0))), some (rv (some (ad 1))), some (rv (some (ad 2))), some (rv (some (ad 3))), some (rv (some (ad 4))), some (iv (n : Int)), some (iv now), some (iv ed), some (iv (turn : Int)), some (iv x), some (iv (a : Int)), some (iv (i : Int)), some (iv (w : Int)), some (iv (o : Int)), some (iv (boS M k)), some (iv (k : Int)), u18, u19]) ([]) := by
  obtain ⟨hS, hJ, hn36, hcs, hgd, ⟨hnow, hnn⟩, hed, hed0⟩ := id hT
  obtain ⟨jj, hI⟩ := hS.iv
  have o0 := hI.1.1
  unfold okSc at o0
  obtain ⟨c6, c13, c17, c30⟩ := hJ.1
  have hk30 : (k : Int) < M.1 30 := by omega
  obtain ⟨⟨i2, hi2, f31, fon, f38, f10, f12⟩, f32, -, fv, f2, f3, f46, fp⟩ := ts_se hI hJ hk
  have e10 : M.2 10 i2 = 1 := (hd i2 f31)
  have v4 := (of_4 hk30).trans e34
  refine V_aload C dL_law_921 rfl ?_
  refine V_aload C dL_law_923 rfl ?_
  refine V_iload C dL_law_925 rfl ?_
  refine V_ialdx C hS.a2.1 hS.a2.2.1 (show k < 40 by omega) (Nat.le_of_ble_eq_true rfl) (rfl) (x := (i2 : Int)) ((hS.a2.2.2 k).trans (((hcs k hk).2).trans f31)) dL_law_927 ?_
  refine V_ialdx C hS.a3.1 hS.a3.2.1 (show i2 < 3 by omega) (Nat.le_of_ble_eq_true rfl) (rfl) (x := (k : Int)) ((hS.a3.2.2 i2).trans (((hgd i2 hi2).1).trans (fon.mp e34))) dL_law_928 ?_
  refine V_iload C dL_law_929 rfl ?_
  refine V_icmp_ne C dL_law_931 (by omega) (by omega) (fun h931 => absurd h931 (by omega)) (fun h931 => ?_)
  refine V_iconst C dL_law_934 ?_
  refine V_goto C dL_law_935 ?_
  refine V_istore C dL_law_939 (by decide) rfl ?_
  refine V_aload_n C dL_law_941 rfl ?_
  refine V_iload C dL_law_942 rfl ?_
  refine V_iconst C dL_law_944 ?_
  refine V_callV C (As := [_, _]) (q_of hl hS (k := k) hk30 (by decide) (v4)) kL_44 hS.ky rfl rfl (Nat.le_of_ble_eq_true rfl) ⟨(Nat.le_of_ble_eq_true rfl), (Nat.le_of_ble_eq_true rfl)⟩ ⟨(by show _ ≤ 600086; omega), (by show _ ≤ 7301442; omega)⟩ dL_law_945 (fun _ _ h => h.elim) (fun v945 Y945 hp => ?_)
  obtain ⟨rfl, hS945⟩ := hp
  refine V_istore C dL_law_948 (by decide) rfl ?_
  refine V_iload C dL_law_950 rfl ?_
  refine V_iload C dL_law_952 rfl ?_
  refine V_iconst C dL_law_954 ?_
  refine V_icmp_ne C dL_law_955 (by omega) (by omega) (fun h955 => absurd h955 (by omega)) (fun h955 => ?_)
  refine V_iconst C dL_law_958 ?_
  refine V_goto C dL_law_959 ?_
  refine V_icmp_ne C dL_law_963 (by omega) (by omega) (fun h963 => absurd h963 (by omega)) (fun h963 => ?_)
  refine V_aload_n C dL_law_966 rfl ?_
  refine V_iload C dL_law_967 rfl ?_
  refine V_iconst C dL_law_969 ?_
  refine V_callV C (As := [_, _]) (q_of hl hS945 (k := k) hk30 (by decide) (of_3 hk30)) kL_44 hS945.ky rfl rfl (Nat.le_of_ble_eq_true rfl) ⟨(Nat.le_of_ble_eq_true rfl), (Nat.le_of_ble_eq_true rfl)⟩ ⟨(by show _ ≤ 600086; omega), (by show _ ≤ 7301442; omega)⟩ dL_law_970 (fun _ _ h => h.elim) (fun v970 Y970 hp => ?_)
  obtain ⟨rfl, hS970⟩ := hp
  refine V_aload_n C dL_law_973 rfl ?_
  refine V_iload C dL_law_974 rfl ?_
  refine V_iconst C dL_law_976 ?_
  refine V_callV C (As := [_, _]) (q_of hl hS970 (k := k) hk30 (by decide) (of_2 hk30)) kL_44 hS970.ky rfl rfl (Nat.le_of_ble_eq_true rfl) ⟨(Nat.le_of_ble_eq_true rfl), (Nat.le_of_ble_eq_true rfl)⟩ ⟨(by show _ ≤ 600086; omega), (by show _ ≤ 7301442; omega)⟩ dL_law_977 (fun _ _ h => h.elim) (fun v977 Y977 hp => ?_)
  obtain ⟨rfl, hS977⟩ := hp
  refine V_icmp_gt C dL_law_980 (by omega) (by omega) (fun h980 => absurd h980 (by omega)) (fun h980 => ?_)
  refine V_aload C dL_law_983 rfl ?_
  refine V_aload C dL_law_985 rfl ?_
  refine V_iload C dL_law_987 rfl ?_
  refine V_ialdx C hS977.a2.1 hS977.a2.2.1 (show k < 40 by omega) (Nat.le_of_ble_eq_true rfl) (rfl) (x := (i2 : Int)) ((hS977.a2.2.2 k).trans (((hcs k hk).2).trans f31)) dL_law_989 ?_
  refine V_ialdx C hS977.a4.1 hS977.a4.2.1 (show i2 < 3 by omega) (Nat.le_of_ble_eq_true rfl) (rfl) (x := 1) ((hS977.a4.2.2 i2).trans (((hgd i2 hi2).2).trans e10)) dL_law_990 ?_
  refine V_if_ne C dL_law_991 (by omega) (fun h991 => ?_) (fun h991 => absurd h991 (by omega))
  refine V_iload C dL_law_1013 rfl ?_
  refine V_iconst C dL_law_1015 ?_
  refine V_icmp_ne C dL_law_1016 (by omega) (by omega) (fun h1016 => ?_) (fun h1016 => absurd h1016 (by omega))
  refine V_iload C dL_law_1038 rfl ?_
  refine V_iconst C dL_law_1040 ?_
  refine V_icmp_ne C dL_law_1041 (by omega) (by omega) (fun h1041 => ?_) (fun h1041 => absurd h1041 (by omega))
  refine V_aload_n C dL_law_1061 rfl ?_
  refine V_iload C dL_law_1062 rfl ?_
  refine V_callV C (As := [_]) (q_power hl hS977 (n := n) (k := k) c30.symm hk) kL_77 hS977.ky rfl rfl (Nat.le_of_ble_eq_true rfl) ⟨(Nat.le_of_ble_eq_true rfl), (Nat.le_of_ble_eq_true rfl)⟩ ⟨(by show _ ≤ 600086; omega), (by show _ ≤ 7301442; omega)⟩ dL_law_1064 (fun _ _ h => h.elim) (fun v1064 Y1064 hp => ?_)
  obtain ⟨rfl, hS1064⟩ := hp
  refine V_aload_n C dL_law_1067 rfl ?_
  refine V_iload C dL_law_1068 rfl ?_
  refine V_callV C (As := [_]) (q_powerAnew hl hS1064 (n := n) (k := k) c30.symm hk) kL_80 hS1064.ky rfl rfl (Nat.le_of_ble_eq_true rfl) ⟨(Nat.le_of_ble_eq_true rfl), (Nat.le_of_ble_eq_true rfl)⟩ ⟨(by show _ ≤ 600086; omega), (by show _ ≤ 7301442; omega)⟩ dL_law_1070 (fun _ _ h => h.elim) (fun v1070 Y1070 hp => ?_)
  obtain ⟨rfl, hS1070⟩ := hp
  refine V_icmp_ne C dL_law_1073 (by omega) (by omega) (fun h1073 => absurd h1073 (by omega)) (fun h1073 => ?_)
  refine V_iload C dL_law_1076 rfl ?_
  refine V_if_ne C dL_law_1078 (by omega) (fun h1078 => ?_) (fun h1078 => absurd h1078 (by omega))
  refine V_iload C dL_law_1092 rfl ?_
  refine V_iconst C dL_law_1094 ?_
  refine V_icmp_ne C dL_law_1095 (by omega) (by omega) (fun h1095 => ?_) (fun h1095 => absurd h1095 (by omega))
  refine V_iinc C dL_law_1109 (by decide) rfl rfl ?_
  refine V_goto C dL_law_1112 ?_
  have e16 : boS M (k + 1) = boS M k + 0 := by
    show boS M k + (if M.2 34 k = 3 then M.2 46 k else 0) = _
    rw [if_neg (show ¬ M.2 34 k = 3 by omega)]
  have h9 := hend Y1070 (some (iv 1)) (some (iv 1)) (c1 + 2 + 2 + 2 + 1 + 1) (s1 + 12 + 12 + 12 + 6 + 6) hS1070 (by omega) (by omega)
  rw [e16, Int.add_zero] at h9
  exact h9
set_option maxHeartbeats 2000000 in
set_option maxRecDepth 20000 in
theorem l_c2_20 (C : Cx p l s m args meth c D kA b t0 20 RL nm cL_law) (hl : l.stackTraces = false) (hT : TS t0 ad y X Mr M n now ed nb) {k : Nat} (hk : k < n) (e34 : M.2 34 k = 2) (hd : ∀ q : Nat, M.2 31 k = (q : Int) → M.2 10 q = 0) (hcB : c1 ≤ 201000) (hsB : s1 ≤ 6010000) (hend : ∀ (Y : Mm) (v18 v19 : Option Value) (c2 s2 : Nat), SX t0 ad y Y Mr M → c2 ≤ c1 + 21 → s2 ≤ s1 + 124 → V p l e room_1 s m args below meth c D kA b 20 (c2) (s2) (Q) Y (914) ([some (rv (some sb)), some (rv (some y)), some (rv (some (ad 0))), some (rv (some (ad 1))), some (rv (some (ad 2))), some (rv (some (ad 3))), some (rv (some (ad 4))), some (iv (n : Int)), some (iv now), some (iv ed), some (iv (turn : Int)), some (iv x), some (iv (a : Int)), some (iv (i : Int)), some (iv (w : Int)), some (iv (o : Int)), some (iv (boS M (k + 1))), some (iv ((k : Int) + 1)), v18, v19]) ([])) : V p l e room_1 s m args below meth c D kA b 20 (c1) (s1) (Q) X (921) ([some (rv (some sb)), some (rv (some y)), some (rv (some (ad 0))), some (rv (some (ad 1))), some (rv (some (ad 2))), some (rv (some (ad 3))), some (rv (some (ad 4))), some (iv (n : Int)), some (iv now), some (iv ed), some (iv (turn : Int)), some (iv x), some (iv (a : Int)), some (iv (i : Int)), some (iv (w : Int)), some (iv (o : Int)), some (iv (boS M k)), some (iv (k : Int)), u18, u19]) ([]) := by
  obtain ⟨hS, hJ, hn36, hcs, hgd, ⟨hnow, hnn⟩, hed, hed0⟩ := id hT
  obtain ⟨jj, hI⟩ := hS.iv
  have o0 := hI.1.1
  unfold okSc at o0
  obtain ⟨c6, c13, c17, c30⟩ := hJ.1
  have hk30 : (k : Int) < M.1 30 := by omega
  obtain ⟨⟨i2, hi2, f31, fon, f38, f10, f12⟩, f32, -, fv, f2, f3, f46, fp⟩ := ts_se hI hJ hk
  have e10 : M.2 10 i2 = 0 := (hd i2 f31)
  have v4 := (of_4 hk30).trans e34
  refine V_aload C dL_law_921 rfl ?_
  refine V_aload C dL_law_923 rfl ?_
  refine V_iload C dL_law_925 rfl ?_
  refine V_ialdx C hS.a2.1 hS.a2.2.1 (show k < 40 by omega) (Nat.le_of_ble_eq_true rfl) (rfl) (x := (i2 : Int)) ((hS.a2.2.2 k).trans (((hcs k hk).2).trans f31)) dL_law_927 ?_
  refine V_ialdx C hS.a3.1 hS.a3.2.1 (show i2 < 3 by omega) (Nat.le_of_ble_eq_true rfl) (rfl) (x := M.2 12 i2) ((hS.a3.2.2 i2).trans ((hgd i2 hi2).1)) dL_law_928 ?_
  refine V_iload C dL_law_929 rfl ?_
  refine V_icmp_ne C dL_law_931 (by omega) (by omega) (fun h931 => ?_) (fun h931 => absurd h931 (fun z => by have h5 := fon.mpr z; omega))
  refine V_iconst C dL_law_938 ?_
  refine V_istore C dL_law_939 (by decide) rfl ?_
  refine V_aload_n C dL_law_941 rfl ?_
  refine V_iload C dL_law_942 rfl ?_
  refine V_iconst C dL_law_944 ?_
  refine V_callV C (As := [_, _]) (q_of hl hS (k := k) hk30 (by decide) (v4)) kL_44 hS.ky rfl rfl (Nat.le_of_ble_eq_true rfl) ⟨(Nat.le_of_ble_eq_true rfl), (Nat.le_of_ble_eq_true rfl)⟩ ⟨(by show _ ≤ 600086; omega), (by show _ ≤ 7301442; omega)⟩ dL_law_945 (fun _ _ h => h.elim) (fun v945 Y945 hp => ?_)
  obtain ⟨rfl, hS945⟩ := hp
  refine V_istore C dL_law_948 (by decide) rfl ?_
  refine V_iload C dL_law_950 rfl ?_
  refine V_iload C dL_law_952 rfl ?_
  refine V_iconst C dL_law_954 ?_
  refine V_icmp_ne C dL_law_955 (by omega) (by omega) (fun h955 => ?_) (fun h955 => absurd h955 (by omega))
  refine V_iconst C dL_law_962 ?_
  refine V_icmp_ne C dL_law_963 (by omega) (by omega) (fun h963 => absurd h963 (by omega)) (fun h963 => ?_)
  refine V_aload_n C dL_law_966 rfl ?_
  refine V_iload C dL_law_967 rfl ?_
  refine V_iconst C dL_law_969 ?_
  refine V_callV C (As := [_, _]) (q_of hl hS945 (k := k) hk30 (by decide) (of_3 hk30)) kL_44 hS945.ky rfl rfl (Nat.le_of_ble_eq_true rfl) ⟨(Nat.le_of_ble_eq_true rfl), (Nat.le_of_ble_eq_true rfl)⟩ ⟨(by show _ ≤ 600086; omega), (by show _ ≤ 7301442; omega)⟩ dL_law_970 (fun _ _ h => h.elim) (fun v970 Y970 hp => ?_)
  obtain ⟨rfl, hS970⟩ := hp
  refine V_aload_n C dL_law_973 rfl ?_
  refine V_iload C dL_law_974 rfl ?_
  refine V_iconst C dL_law_976 ?_
  refine V_callV C (As := [_, _]) (q_of hl hS970 (k := k) hk30 (by decide) (of_2 hk30)) kL_44 hS970.ky rfl rfl (Nat.le_of_ble_eq_true rfl) ⟨(Nat.le_of_ble_eq_true rfl), (Nat.le_of_ble_eq_true rfl)⟩ ⟨(by show _ ≤ 600086; omega), (by show _ ≤ 7301442; omega)⟩ dL_law_977 (fun _ _ h => h.elim) (fun v977 Y977 hp => ?_)
  obtain ⟨rfl, hS977⟩ := hp
  refine V_icmp_gt C dL_law_980 (by omega) (by omega) (fun h980 => absurd h980 (by omega)) (fun h980 => ?_)
  refine V_aload C dL_law_983 rfl ?_
  refine V_aload C dL_law_985 rfl ?_
  refine V_iload C dL_law_987 rfl ?_
  refine V_ialdx C hS977.a2.1 hS977.a2.2.1 (show k < 40 by omega) (Nat.le_of_ble_eq_true rfl) (rfl) (x := (i2 : Int)) ((hS977.a2.2.2 k).trans (((hcs k hk).2).trans f31)) dL_law_989 ?_
  refine V_ialdx C hS977.a4.1 hS977.a4.2.1 (show i2 < 3 by omega) (Nat.le_of_ble_eq_true rfl) (rfl) (x := 0) ((hS977.a4.2.2 i2).trans (((hgd i2 hi2).2).trans e10)) dL_law_990 ?_
  refine V_if_ne C dL_law_991 (by omega) (fun h991 => absurd h991 (by omega)) (fun h991 => ?_)
  refine V_aload_n C dL_law_994 rfl ?_
  refine V_iload C dL_law_995 rfl ?_
  refine V_iconst C dL_law_997 ?_
  refine V_callV C (As := [_, _]) (q_of hl hS977 (k := k) hk30 (by decide) (of_3 hk30)) kL_44 hS977.ky rfl rfl (Nat.le_of_ble_eq_true rfl) ⟨(Nat.le_of_ble_eq_true rfl), (Nat.le_of_ble_eq_true rfl)⟩ ⟨(by show _ ≤ 600086; omega), (by show _ ≤ 7301442; omega)⟩ dL_law_998 (fun _ _ h => h.elim) (fun v998 Y998 hp => ?_)
  obtain ⟨rfl, hS998⟩ := hp
  refine V_aload_n C dL_law_1001 rfl ?_
  refine V_iload C dL_law_1002 rfl ?_
  refine V_iconst C dL_law_1004 ?_
  refine V_callV C (As := [_, _]) (q_of hl hS998 (k := k) hk30 (by decide) (of_2 hk30)) kL_44 hS998.ky rfl rfl (Nat.le_of_ble_eq_true rfl) ⟨(Nat.le_of_ble_eq_true rfl), (Nat.le_of_ble_eq_true rfl)⟩ ⟨(by show _ ≤ 600086; omega), (by show _ ≤ 7301442; omega)⟩ dL_law_1005 (fun _ _ h => h.elim) (fun v1005 Y1005 hp => ?_)
  obtain ⟨rfl, hS1005⟩ := hp
  refine V_icmp_eq C dL_law_1008 (by omega) (by omega) (fun h1008 => ?_) (fun h1008 => absurd h1008 (fun z => z (f38 e10)))
  refine V_iload C dL_law_1013 rfl ?_
  refine V_iconst C dL_law_1015 ?_
  refine V_icmp_ne C dL_law_1016 (by omega) (by omega) (fun h1016 => absurd h1016 (by omega)) (fun h1016 => ?_)
  refine V_aload_n C dL_law_1019 rfl ?_
  refine V_iload C dL_law_1020 rfl ?_
  refine V_iconst C dL_law_1022 ?_
  refine V_callV C (As := [_, _]) (q_of hl hS1005 (k := k) hk30 (by decide) (of_3 hk30)) kL_44 hS1005.ky rfl rfl (Nat.le_of_ble_eq_true rfl) ⟨(Nat.le_of_ble_eq_true rfl), (Nat.le_of_ble_eq_true rfl)⟩ ⟨(by show _ ≤ 600086; omega), (by show _ ≤ 7301442; omega)⟩ dL_law_1023 (fun _ _ h => h.elim) (fun v1023 Y1023 hp => ?_)
  obtain ⟨rfl, hS1023⟩ := hp
  refine V_aload_n C dL_law_1026 rfl ?_
  refine V_iload C dL_law_1027 rfl ?_
  refine V_iconst C dL_law_1029 ?_
  refine V_callV C (As := [_, _]) (q_of hl hS1023 (k := k) hk30 (by decide) (of_2 hk30)) kL_44 hS1023.ky rfl rfl (Nat.le_of_ble_eq_true rfl) ⟨(Nat.le_of_ble_eq_true rfl), (Nat.le_of_ble_eq_true rfl)⟩ ⟨(by show _ ≤ 600086; omega), (by show _ ≤ 7301442; omega)⟩ dL_law_1030 (fun _ _ h => h.elim) (fun v1030 Y1030 hp => ?_)
  obtain ⟨rfl, hS1030⟩ := hp
  refine V_icmp_ne C dL_law_1033 (by omega) (by omega) (fun h1033 => ?_) (fun h1033 => absurd h1033 (by have h5 := f2 e34; omega))
  refine V_iload C dL_law_1038 rfl ?_
  refine V_iconst C dL_law_1040 ?_
  refine V_icmp_ne C dL_law_1041 (by omega) (by omega) (fun h1041 => ?_) (fun h1041 => absurd h1041 (by omega))
  refine V_aload_n C dL_law_1061 rfl ?_
  refine V_iload C dL_law_1062 rfl ?_
  refine V_callV C (As := [_]) (q_power hl hS1030 (n := n) (k := k) c30.symm hk) kL_77 hS1030.ky rfl rfl (Nat.le_of_ble_eq_true rfl) ⟨(Nat.le_of_ble_eq_true rfl), (Nat.le_of_ble_eq_true rfl)⟩ ⟨(by show _ ≤ 600086; omega), (by show _ ≤ 7301442; omega)⟩ dL_law_1064 (fun _ _ h => h.elim) (fun v1064 Y1064 hp => ?_)
  obtain ⟨rfl, hS1064⟩ := hp
  refine V_aload_n C dL_law_1067 rfl ?_
  refine V_iload C dL_law_1068 rfl ?_
  refine V_callV C (As := [_]) (q_powerAnew hl hS1064 (n := n) (k := k) c30.symm hk) kL_80 hS1064.ky rfl rfl (Nat.le_of_ble_eq_true rfl) ⟨(Nat.le_of_ble_eq_true rfl), (Nat.le_of_ble_eq_true rfl)⟩ ⟨(by show _ ≤ 600086; omega), (by show _ ≤ 7301442; omega)⟩ dL_law_1070 (fun _ _ h => h.elim) (fun v1070 Y1070 hp => ?_)
  obtain ⟨rfl, hS1070⟩ := hp
  refine V_icmp_ne C dL_law_1073 (by omega) (by omega) (fun h1073 => absurd h1073 (by omega)) (fun h1073 => ?_)
  refine V_iload C dL_law_1076 rfl ?_
  refine V_if_ne C dL_law_1078 (by omega) (fun h1078 => absurd h1078 (by omega)) (fun h1078 => ?_)
  refine V_aload_n C dL_law_1081 rfl ?_
  refine V_iload C dL_law_1082 rfl ?_
  refine V_callV C (As := [_]) (q_power hl hS1070 (n := n) (k := k) c30.symm hk) kL_77 hS1070.ky rfl rfl (Nat.le_of_ble_eq_true rfl) ⟨(Nat.le_of_ble_eq_true rfl), (Nat.le_of_ble_eq_true rfl)⟩ ⟨(by show _ ≤ 600086; omega), (by show _ ≤ 7301442; omega)⟩ dL_law_1084 (fun _ _ h => h.elim) (fun v1084 Y1084 hp => ?_)
  obtain ⟨rfl, hS1084⟩ := hp
  refine V_if_eq C dL_law_1087 (by omega) (fun h1087 => ?_) (fun h1087 => absurd h1087 (fun z => z (fp.2.2 (by omega))))
  refine V_iload C dL_law_1092 rfl ?_
  refine V_iconst C dL_law_1094 ?_
  refine V_icmp_ne C dL_law_1095 (by omega) (by omega) (fun h1095 => ?_) (fun h1095 => absurd h1095 (by omega))
  refine V_iinc C dL_law_1109 (by decide) rfl rfl ?_
  refine V_goto C dL_law_1112 ?_
  have e16 : boS M (k + 1) = boS M k + 0 := by
    show boS M k + (if M.2 34 k = 3 then M.2 46 k else 0) = _
    rw [if_neg (show ¬ M.2 34 k = 3 by omega)]
  have h9 := hend Y1084 (some (iv 0)) (some (iv 2)) (c1 + 2 + 2 + 2 + 2 + 2 + 2 + 2 + 1 + 1 + 1) (s1 + 12 + 12 + 12 + 12 + 12 + 12 + 12 + 6 + 6 + 6) hS1084 (by omega) (by omega)
  rw [e16, Int.add_zero] at h9
  exact h9
set_option maxHeartbeats 2000000 in
set_option maxRecDepth 20000 in
theorem l_c2_21 (C : Cx p l s m args meth c D kA b t0 20 RL nm cL_law) (hl : l.stackTraces = false) (hT : TS t0 ad y X Mr M n now ed nb) {k : Nat} (hk : k < n) (e34 : M.2 34 k = 2) (hd : ∀ q : Nat, M.2 31 k = (q : Int) → M.2 10 q = 1) (hcB : c1 ≤ 201000) (hsB : s1 ≤ 6010000) (hend : ∀ (Y : Mm) (v18 v19 : Option Value) (c2 s2 : Nat), SX t0 ad y Y Mr M → c2 ≤ c1 + 21 → s2 ≤ s1 + 124 → V p l e room_1 s m args below meth c D kA b 20 (c2) (s2) (Q) Y (914) ([some (rv (some sb)), some (rv (some y)), some (rv (some (ad 0))), some (rv (some (ad 1))), some (rv (some (ad 2))), some (rv (some (ad 3))), some (rv (some (ad 4))), some (iv (n : Int)), some (iv now), some (iv ed), some (iv (turn : Int)), some (iv x), some (iv (a : Int)), some (iv (i : Int)), some (iv (w : Int)), some (iv (o : Int)), some (iv (boS M (k + 1))), some (iv ((k : Int) + 1)), v18, v19]) ([])) : V p l e room_1 s m args below meth c D kA b 20 (c1) (s1) (Q) X (921) ([some (rv (some sb)), some (rv (some y)), some (rv (some (ad 0))), some (rv (some (ad 1))), some (rv (some (ad 2))), some (rv (some (ad 3))), some (rv (some (ad 4))), some (iv (n : Int)), some (iv now), some (iv ed), some (iv (turn : Int)), some (iv x), some (iv (a : Int)), some (iv (i : Int)), some (iv (w : Int)), some (iv (o : Int)), some (iv (boS M k)), some (iv (k : Int)), u18, u19]) ([]) := by
  obtain ⟨hS, hJ, hn36, hcs, hgd, ⟨hnow, hnn⟩, hed, hed0⟩ := id hT
  obtain ⟨jj, hI⟩ := hS.iv
  have o0 := hI.1.1
  unfold okSc at o0
  obtain ⟨c6, c13, c17, c30⟩ := hJ.1
  have hk30 : (k : Int) < M.1 30 := by omega
  obtain ⟨⟨i2, hi2, f31, fon, f38, f10, f12⟩, f32, -, fv, f2, f3, f46, fp⟩ := ts_se hI hJ hk
  have e10 : M.2 10 i2 = 1 := (hd i2 f31)
  have v4 := (of_4 hk30).trans e34
  refine V_aload C dL_law_921 rfl ?_
  refine V_aload C dL_law_923 rfl ?_
  refine V_iload C dL_law_925 rfl ?_
  refine V_ialdx C hS.a2.1 hS.a2.2.1 (show k < 40 by omega) (Nat.le_of_ble_eq_true rfl) (rfl) (x := (i2 : Int)) ((hS.a2.2.2 k).trans (((hcs k hk).2).trans f31)) dL_law_927 ?_
  refine V_ialdx C hS.a3.1 hS.a3.2.1 (show i2 < 3 by omega) (Nat.le_of_ble_eq_true rfl) (rfl) (x := M.2 12 i2) ((hS.a3.2.2 i2).trans ((hgd i2 hi2).1)) dL_law_928 ?_
  refine V_iload C dL_law_929 rfl ?_
  refine V_icmp_ne C dL_law_931 (by omega) (by omega) (fun h931 => ?_) (fun h931 => absurd h931 (fun z => by have h5 := fon.mpr z; omega))
  refine V_iconst C dL_law_938 ?_
  refine V_istore C dL_law_939 (by decide) rfl ?_
  refine V_aload_n C dL_law_941 rfl ?_
  refine V_iload C dL_law_942 rfl ?_
  refine V_iconst C dL_law_944 ?_
  refine V_callV C (As := [_, _]) (q_of hl hS (k := k) hk30 (by decide) (v4)) kL_44 hS.ky rfl rfl (Nat.le_of_ble_eq_true rfl) ⟨(Nat.le_of_ble_eq_true rfl), (Nat.le_of_ble_eq_true rfl)⟩ ⟨(by show _ ≤ 600086; omega), (by show _ ≤ 7301442; omega)⟩ dL_law_945 (fun _ _ h => h.elim) (fun v945 Y945 hp => ?_)
  obtain ⟨rfl, hS945⟩ := hp
  refine V_istore C dL_law_948 (by decide) rfl ?_
  refine V_iload C dL_law_950 rfl ?_
  refine V_iload C dL_law_952 rfl ?_
  refine V_iconst C dL_law_954 ?_
  refine V_icmp_ne C dL_law_955 (by omega) (by omega) (fun h955 => ?_) (fun h955 => absurd h955 (by omega))
  refine V_iconst C dL_law_962 ?_
  refine V_icmp_ne C dL_law_963 (by omega) (by omega) (fun h963 => absurd h963 (by omega)) (fun h963 => ?_)
  refine V_aload_n C dL_law_966 rfl ?_
  refine V_iload C dL_law_967 rfl ?_
  refine V_iconst C dL_law_969 ?_
  refine V_callV C (As := [_, _]) (q_of hl hS945 (k := k) hk30 (by decide) (of_3 hk30)) kL_44 hS945.ky rfl rfl (Nat.le_of_ble_eq_true rfl) ⟨(Nat.le_of_ble_eq_true rfl), (Nat.le_of_ble_eq_true rfl)⟩ ⟨(by show _ ≤ 600086; omega), (by show _ ≤ 7301442; omega)⟩ dL_law_970 (fun _ _ h => h.elim) (fun v970 Y970 hp => ?_)
  obtain ⟨rfl, hS970⟩ := hp
  refine V_aload_n C dL_law_973 rfl ?_
  refine V_iload C dL_law_974 rfl ?_
  refine V_iconst C dL_law_976 ?_
  refine V_callV C (As := [_, _]) (q_of hl hS970 (k := k) hk30 (by decide) (of_2 hk30)) kL_44 hS970.ky rfl rfl (Nat.le_of_ble_eq_true rfl) ⟨(Nat.le_of_ble_eq_true rfl), (Nat.le_of_ble_eq_true rfl)⟩ ⟨(by show _ ≤ 600086; omega), (by show _ ≤ 7301442; omega)⟩ dL_law_977 (fun _ _ h => h.elim) (fun v977 Y977 hp => ?_)
  obtain ⟨rfl, hS977⟩ := hp
  refine V_icmp_gt C dL_law_980 (by omega) (by omega) (fun h980 => absurd h980 (by omega)) (fun h980 => ?_)
  refine V_aload C dL_law_983 rfl ?_
  refine V_aload C dL_law_985 rfl ?_
  refine V_iload C dL_law_987 rfl ?_
  refine V_ialdx C hS977.a2.1 hS977.a2.2.1 (show k < 40 by omega) (Nat.le_of_ble_eq_true rfl) (rfl) (x := (i2 : Int)) ((hS977.a2.2.2 k).trans (((hcs k hk).2).trans f31)) dL_law_989 ?_
  refine V_ialdx C hS977.a4.1 hS977.a4.2.1 (show i2 < 3 by omega) (Nat.le_of_ble_eq_true rfl) (rfl) (x := 1) ((hS977.a4.2.2 i2).trans (((hgd i2 hi2).2).trans e10)) dL_law_990 ?_
  refine V_if_ne C dL_law_991 (by omega) (fun h991 => ?_) (fun h991 => absurd h991 (by omega))
  refine V_iload C dL_law_1013 rfl ?_
  refine V_iconst C dL_law_1015 ?_
  refine V_icmp_ne C dL_law_1016 (by omega) (by omega) (fun h1016 => absurd h1016 (by omega)) (fun h1016 => ?_)
  refine V_aload_n C dL_law_1019 rfl ?_
  refine V_iload C dL_law_1020 rfl ?_
  refine V_iconst C dL_law_1022 ?_
  refine V_callV C (As := [_, _]) (q_of hl hS977 (k := k) hk30 (by decide) (of_3 hk30)) kL_44 hS977.ky rfl rfl (Nat.le_of_ble_eq_true rfl) ⟨(Nat.le_of_ble_eq_true rfl), (Nat.le_of_ble_eq_true rfl)⟩ ⟨(by show _ ≤ 600086; omega), (by show _ ≤ 7301442; omega)⟩ dL_law_1023 (fun _ _ h => h.elim) (fun v1023 Y1023 hp => ?_)
  obtain ⟨rfl, hS1023⟩ := hp
  refine V_aload_n C dL_law_1026 rfl ?_
  refine V_iload C dL_law_1027 rfl ?_
  refine V_iconst C dL_law_1029 ?_
  refine V_callV C (As := [_, _]) (q_of hl hS1023 (k := k) hk30 (by decide) (of_2 hk30)) kL_44 hS1023.ky rfl rfl (Nat.le_of_ble_eq_true rfl) ⟨(Nat.le_of_ble_eq_true rfl), (Nat.le_of_ble_eq_true rfl)⟩ ⟨(by show _ ≤ 600086; omega), (by show _ ≤ 7301442; omega)⟩ dL_law_1030 (fun _ _ h => h.elim) (fun v1030 Y1030 hp => ?_)
  obtain ⟨rfl, hS1030⟩ := hp
  refine V_icmp_ne C dL_law_1033 (by omega) (by omega) (fun h1033 => ?_) (fun h1033 => absurd h1033 (by have h5 := f2 e34; omega))
  refine V_iload C dL_law_1038 rfl ?_
  refine V_iconst C dL_law_1040 ?_
  refine V_icmp_ne C dL_law_1041 (by omega) (by omega) (fun h1041 => ?_) (fun h1041 => absurd h1041 (by omega))
  refine V_aload_n C dL_law_1061 rfl ?_
  refine V_iload C dL_law_1062 rfl ?_
  refine V_callV C (As := [_]) (q_power hl hS1030 (n := n) (k := k) c30.symm hk) kL_77 hS1030.ky rfl rfl (Nat.le_of_ble_eq_true rfl) ⟨(Nat.le_of_ble_eq_true rfl), (Nat.le_of_ble_eq_true rfl)⟩ ⟨(by show _ ≤ 600086; omega), (by show _ ≤ 7301442; omega)⟩ dL_law_1064 (fun _ _ h => h.elim) (fun v1064 Y1064 hp => ?_)
  obtain ⟨rfl, hS1064⟩ := hp
  refine V_aload_n C dL_law_1067 rfl ?_
  refine V_iload C dL_law_1068 rfl ?_
  refine V_callV C (As := [_]) (q_powerAnew hl hS1064 (n := n) (k := k) c30.symm hk) kL_80 hS1064.ky rfl rfl (Nat.le_of_ble_eq_true rfl) ⟨(Nat.le_of_ble_eq_true rfl), (Nat.le_of_ble_eq_true rfl)⟩ ⟨(by show _ ≤ 600086; omega), (by show _ ≤ 7301442; omega)⟩ dL_law_1070 (fun _ _ h => h.elim) (fun v1070 Y1070 hp => ?_)
  obtain ⟨rfl, hS1070⟩ := hp
  refine V_icmp_ne C dL_law_1073 (by omega) (by omega) (fun h1073 => absurd h1073 (by omega)) (fun h1073 => ?_)
  refine V_iload C dL_law_1076 rfl ?_
  refine V_if_ne C dL_law_1078 (by omega) (fun h1078 => absurd h1078 (by omega)) (fun h1078 => ?_)
  refine V_aload_n C dL_law_1081 rfl ?_
  refine V_iload C dL_law_1082 rfl ?_
  refine V_callV C (As := [_]) (q_power hl hS1070 (n := n) (k := k) c30.symm hk) kL_77 hS1070.ky rfl rfl (Nat.le_of_ble_eq_true rfl) ⟨(Nat.le_of_ble_eq_true rfl), (Nat.le_of_ble_eq_true rfl)⟩ ⟨(by show _ ≤ 600086; omega), (by show _ ≤ 7301442; omega)⟩ dL_law_1084 (fun _ _ h => h.elim) (fun v1084 Y1084 hp => ?_)
  obtain ⟨rfl, hS1084⟩ := hp
  refine V_if_eq C dL_law_1087 (by omega) (fun h1087 => ?_) (fun h1087 => absurd h1087 (fun z => z (fp.2.2 (by omega))))
  refine V_iload C dL_law_1092 rfl ?_
  refine V_iconst C dL_law_1094 ?_
  refine V_icmp_ne C dL_law_1095 (by omega) (by omega) (fun h1095 => ?_) (fun h1095 => absurd h1095 (by omega))
  refine V_iinc C dL_law_1109 (by decide) rfl rfl ?_
  refine V_goto C dL_law_1112 ?_
  have e16 : boS M (k + 1) = boS M k + 0 := by
    show boS M k + (if M.2 34 k = 3 then M.2 46 k else 0) = _
    rw [if_neg (show ¬ M.2 34 k = 3 by omega)]
  have h9 := hend Y1084 (some (iv 0)) (some (iv 2)) (c1 + 2 + 2 + 2 + 2 + 2 + 1 + 1 + 1) (s1 + 12 + 12 + 12 + 12 + 12 + 6 + 6 + 6) hS1084 (by omega) (by omega)
  rw [e16, Int.add_zero] at h9
  exact h9
set_option maxHeartbeats 2000000 in
set_option maxRecDepth 20000 in
theorem l_c2_30 (C : Cx p l s m args meth c D kA b t0 20 RL nm cL_law) (hl : l.stackTraces = false) (hT : TS t0 ad y X Mr M n now ed nb) {k : Nat} (hk : k < n) (e34 : M.2 34 k = 3) (hd : ∀ q : Nat, M.2 31 k = (q : Int) → M.2 10 q = 0) (hcB : c1 ≤ 201000) (hsB : s1 ≤ 6010000) (hend : ∀ (Y : Mm) (v18 v19 : Option Value) (c2 s2 : Nat), SX t0 ad y Y Mr M → c2 ≤ c1 + 21 → s2 ≤ s1 + 124 → V p l e room_1 s m args below meth c D kA b 20 (c2) (s2) (Q) Y (914) ([some (rv (some sb)), some (rv (some y)), some (rv (some (ad 0))), some (rv (some (ad 1))), some (rv (some (ad 2))), some (rv (some (ad 3))), some (rv (some (ad 4))), some (iv (n : Int)), some (iv now), some (iv ed), some (iv (turn : Int)), some (iv x), some (iv (a : Int)), some (iv (i : Int)), some (iv (w : Int)), some (iv (o : Int)), some (iv (boS M (k + 1))), some (iv ((k : Int) + 1)), v18, v19]) ([])) : V p l e room_1 s m args below meth c D kA b 20 (c1) (s1) (Q) X (921) ([some (rv (some sb)), some (rv (some y)), some (rv (some (ad 0))), some (rv (some (ad 1))), some (rv (some (ad 2))), some (rv (some (ad 3))), some (rv (some (ad 4))), some (iv (n : Int)), some (iv now), some (iv ed), some (iv (turn : Int)), some (iv x), some (iv (a : Int)), some (iv (i : Int)), some (iv (w : Int)), some (iv (o : Int)), some (iv (boS M k)), some (iv (k : Int)), u18, u19]) ([]) := by
  obtain ⟨hS, hJ, hn36, hcs, hgd, ⟨hnow, hnn⟩, hed, hed0⟩ := id hT
  obtain ⟨jj, hI⟩ := hS.iv
  have o0 := hI.1.1
  unfold okSc at o0
  obtain ⟨c6, c13, c17, c30⟩ := hJ.1
  have hk30 : (k : Int) < M.1 30 := by omega
  obtain ⟨⟨i2, hi2, f31, fon, f38, f10, f12⟩, f32, -, fv, f2, f3, f46, fp⟩ := ts_se hI hJ hk
  have e10 : M.2 10 i2 = 0 := (hd i2 f31)
  have v4 := (of_4 hk30).trans e34
  refine V_aload C dL_law_921 rfl ?_
  refine V_aload C dL_law_923 rfl ?_
  refine V_iload C dL_law_925 rfl ?_
  refine V_ialdx C hS.a2.1 hS.a2.2.1 (show k < 40 by omega) (Nat.le_of_ble_eq_true rfl) (rfl) (x := (i2 : Int)) ((hS.a2.2.2 k).trans (((hcs k hk).2).trans f31)) dL_law_927 ?_
  refine V_ialdx C hS.a3.1 hS.a3.2.1 (show i2 < 3 by omega) (Nat.le_of_ble_eq_true rfl) (rfl) (x := M.2 12 i2) ((hS.a3.2.2 i2).trans ((hgd i2 hi2).1)) dL_law_928 ?_
  refine V_iload C dL_law_929 rfl ?_
  refine V_icmp_ne C dL_law_931 (by omega) (by omega) (fun h931 => ?_) (fun h931 => absurd h931 (fun z => by have h5 := fon.mpr z; omega))
  refine V_iconst C dL_law_938 ?_
  refine V_istore C dL_law_939 (by decide) rfl ?_
  refine V_aload_n C dL_law_941 rfl ?_
  refine V_iload C dL_law_942 rfl ?_
  refine V_iconst C dL_law_944 ?_
  refine V_callV C (As := [_, _]) (q_of hl hS (k := k) hk30 (by decide) (v4)) kL_44 hS.ky rfl rfl (Nat.le_of_ble_eq_true rfl) ⟨(Nat.le_of_ble_eq_true rfl), (Nat.le_of_ble_eq_true rfl)⟩ ⟨(by show _ ≤ 600086; omega), (by show _ ≤ 7301442; omega)⟩ dL_law_945 (fun _ _ h => h.elim) (fun v945 Y945 hp => ?_)
  obtain ⟨rfl, hS945⟩ := hp
  refine V_istore C dL_law_948 (by decide) rfl ?_
  refine V_iload C dL_law_950 rfl ?_
  refine V_iload C dL_law_952 rfl ?_
  refine V_iconst C dL_law_954 ?_
  refine V_icmp_ne C dL_law_955 (by omega) (by omega) (fun h955 => ?_) (fun h955 => absurd h955 (by omega))
  refine V_iconst C dL_law_962 ?_
  refine V_icmp_ne C dL_law_963 (by omega) (by omega) (fun h963 => absurd h963 (by omega)) (fun h963 => ?_)
  refine V_aload_n C dL_law_966 rfl ?_
  refine V_iload C dL_law_967 rfl ?_
  refine V_iconst C dL_law_969 ?_
  refine V_callV C (As := [_, _]) (q_of hl hS945 (k := k) hk30 (by decide) (of_3 hk30)) kL_44 hS945.ky rfl rfl (Nat.le_of_ble_eq_true rfl) ⟨(Nat.le_of_ble_eq_true rfl), (Nat.le_of_ble_eq_true rfl)⟩ ⟨(by show _ ≤ 600086; omega), (by show _ ≤ 7301442; omega)⟩ dL_law_970 (fun _ _ h => h.elim) (fun v970 Y970 hp => ?_)
  obtain ⟨rfl, hS970⟩ := hp
  refine V_aload_n C dL_law_973 rfl ?_
  refine V_iload C dL_law_974 rfl ?_
  refine V_iconst C dL_law_976 ?_
  refine V_callV C (As := [_, _]) (q_of hl hS970 (k := k) hk30 (by decide) (of_2 hk30)) kL_44 hS970.ky rfl rfl (Nat.le_of_ble_eq_true rfl) ⟨(Nat.le_of_ble_eq_true rfl), (Nat.le_of_ble_eq_true rfl)⟩ ⟨(by show _ ≤ 600086; omega), (by show _ ≤ 7301442; omega)⟩ dL_law_977 (fun _ _ h => h.elim) (fun v977 Y977 hp => ?_)
  obtain ⟨rfl, hS977⟩ := hp
  refine V_icmp_gt C dL_law_980 (by omega) (by omega) (fun h980 => absurd h980 (by omega)) (fun h980 => ?_)
  refine V_aload C dL_law_983 rfl ?_
  refine V_aload C dL_law_985 rfl ?_
  refine V_iload C dL_law_987 rfl ?_
  refine V_ialdx C hS977.a2.1 hS977.a2.2.1 (show k < 40 by omega) (Nat.le_of_ble_eq_true rfl) (rfl) (x := (i2 : Int)) ((hS977.a2.2.2 k).trans (((hcs k hk).2).trans f31)) dL_law_989 ?_
  refine V_ialdx C hS977.a4.1 hS977.a4.2.1 (show i2 < 3 by omega) (Nat.le_of_ble_eq_true rfl) (rfl) (x := 0) ((hS977.a4.2.2 i2).trans (((hgd i2 hi2).2).trans e10)) dL_law_990 ?_
  refine V_if_ne C dL_law_991 (by omega) (fun h991 => absurd h991 (by omega)) (fun h991 => ?_)
  refine V_aload_n C dL_law_994 rfl ?_
  refine V_iload C dL_law_995 rfl ?_
  refine V_iconst C dL_law_997 ?_
  refine V_callV C (As := [_, _]) (q_of hl hS977 (k := k) hk30 (by decide) (of_3 hk30)) kL_44 hS977.ky rfl rfl (Nat.le_of_ble_eq_true rfl) ⟨(Nat.le_of_ble_eq_true rfl), (Nat.le_of_ble_eq_true rfl)⟩ ⟨(by show _ ≤ 600086; omega), (by show _ ≤ 7301442; omega)⟩ dL_law_998 (fun _ _ h => h.elim) (fun v998 Y998 hp => ?_)
  obtain ⟨rfl, hS998⟩ := hp
  refine V_aload_n C dL_law_1001 rfl ?_
  refine V_iload C dL_law_1002 rfl ?_
  refine V_iconst C dL_law_1004 ?_
  refine V_callV C (As := [_, _]) (q_of hl hS998 (k := k) hk30 (by decide) (of_2 hk30)) kL_44 hS998.ky rfl rfl (Nat.le_of_ble_eq_true rfl) ⟨(Nat.le_of_ble_eq_true rfl), (Nat.le_of_ble_eq_true rfl)⟩ ⟨(by show _ ≤ 600086; omega), (by show _ ≤ 7301442; omega)⟩ dL_law_1005 (fun _ _ h => h.elim) (fun v1005 Y1005 hp => ?_)
  obtain ⟨rfl, hS1005⟩ := hp
  refine V_icmp_eq C dL_law_1008 (by omega) (by omega) (fun h1008 => ?_) (fun h1008 => absurd h1008 (fun z => z (f38 e10)))
  refine V_iload C dL_law_1013 rfl ?_
  refine V_iconst C dL_law_1015 ?_
  refine V_icmp_ne C dL_law_1016 (by omega) (by omega) (fun h1016 => ?_) (fun h1016 => absurd h1016 (by omega))
  refine V_iload C dL_law_1038 rfl ?_
  refine V_iconst C dL_law_1040 ?_
  refine V_icmp_ne C dL_law_1041 (by omega) (by omega) (fun h1041 => absurd h1041 (by omega)) (fun h1041 => ?_)
  refine V_aload_n C dL_law_1044 rfl ?_
  refine V_iload C dL_law_1045 rfl ?_
  refine V_callV C (As := [_]) (q_bill hl hS1005 (k := k) hk30) kL_71 hS1005.ky rfl rfl (Nat.le_of_ble_eq_true rfl) ⟨(Nat.le_of_ble_eq_true rfl), (Nat.le_of_ble_eq_true rfl)⟩ ⟨(by show _ ≤ 600086; omega), (by show _ ≤ 7301442; omega)⟩ dL_law_1047 (fun _ _ h => h.elim) (fun v1047 Y1047 hp => ?_)
  obtain ⟨rfl, hS1047⟩ := hp
  rw [(f3 e34).1]
  refine V_aload_n C dL_law_1050 rfl ?_
  refine V_iload C dL_law_1051 rfl ?_
  refine V_callV C (As := [_]) (q_billAnew hl hS1047 (k := k) hk30) kL_74 hS1047.ky rfl rfl (Nat.le_of_ble_eq_true rfl) ⟨(Nat.le_of_ble_eq_true rfl), (Nat.le_of_ble_eq_true rfl)⟩ ⟨(by show _ ≤ 600086; omega), (by show _ ≤ 7301442; omega)⟩ dL_law_1053 (fun _ _ h => h.elim) (fun v1053 Y1053 hp => ?_)
  obtain ⟨rfl, hS1053⟩ := hp
  rw [(f3 e34).2]
  refine V_icmp_eq C dL_law_1056 (by omega) (by omega) (fun h1056 => ?_) (fun h1056 => absurd h1056 (by omega))
  refine V_aload_n C dL_law_1061 rfl ?_
  refine V_iload C dL_law_1062 rfl ?_
  refine V_callV C (As := [_]) (q_power hl hS1053 (n := n) (k := k) c30.symm hk) kL_77 hS1053.ky rfl rfl (Nat.le_of_ble_eq_true rfl) ⟨(Nat.le_of_ble_eq_true rfl), (Nat.le_of_ble_eq_true rfl)⟩ ⟨(by show _ ≤ 600086; omega), (by show _ ≤ 7301442; omega)⟩ dL_law_1064 (fun _ _ h => h.elim) (fun v1064 Y1064 hp => ?_)
  obtain ⟨rfl, hS1064⟩ := hp
  refine V_aload_n C dL_law_1067 rfl ?_
  refine V_iload C dL_law_1068 rfl ?_
  refine V_callV C (As := [_]) (q_powerAnew hl hS1064 (n := n) (k := k) c30.symm hk) kL_80 hS1064.ky rfl rfl (Nat.le_of_ble_eq_true rfl) ⟨(Nat.le_of_ble_eq_true rfl), (Nat.le_of_ble_eq_true rfl)⟩ ⟨(by show _ ≤ 600086; omega), (by show _ ≤ 7301442; omega)⟩ dL_law_1070 (fun _ _ h => h.elim) (fun v1070 Y1070 hp => ?_)
  obtain ⟨rfl, hS1070⟩ := hp
  refine V_icmp_ne C dL_law_1073 (by omega) (by omega) (fun h1073 => absurd h1073 (by omega)) (fun h1073 => ?_)
  refine V_iload C dL_law_1076 rfl ?_
  refine V_if_ne C dL_law_1078 (by omega) (fun h1078 => absurd h1078 (by omega)) (fun h1078 => ?_)
  refine V_aload_n C dL_law_1081 rfl ?_
  refine V_iload C dL_law_1082 rfl ?_
  refine V_callV C (As := [_]) (q_power hl hS1070 (n := n) (k := k) c30.symm hk) kL_77 hS1070.ky rfl rfl (Nat.le_of_ble_eq_true rfl) ⟨(Nat.le_of_ble_eq_true rfl), (Nat.le_of_ble_eq_true rfl)⟩ ⟨(by show _ ≤ 600086; omega), (by show _ ≤ 7301442; omega)⟩ dL_law_1084 (fun _ _ h => h.elim) (fun v1084 Y1084 hp => ?_)
  obtain ⟨rfl, hS1084⟩ := hp
  refine V_if_eq C dL_law_1087 (by omega) (fun h1087 => ?_) (fun h1087 => absurd h1087 (fun z => z (fp.2.2 (by omega))))
  refine V_iload C dL_law_1092 rfl ?_
  refine V_iconst C dL_law_1094 ?_
  refine V_icmp_ne C dL_law_1095 (by omega) (by omega) (fun h1095 => absurd h1095 (by omega)) (fun h1095 => ?_)
  refine V_iload C dL_law_1098 rfl ?_
  refine V_aload_n C dL_law_1100 rfl ?_
  refine V_iload C dL_law_1101 rfl ?_
  refine V_callV C (As := [_]) (q_bill hl hS1084 (k := k) hk30) kL_71 hS1084.ky rfl rfl (Nat.le_of_ble_eq_true rfl) ⟨(Nat.le_of_ble_eq_true rfl), (Nat.le_of_ble_eq_true rfl)⟩ ⟨(by show _ ≤ 600086; omega), (by show _ ≤ 7301442; omega)⟩ dL_law_1103 (fun _ _ h => h.elim) (fun v1103 Y1103 hp => ?_)
  obtain ⟨rfl, hS1103⟩ := hp
  rw [(f3 e34).1]
  refine V_iadd C dL_law_1106 ?_
  refine V_istore C dL_law_1107 (by decide) rfl ?_
  refine V_iinc C dL_law_1109 (by decide) rfl rfl ?_
  refine V_goto C dL_law_1112 ?_
  have e16 : boS M (k + 1) = boS M k + M.2 46 k := by
    show boS M k + (if M.2 34 k = 3 then M.2 46 k else 0) = _
    rw [if_pos e34]
  have h9 := hend Y1103 (some (iv 0)) (some (iv 3)) (c1 + 2 + 2 + 2 + 2 + 2 + 1 + 2 + 1 + 1 + 1 + 1) (s1 + 12 + 12 + 12 + 12 + 12 + 6 + 10 + 6 + 6 + 6 + 6) hS1103 (by omega) (by omega)
  rw [e16] at h9
  exact h9
set_option maxHeartbeats 2000000 in
set_option maxRecDepth 20000 in
theorem l_c2_31 (C : Cx p l s m args meth c D kA b t0 20 RL nm cL_law) (hl : l.stackTraces = false) (hT : TS t0 ad y X Mr M n now ed nb) {k : Nat} (hk : k < n) (e34 : M.2 34 k = 3) (hd : ∀ q : Nat, M.2 31 k = (q : Int) → M.2 10 q = 1) (hcB : c1 ≤ 201000) (hsB : s1 ≤ 6010000) (hend : ∀ (Y : Mm) (v18 v19 : Option Value) (c2 s2 : Nat), SX t0 ad y Y Mr M → c2 ≤ c1 + 21 → s2 ≤ s1 + 124 → V p l e room_1 s m args below meth c D kA b 20 (c2) (s2) (Q) Y (914) ([some (rv (some sb)), some (rv (some y)), some (rv (some (ad 0))), some (rv (some (ad 1))), some (rv (some (ad 2))), some (rv (some (ad 3))), some (rv (some (ad 4))), some (iv (n : Int)), some (iv now), some (iv ed), some (iv (turn : Int)), some (iv x), some (iv (a : Int)), some (iv (i : Int)), some (iv (w : Int)), some (iv (o : Int)), some (iv (boS M (k + 1))), some (iv ((k : Int) + 1)), v18, v19]) ([])) : V p l e room_1 s m args below meth c D kA b 20 (c1) (s1) (Q) X (921) ([some (rv (some sb)), some (rv (some y)), some (rv (some (ad 0))), some (rv (some (ad 1))), some (rv (some (ad 2))), some (rv (some (ad 3))), some (rv (some (ad 4))), some (iv (n : Int)), some (iv now), some (iv ed), some (iv (turn : Int)), some (iv x), some (iv (a : Int)), some (iv (i : Int)), some (iv (w : Int)), some (iv (o : Int)), some (iv (boS M k)), some (iv (k : Int)), u18, u19]) ([]) := by
  obtain ⟨hS, hJ, hn36, hcs, hgd, ⟨hnow, hnn⟩, hed, hed0⟩ := id hT
  obtain ⟨jj, hI⟩ := hS.iv
  have o0 := hI.1.1
  unfold okSc at o0
  obtain ⟨c6, c13, c17, c30⟩ := hJ.1
  have hk30 : (k : Int) < M.1 30 := by omega
  obtain ⟨⟨i2, hi2, f31, fon, f38, f10, f12⟩, f32, -, fv, f2, f3, f46, fp⟩ := ts_se hI hJ hk
  have e10 : M.2 10 i2 = 1 := (hd i2 f31)
  have v4 := (of_4 hk30).trans e34
  refine V_aload C dL_law_921 rfl ?_
  refine V_aload C dL_law_923 rfl ?_
  refine V_iload C dL_law_925 rfl ?_
  refine V_ialdx C hS.a2.1 hS.a2.2.1 (show k < 40 by omega) (Nat.le_of_ble_eq_true rfl) (rfl) (x := (i2 : Int)) ((hS.a2.2.2 k).trans (((hcs k hk).2).trans f31)) dL_law_927 ?_
  refine V_ialdx C hS.a3.1 hS.a3.2.1 (show i2 < 3 by omega) (Nat.le_of_ble_eq_true rfl) (rfl) (x := M.2 12 i2) ((hS.a3.2.2 i2).trans ((hgd i2 hi2).1)) dL_law_928 ?_
  refine V_iload C dL_law_929 rfl ?_
  refine V_icmp_ne C dL_law_931 (by omega) (by omega) (fun h931 => ?_) (fun h931 => absurd h931 (fun z => by have h5 := fon.mpr z; omega))
  refine V_iconst C dL_law_938 ?_
  refine V_istore C dL_law_939 (by decide) rfl ?_
  refine V_aload_n C dL_law_941 rfl ?_
  refine V_iload C dL_law_942 rfl ?_
  refine V_iconst C dL_law_944 ?_
  refine V_callV C (As := [_, _]) (q_of hl hS (k := k) hk30 (by decide) (v4)) kL_44 hS.ky rfl rfl (Nat.le_of_ble_eq_true rfl) ⟨(Nat.le_of_ble_eq_true rfl), (Nat.le_of_ble_eq_true rfl)⟩ ⟨(by show _ ≤ 600086; omega), (by show _ ≤ 7301442; omega)⟩ dL_law_945 (fun _ _ h => h.elim) (fun v945 Y945 hp => ?_)
  obtain ⟨rfl, hS945⟩ := hp
  refine V_istore C dL_law_948 (by decide) rfl ?_
  refine V_iload C dL_law_950 rfl ?_
  refine V_iload C dL_law_952 rfl ?_
  refine V_iconst C dL_law_954 ?_
  refine V_icmp_ne C dL_law_955 (by omega) (by omega) (fun h955 => ?_) (fun h955 => absurd h955 (by omega))
  refine V_iconst C dL_law_962 ?_
  refine V_icmp_ne C dL_law_963 (by omega) (by omega) (fun h963 => absurd h963 (by omega)) (fun h963 => ?_)
  refine V_aload_n C dL_law_966 rfl ?_
  refine V_iload C dL_law_967 rfl ?_
  refine V_iconst C dL_law_969 ?_
  refine V_callV C (As := [_, _]) (q_of hl hS945 (k := k) hk30 (by decide) (of_3 hk30)) kL_44 hS945.ky rfl rfl (Nat.le_of_ble_eq_true rfl) ⟨(Nat.le_of_ble_eq_true rfl), (Nat.le_of_ble_eq_true rfl)⟩ ⟨(by show _ ≤ 600086; omega), (by show _ ≤ 7301442; omega)⟩ dL_law_970 (fun _ _ h => h.elim) (fun v970 Y970 hp => ?_)
  obtain ⟨rfl, hS970⟩ := hp
  refine V_aload_n C dL_law_973 rfl ?_
  refine V_iload C dL_law_974 rfl ?_
  refine V_iconst C dL_law_976 ?_
  refine V_callV C (As := [_, _]) (q_of hl hS970 (k := k) hk30 (by decide) (of_2 hk30)) kL_44 hS970.ky rfl rfl (Nat.le_of_ble_eq_true rfl) ⟨(Nat.le_of_ble_eq_true rfl), (Nat.le_of_ble_eq_true rfl)⟩ ⟨(by show _ ≤ 600086; omega), (by show _ ≤ 7301442; omega)⟩ dL_law_977 (fun _ _ h => h.elim) (fun v977 Y977 hp => ?_)
  obtain ⟨rfl, hS977⟩ := hp
  refine V_icmp_gt C dL_law_980 (by omega) (by omega) (fun h980 => absurd h980 (by omega)) (fun h980 => ?_)
  refine V_aload C dL_law_983 rfl ?_
  refine V_aload C dL_law_985 rfl ?_
  refine V_iload C dL_law_987 rfl ?_
  refine V_ialdx C hS977.a2.1 hS977.a2.2.1 (show k < 40 by omega) (Nat.le_of_ble_eq_true rfl) (rfl) (x := (i2 : Int)) ((hS977.a2.2.2 k).trans (((hcs k hk).2).trans f31)) dL_law_989 ?_
  refine V_ialdx C hS977.a4.1 hS977.a4.2.1 (show i2 < 3 by omega) (Nat.le_of_ble_eq_true rfl) (rfl) (x := 1) ((hS977.a4.2.2 i2).trans (((hgd i2 hi2).2).trans e10)) dL_law_990 ?_
  refine V_if_ne C dL_law_991 (by omega) (fun h991 => ?_) (fun h991 => absurd h991 (by omega))
  refine V_iload C dL_law_1013 rfl ?_
  refine V_iconst C dL_law_1015 ?_
  refine V_icmp_ne C dL_law_1016 (by omega) (by omega) (fun h1016 => ?_) (fun h1016 => absurd h1016 (by omega))
  refine V_iload C dL_law_1038 rfl ?_
  refine V_iconst C dL_law_1040 ?_
  refine V_icmp_ne C dL_law_1041 (by omega) (by omega) (fun h1041 => absurd h1041 (by omega)) (fun h1041 => ?_)
  refine V_aload_n C dL_law_1044 rfl ?_
  refine V_iload C dL_law_1045 rfl ?_
  refine V_callV C (As := [_]) (q_bill hl hS977 (k := k) hk30) kL_71 hS977.ky rfl rfl (Nat.le_of_ble_eq_true rfl) ⟨(Nat.le_of_ble_eq_true rfl), (Nat.le_of_ble_eq_true rfl)⟩ ⟨(by show _ ≤ 600086; omega), (by show _ ≤ 7301442; omega)⟩ dL_law_1047 (fun _ _ h => h.elim) (fun v1047 Y1047 hp => ?_)
  obtain ⟨rfl, hS1047⟩ := hp
  rw [(f3 e34).1]
  refine V_aload_n C dL_law_1050 rfl ?_
  refine V_iload C dL_law_1051 rfl ?_
  refine V_callV C (As := [_]) (q_billAnew hl hS1047 (k := k) hk30) kL_74 hS1047.ky rfl rfl (Nat.le_of_ble_eq_true rfl) ⟨(Nat.le_of_ble_eq_true rfl), (Nat.le_of_ble_eq_true rfl)⟩ ⟨(by show _ ≤ 600086; omega), (by show _ ≤ 7301442; omega)⟩ dL_law_1053 (fun _ _ h => h.elim) (fun v1053 Y1053 hp => ?_)
  obtain ⟨rfl, hS1053⟩ := hp
  rw [(f3 e34).2]
  refine V_icmp_eq C dL_law_1056 (by omega) (by omega) (fun h1056 => ?_) (fun h1056 => absurd h1056 (by omega))
  refine V_aload_n C dL_law_1061 rfl ?_
  refine V_iload C dL_law_1062 rfl ?_
  refine V_callV C (As := [_]) (q_power hl hS1053 (n := n) (k := k) c30.symm hk) kL_77 hS1053.ky rfl rfl (Nat.le_of_ble_eq_true rfl) ⟨(Nat.le_of_ble_eq_true rfl), (Nat.le_of_ble_eq_true rfl)⟩ ⟨(by show _ ≤ 600086; omega), (by show _ ≤ 7301442; omega)⟩ dL_law_1064 (fun _ _ h => h.elim) (fun v1064 Y1064 hp => ?_)
  obtain ⟨rfl, hS1064⟩ := hp
  refine V_aload_n C dL_law_1067 rfl ?_
  refine V_iload C dL_law_1068 rfl ?_
  refine V_callV C (As := [_]) (q_powerAnew hl hS1064 (n := n) (k := k) c30.symm hk) kL_80 hS1064.ky rfl rfl (Nat.le_of_ble_eq_true rfl) ⟨(Nat.le_of_ble_eq_true rfl), (Nat.le_of_ble_eq_true rfl)⟩ ⟨(by show _ ≤ 600086; omega), (by show _ ≤ 7301442; omega)⟩ dL_law_1070 (fun _ _ h => h.elim) (fun v1070 Y1070 hp => ?_)
  obtain ⟨rfl, hS1070⟩ := hp
  refine V_icmp_ne C dL_law_1073 (by omega) (by omega) (fun h1073 => absurd h1073 (by omega)) (fun h1073 => ?_)
  refine V_iload C dL_law_1076 rfl ?_
  refine V_if_ne C dL_law_1078 (by omega) (fun h1078 => absurd h1078 (by omega)) (fun h1078 => ?_)
  refine V_aload_n C dL_law_1081 rfl ?_
  refine V_iload C dL_law_1082 rfl ?_
  refine V_callV C (As := [_]) (q_power hl hS1070 (n := n) (k := k) c30.symm hk) kL_77 hS1070.ky rfl rfl (Nat.le_of_ble_eq_true rfl) ⟨(Nat.le_of_ble_eq_true rfl), (Nat.le_of_ble_eq_true rfl)⟩ ⟨(by show _ ≤ 600086; omega), (by show _ ≤ 7301442; omega)⟩ dL_law_1084 (fun _ _ h => h.elim) (fun v1084 Y1084 hp => ?_)
  obtain ⟨rfl, hS1084⟩ := hp
  refine V_if_eq C dL_law_1087 (by omega) (fun h1087 => ?_) (fun h1087 => absurd h1087 (fun z => z (fp.2.2 (by omega))))
  refine V_iload C dL_law_1092 rfl ?_
  refine V_iconst C dL_law_1094 ?_
  refine V_icmp_ne C dL_law_1095 (by omega) (by omega) (fun h1095 => absurd h1095 (by omega)) (fun h1095 => ?_)
  refine V_iload C dL_law_1098 rfl ?_
  refine V_aload_n C dL_law_1100 rfl ?_
  refine V_iload C dL_law_1101 rfl ?_
  refine V_callV C (As := [_]) (q_bill hl hS1084 (k := k) hk30) kL_71 hS1084.ky rfl rfl (Nat.le_of_ble_eq_true rfl) ⟨(Nat.le_of_ble_eq_true rfl), (Nat.le_of_ble_eq_true rfl)⟩ ⟨(by show _ ≤ 600086; omega), (by show _ ≤ 7301442; omega)⟩ dL_law_1103 (fun _ _ h => h.elim) (fun v1103 Y1103 hp => ?_)
  obtain ⟨rfl, hS1103⟩ := hp
  rw [(f3 e34).1]
  refine V_iadd C dL_law_1106 ?_
  refine V_istore C dL_law_1107 (by decide) rfl ?_
  refine V_iinc C dL_law_1109 (by decide) rfl rfl ?_
  refine V_goto C dL_law_1112 ?_
  have e16 : boS M (k + 1) = boS M k + M.2 46 k := by
    show boS M k + (if M.2 34 k = 3 then M.2 46 k else 0) = _
    rw [if_pos e34]
  have h9 := hend Y1103 (some (iv 0)) (some (iv 3)) (c1 + 2 + 2 + 2 + 1 + 2 + 1 + 1 + 1 + 1) (s1 + 12 + 12 + 12 + 6 + 10 + 6 + 6 + 6 + 6) hS1103 (by omega) (by omega)
  rw [e16] at h9
  exact h9
set_option maxHeartbeats 2000000 in
set_option maxRecDepth 20000 in
theorem l_ch2 (C : Cx p l s m args meth c D kA b t0 20 RL nm cL_law) (hl : l.stackTraces = false) (hT : TS t0 ad y X Mr M n now ed nb) (ht : turn < 60) (hcB : c1 ≤ 200000) (hsB : s1 ≤ 6000000) (hend : ∀ (Y : Mm) (v17 v18 v19 : Option Value) (c2 s2 : Nat), SX t0 ad y Y Mr M → c2 ≤ c1 + 800 → s2 ≤ s1 + 4500 → V p l e room_1 s m args below meth c D kA b 20 (c2) (s2) (Q) Y (1115) ([some (rv (some sb)), some (rv (some y)), some (rv (some (ad 0))), some (rv (some (ad 1))), some (rv (some (ad 2))), some (rv (some (ad 3))), some (rv (some (ad 4))), some (iv (n : Int)), some (iv now), some (iv ed), some (iv (turn : Int)), some (iv x), some (iv (a : Int)), some (iv (i : Int)), some (iv (w : Int)), some (iv (o : Int)), some (iv (boS M n)), v17, v18, v19]) ([])) : V p l e room_1 s m args below meth c D kA b 20 (c1) (s1) (Q) X (908) ([some (rv (some sb)), some (rv (some y)), some (rv (some (ad 0))), some (rv (some (ad 1))), some (rv (some (ad 2))), some (rv (some (ad 3))), some (rv (some (ad 4))), some (iv (n : Int)), some (iv now), some (iv ed), some (iv (turn : Int)), some (iv x), some (iv (a : Int)), some (iv (i : Int)), some (iv (w : Int)), some (iv (o : Int)), u16, u17, u18, u19]) ([]) := by
  obtain ⟨hS, hJ, hn36, hcs, hgd, ⟨hnow, hnn⟩, hed, hed0⟩ := id hT
  obtain ⟨jj, hI⟩ := hS.iv
  have o0 := hI.1.1
  unfold okSc at o0
  obtain ⟨c6, c13, c17, c30⟩ := hJ.1
  refine V_iconst C dL_law_908 ?_
  refine V_istore C dL_law_909 (by decide) rfl ?_
  refine V_iconst C dL_law_911 ?_
  refine V_istore C dL_law_912 (by decide) rfl ?_
  refine V_while C (St := Nat × Mm × Nat × Nat × Option Value × Option Value) (f := fun z => z.2.1) (g := fun z => [some (rv (some sb)), some (rv (some y)), some (rv (some (ad 0))), some (rv (some (ad 1))), some (rv (some (ad 2))), some (rv (some (ad 3))), some (rv (some (ad 4))), some (iv (n : Int)), some (iv now), some (iv ed), some (iv (turn : Int)), some (iv x), some (iv (a : Int)), some (iv (i : Int)), some (iv (w : Int)), some (iv (o : Int)), some (iv (boS M z.1)), some (iv (z.1 : Int)), z.2.2.2.2.1, z.2.2.2.2.2]) (cs := fun z => z.2.2.1) (ss := fun z => z.2.2.2.1) (μ := fun z => n + 1 - z.1) (I := fun z => z.1 ≤ n ∧ SX t0 ad y z.2.1 Mr M ∧ z.2.2.1 ≤ c1 + 21 * z.1 ∧ z.2.2.2.1 ≤ s1 + 124 * z.1) (x0 := (0, X, c1, s1, u18, u19)) rfl rfl rfl rfl ⟨Nat.zero_le _, hS, by show c1 ≤ c1 + 21 * 0; omega, by show s1 ≤ s1 + 124 * 0; omega⟩ ?_
  rintro ⟨k, Xk, ck, sk, v18, v19⟩ ⟨hk, hSk, hck, hsk⟩ ih
  dsimp only at hk hSk hck hsk ih ⊢
  refine V_iload C dL_law_914 rfl ?_
  refine V_iload C dL_law_916 rfl ?_
  refine V_icmp_ge C dL_law_918 (by omega) (by omega) (fun h918 => ?_) (fun h918 => ?_)
  · have ek : k = n := by omega
    rw [ek]
    exact hend _ _ _ _ _ _ hSk (by omega) (by omega)
  have hTk : TS t0 ad y Xk Mr M n now ed nb := ⟨hSk, hJ, hn36, hcs, hgd, ⟨hnow, hnn⟩, hed, hed0⟩
  have hkn : k < n := by omega
  have hnx : ∀ (Y : Mm) (v18 v19 : Option Value) (c2 s2 : Nat), SX t0 ad y Y Mr M → c2 ≤ ck + 21 → s2 ≤ sk + 124 → V p l e room_1 s m args below meth c D kA b 20 (c2) (s2) (Q) Y (914) ([some (rv (some sb)), some (rv (some y)), some (rv (some (ad 0))), some (rv (some (ad 1))), some (rv (some (ad 2))), some (rv (some (ad 3))), some (rv (some (ad 4))), some (iv (n : Int)), some (iv now), some (iv ed), some (iv (turn : Int)), some (iv x), some (iv (a : Int)), some (iv (i : Int)), some (iv (w : Int)), some (iv (o : Int)), some (iv (boS M (k + 1))), some (iv ((k : Int) + 1)), v18, v19]) ([]) := fun Y q18 q19 c2 s2 g1 g2 g3 => by
    have h9 := ih (k + 1, Y, c2, s2, q18, q19) ⟨by show k + 1 ≤ n; omega, g1, by show c2 ≤ c1 + 21 * (k + 1); omega, by show s2 ≤ s1 + 124 * (k + 1); omega⟩ (by show n + 1 - (k + 1) < n + 1 - k; omega)
    dsimp only at h9
    rw [show ((k + 1 : Nat) : Int) = (k : Int) + 1 by omega] at h9
    exact h9
  obtain ⟨⟨i2, hi2, f31, -, -, f10, -⟩, -, f34, -⟩ := ts_se hI hJ hkn
  have hd : ∀ (v : Int), M.2 10 i2 = v → ∀ q : Nat, M.2 31 k = (q : Int) → M.2 10 q = v := fun v hv q hq => by
    rw [show q = i2 by omega]
    exact hv
  rcases f34 with e34 | e34 | e34
  · rcases f10 with e10 | e10
    · exact l_c2_10 C hl hTk hkn e34 (hd _ e10) (by omega) (by omega) hnx
    · exact l_c2_11 C hl hTk hkn e34 (hd _ e10) (by omega) (by omega) hnx
  · rcases f10 with e10 | e10
    · exact l_c2_20 C hl hTk hkn e34 (hd _ e10) (by omega) (by omega) hnx
    · exact l_c2_21 C hl hTk hkn e34 (hd _ e10) (by omega) (by omega) hnx
  · rcases f10 with e10 | e10
    · exact l_c2_30 C hl hTk hkn e34 (hd _ e10) (by omega) (by omega) hnx
    · exact l_c2_31 C hl hTk hkn e34 (hd _ e10) (by omega) (by omega) hnx
set_option maxHeartbeats 2000000 in
set_option maxRecDepth 20000 in
theorem l_fin (C : Cx p l s m args meth c D kA b t0 20 RL nm cL_law) (hl : l.stackTraces = false) (hT : TS t0 ad y X Mr M n now ed nb) (ht : turn < 60) (hcB : c1 ≤ 200000) (hsB : s1 ≤ 6000000) (hend : ∀ (Y : Mm) (v17 : Option Value) (c2 s2 : Nat), SX t0 ad y Y Mr M → c2 ≤ c1 + 7 → s2 ≤ s1 + 42 → V p l e room_1 s m args below meth c D kA b 20 (c2) (s2) (Q) Y (223) ([some (rv (some sb)), some (rv (some y)), some (rv (some (ad 0))), some (rv (some (ad 1))), some (rv (some (ad 2))), some (rv (some (ad 3))), some (rv (some (ad 4))), some (iv (n : Int)), some (iv now), some (iv ed), some (iv ((turn : Int) + 1)), some (iv x), some (iv (a : Int)), some (iv (i : Int)), some (iv (w : Int)), some (iv (o : Int)), some (iv (boS M n)), v17, u18, u19]) ([])) : V p l e room_1 s m args below meth c D kA b 20 (c1) (s1) (Q) X (1115) ([some (rv (some sb)), some (rv (some y)), some (rv (some (ad 0))), some (rv (some (ad 1))), some (rv (some (ad 2))), some (rv (some (ad 3))), some (rv (some (ad 4))), some (iv (n : Int)), some (iv now), some (iv ed), some (iv (turn : Int)), some (iv x), some (iv (a : Int)), some (iv (i : Int)), some (iv (w : Int)), some (iv (o : Int)), some (iv (boS M n)), u17, u18, u19]) ([]) := by
  obtain ⟨hS, hJ, hn36, hcs, hgd, ⟨hnow, hnn⟩, hed, hed0⟩ := id hT
  obtain ⟨jj, hI⟩ := hS.iv
  have o0 := hI.1.1
  unfold okSc at o0
  obtain ⟨c6, c13, c17, c30⟩ := hJ.1
  have hbo : boS M n = 0 + M.2 22 0 + M.2 22 1 + M.2 22 2 + M.2 22 3 := hJ.2.2.1.symm
  have hac := acc_sum c17 (fun k hk => by
    have o := hI.1.2.2.2.1 k (by omega)
    unfold okCd at o
    omega)
  have hbd : 0 ≤ boS M n ∧ boS M n ≤ 21000000 * n := bill_bd (fun q hq => by
    obtain ⟨-, -, -, -, -, -, f46, -⟩ := ts_se hI hJ hq
    split <;> omega)
  refine V_aload_n C dL_law_1115 rfl ?_
  refine V_iconst C dL_law_1116 ?_
  refine V_callV C (As := [_]) (q_owes hl hS (k := 0) (by show (0 : Int) < M.1 17; omega)) kL_83 hS.ky rfl rfl (Nat.le_of_ble_eq_true rfl) ⟨(Nat.le_of_ble_eq_true rfl), (Nat.le_of_ble_eq_true rfl)⟩ ⟨(by show _ ≤ 600086; omega), (by show _ ≤ 7301442; omega)⟩ dL_law_1117 (fun _ _ h => h.elim) (fun v1117 Y1117 hp => ?_)
  obtain ⟨rfl, hS1117⟩ := hp
  refine V_aload_n C dL_law_1120 rfl ?_
  refine V_iconst C dL_law_1121 ?_
  refine V_callV C (As := [_]) (q_owes hl hS1117 (k := 1) (by show (1 : Int) < M.1 17; omega)) kL_83 hS1117.ky rfl rfl (Nat.le_of_ble_eq_true rfl) ⟨(Nat.le_of_ble_eq_true rfl), (Nat.le_of_ble_eq_true rfl)⟩ ⟨(by show _ ≤ 600086; omega), (by show _ ≤ 7301442; omega)⟩ dL_law_1122 (fun _ _ h => h.elim) (fun v1122 Y1122 hp => ?_)
  obtain ⟨rfl, hS1122⟩ := hp
  refine V_iadd C dL_law_1125 ?_
  refine V_aload_n C dL_law_1126 rfl ?_
  refine V_iconst C dL_law_1127 ?_
  refine V_callV C (As := [_]) (q_owes hl hS1122 (k := 2) (by show (2 : Int) < M.1 17; omega)) kL_83 hS1122.ky rfl rfl (Nat.le_of_ble_eq_true rfl) ⟨(Nat.le_of_ble_eq_true rfl), (Nat.le_of_ble_eq_true rfl)⟩ ⟨(by show _ ≤ 600086; omega), (by show _ ≤ 7301442; omega)⟩ dL_law_1128 (fun _ _ h => h.elim) (fun v1128 Y1128 hp => ?_)
  obtain ⟨rfl, hS1128⟩ := hp
  refine V_iadd C dL_law_1131 ?_
  refine V_aload_n C dL_law_1132 rfl ?_
  refine V_iconst C dL_law_1133 ?_
  refine V_callV C (As := [_]) (q_owes hl hS1128 (k := 3) (by show (3 : Int) < M.1 17; omega)) kL_83 hS1128.ky rfl rfl (Nat.le_of_ble_eq_true rfl) ⟨(Nat.le_of_ble_eq_true rfl), (Nat.le_of_ble_eq_true rfl)⟩ ⟨(by show _ ≤ 600086; omega), (by show _ ≤ 7301442; omega)⟩ dL_law_1134 (fun _ _ h => h.elim) (fun v1134 Y1134 hp => ?_)
  obtain ⟨rfl, hS1134⟩ := hp
  refine V_iadd C dL_law_1137 ?_
  refine V_istore C dL_law_1138 (by decide) rfl ?_
  refine V_iload C dL_law_1140 rfl ?_
  refine V_iload C dL_law_1142 rfl ?_
  refine V_icmp_ne C dL_law_1144 (by omega) (by omega) (fun h1144 => absurd h1144 (by omega)) (fun h1144 => ?_)
  refine V_aload_n C dL_law_1147 rfl ?_
  refine V_iconst C dL_law_1148 ?_
  refine V_callV C (As := [_]) (q_account hl hS1134 (k := 0) (by decide)) kL_86 hS1134.ky rfl rfl (Nat.le_of_ble_eq_true rfl) ⟨(Nat.le_of_ble_eq_true rfl), (Nat.le_of_ble_eq_true rfl)⟩ ⟨(by show _ ≤ 600086; omega), (by show _ ≤ 7301442; omega)⟩ dL_law_1149 (fun _ _ h => h.elim) (fun v1149 Y1149 hp => ?_)
  obtain ⟨rfl, hS1149⟩ := hp
  refine V_aload_n C dL_law_1152 rfl ?_
  refine V_iconst C dL_law_1153 ?_
  refine V_callV C (As := [_]) (q_account hl hS1149 (k := 1) (by decide)) kL_86 hS1149.ky rfl rfl (Nat.le_of_ble_eq_true rfl) ⟨(Nat.le_of_ble_eq_true rfl), (Nat.le_of_ble_eq_true rfl)⟩ ⟨(by show _ ≤ 600086; omega), (by show _ ≤ 7301442; omega)⟩ dL_law_1154 (fun _ _ h => h.elim) (fun v1154 Y1154 hp => ?_)
  obtain ⟨rfl, hS1154⟩ := hp
  refine V_iadd C dL_law_1157 ?_
  refine V_aload_n C dL_law_1158 rfl ?_
  refine V_iconst C dL_law_1159 ?_
  refine V_callV C (As := [_]) (q_account hl hS1154 (k := 2) (by decide)) kL_86 hS1154.ky rfl rfl (Nat.le_of_ble_eq_true rfl) ⟨(Nat.le_of_ble_eq_true rfl), (Nat.le_of_ble_eq_true rfl)⟩ ⟨(by show _ ≤ 600086; omega), (by show _ ≤ 7301442; omega)⟩ dL_law_1160 (fun _ _ h => h.elim) (fun v1160 Y1160 hp => ?_)
  obtain ⟨rfl, hS1160⟩ := hp
  refine V_iadd C dL_law_1163 ?_
  refine V_iload C dL_law_1164 rfl ?_
  refine V_icmp_eq C dL_law_1166 (by omega) (by omega) (fun h1166 => ?_) (fun h1166 => absurd h1166 (by omega))
  refine V_iinc C dL_law_1171 (by decide) rfl rfl ?_
  refine V_goto C dL_law_1174 ?_
  exact hend _ _ _ _ hS1160 (by omega) (by omega)
end LACT6
