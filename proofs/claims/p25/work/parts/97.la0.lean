/-! the law: what a turn does, the small acts -/
section LACT0
variable {p : Program} {l : Launch} {e : Env} {s : State} {m : MethodId} {args : Array Value} {below : List Frame} {meth : Method} {c : Code}
variable {D : va_G} {kA : Nat → ClassId} {b t0 sb y : Nat} {ad : Nat → Nat} {Q : State → Prop} {nm : String} {X : Mm} {Mr M : Mo} {n turn : Nat} {now ed nb x : Int} {a i w o : Nat} {u16 u17 u18 u19 : Option Value} {c1 s1 cB sB : Nat}

/-- what comes behind a turn's act -/
def LEnd (p : Program) (l : Launch) (e : Env) (s : State) (m : MethodId) (args : Array Value) (below : List Frame) (meth : Method) (c : Code) (D : va_G) (kA : Nat → ClassId) (b t0 sb y : Nat) (ad : Nat → Nat) (Q : State → Prop) (turn : Nat) (x : Int) (a i w o : Nat) (nb : Int) (cB sB : Nat) : Prop := ∀ (Y : Mm) (M2 Mr2 : Mo) (n2 : Nat) (now2 ed2 : Int) (v16 v17 v18 v19 : Option Value) (c2 s2 : Nat), TS t0 ad y Y Mr2 M2 n2 now2 ed2 (nb + 20) → c2 + budC M2 ≤ cB + 200 → s2 + budS M2 ≤ sB + 6000 → V p l e room_1 s m args below meth c D kA b 20 (c2) (s2) (Q) Y (837) ([some (rv (some sb)), some (rv (some y)), some (rv (some (ad 0))), some (rv (some (ad 1))), some (rv (some (ad 2))), some (rv (some (ad 3))), some (rv (some (ad 4))), some (iv (n2 : Int)), some (iv now2), some (iv ed2), some (iv (turn : Int)), some (iv x), some (iv (a : Int)), some (iv (i : Int)), some (iv (w : Int)), some (iv (o : Int)), v16, v17, v18, v19]) ([])
set_option maxHeartbeats 2000000 in
set_option maxRecDepth 20000 in
theorem l_fault (C : Cx p l s m args meth c D kA b t0 20 RL nm cL_law) (hl : l.stackTraces = false) (hT : TS t0 ad y X Mr M n now ed nb) (hi : i < 3) (hw : w < 4) (ho : o < 4) (hrx : rng x) (hc : c1 + budC M ≤ cB) (hs : s1 + budS M ≤ sB) (hcB : cB ≤ 100000) (hsB : sB ≤ 4000000) (hnb : 0 ≤ nb ∧ nb ≤ 1200) (hend : LEnd p l e s m args below meth c D kA b t0 sb y ad Q turn x a i w o nb cB sB) : V p l e room_1 s m args below meth c D kA b 20 (c1) (s1) (Q) X (654) ([some (rv (some sb)), some (rv (some y)), some (rv (some (ad 0))), some (rv (some (ad 1))), some (rv (some (ad 2))), some (rv (some (ad 3))), some (rv (some (ad 4))), some (iv (n : Int)), some (iv now), some (iv ed), some (iv (turn : Int)), some (iv x), some (iv (a : Int)), some (iv (i : Int)), some (iv (w : Int)), some (iv (o : Int)), u16, u17, u18, u19]) ([]) := by
  obtain ⟨hS, hJ, hn36, hcs, hgd, ⟨hnow, hnn⟩, hed, hed0⟩ := id hT
  obtain ⟨jj, hI⟩ := hS.iv
  have o0 := hI.1.1
  unfold okSc at o0
  obtain ⟨c6, c13, c17, c30⟩ := hJ.1
  refine V_aload_n C dL_law_654 rfl ?_
  refine V_iload C dL_law_655 rfl ?_
  refine V_iload C dL_law_657 rfl ?_
  refine V_if_ne C dL_law_659 (by omega) (fun h659 => ?_) (fun h659 => ?_)
  · refine V_iconst C dL_law_666 ?_
    refine V_callV C (As := [_, _]) (q_fault hl hS (k := i) (u := 0) (by omega) (Or.inl rfl)) kL_51 hS.ky rfl rfl (Nat.le_of_ble_eq_true rfl) ⟨(Nat.le_of_ble_eq_true rfl), (Nat.le_of_ble_eq_true rfl)⟩ ⟨(by show _ ≤ 600086; omega), (by show _ ≤ 7301442; omega)⟩ dL_law_667 (fun _ _ h => h.elim) (fun v667 Y667 hp => ?_)
    obtain ⟨⟨z9, rfl⟩, hS9⟩ := hp
    refine V_pop C dL_law_670 rfl ?_
    refine V_goto C dL_law_671 ?_
    have hb9 : budC (setA M 9 i 0) = budC M ∧ budS (setA M 9 i 0) = budS M := bud_eq rfl (fun _ => rfl)
    exact hend _ (setA M 9 i 0) Mr n now ed _ _ _ _ _ _ ⟨hS9, hJ, hn36, hcs, hgd, ⟨hnow, by omega⟩, hed, hed0⟩ (by omega) (by omega)
  · refine V_iconst C dL_law_662 ?_
    refine V_goto C dL_law_663 ?_
    refine V_callV C (As := [_, _]) (q_fault hl hS (k := i) (u := 1) (by omega) (Or.inr rfl)) kL_51 hS.ky rfl rfl (Nat.le_of_ble_eq_true rfl) ⟨(Nat.le_of_ble_eq_true rfl), (Nat.le_of_ble_eq_true rfl)⟩ ⟨(by show _ ≤ 600086; omega), (by show _ ≤ 7301442; omega)⟩ dL_law_667 (fun _ _ h => h.elim) (fun v667 Y667 hp => ?_)
    obtain ⟨⟨z9, rfl⟩, hS9⟩ := hp
    refine V_pop C dL_law_670 rfl ?_
    refine V_goto C dL_law_671 ?_
    have hb9 : budC (setA M 9 i 1) = budC M ∧ budS (setA M 9 i 1) = budS M := bud_eq rfl (fun _ => rfl)
    exact hend _ (setA M 9 i 1) Mr n now ed _ _ _ _ _ _ ⟨hS9, hJ, hn36, hcs, hgd, ⟨hnow, by omega⟩, hed, hed0⟩ (by omega) (by omega)
set_option maxHeartbeats 2000000 in
set_option maxRecDepth 20000 in
theorem l_good (C : Cx p l s m args meth c D kA b t0 20 RL nm cL_law) (hl : l.stackTraces = false) (hT : TS t0 ad y X Mr M n now ed nb) (hi : i < 3) (hw : w < 4) (ho : o < 4) (hrx : rng x) (hc : c1 + budC M ≤ cB) (hs : s1 + budS M ≤ sB) (hcB : cB ≤ 100000) (hsB : sB ≤ 4000000) (hnb : 0 ≤ nb ∧ nb ≤ 1200) (hend : LEnd p l e s m args below meth c D kA b t0 sb y ad Q turn x a i w o nb cB sB) : V p l e room_1 s m args below meth c D kA b 20 (c1) (s1) (Q) X (708) ([some (rv (some sb)), some (rv (some y)), some (rv (some (ad 0))), some (rv (some (ad 1))), some (rv (some (ad 2))), some (rv (some (ad 3))), some (rv (some (ad 4))), some (iv (n : Int)), some (iv now), some (iv ed), some (iv (turn : Int)), some (iv x), some (iv (a : Int)), some (iv (i : Int)), some (iv (w : Int)), some (iv (o : Int)), u16, u17, u18, u19]) ([]) := by
  obtain ⟨hS, hJ, hn36, hcs, hgd, ⟨hnow, hnn⟩, hed, hed0⟩ := id hT
  obtain ⟨jj, hI⟩ := hS.iv
  have o0 := hI.1.1
  unfold okSc at o0
  obtain ⟨c6, c13, c17, c30⟩ := hJ.1
  refine V_aload_n C dL_law_708 rfl ?_
  refine V_iload C dL_law_709 rfl ?_
  refine V_iload C dL_law_711 rfl ?_
  refine V_if_le C dL_law_713 (by omega) (fun h713 => ?_) (fun h713 => ?_)
  · refine V_iconst C dL_law_720 ?_
    refine V_callV C (As := [_, _]) (q_good hl hS (k := o) (u := 0) (by omega) (Or.inl rfl)) kL_58 hS.ky rfl rfl (Nat.le_of_ble_eq_true rfl) ⟨(Nat.le_of_ble_eq_true rfl), (Nat.le_of_ble_eq_true rfl)⟩ ⟨(by show _ ≤ 600086; omega), (by show _ ≤ 7301442; omega)⟩ dL_law_721 (fun _ _ h => h.elim) (fun v721 Y721 hp => ?_)
    obtain ⟨⟨z9, rfl⟩, hS9⟩ := hp
    refine V_pop C dL_law_724 rfl ?_
    refine V_goto C dL_law_725 ?_
    have hb9 : budC (setA M 20 o 0) = budC M ∧ budS (setA M 20 o 0) = budS M := bud_eq rfl (fun _ => rfl)
    exact hend _ (setA M 20 o 0) Mr n now ed _ _ _ _ _ _ ⟨hS9, hJ, hn36, hcs, hgd, ⟨hnow, by omega⟩, hed, hed0⟩ (by omega) (by omega)
  · refine V_iconst C dL_law_716 ?_
    refine V_goto C dL_law_717 ?_
    refine V_callV C (As := [_, _]) (q_good hl hS (k := o) (u := 1) (by omega) (Or.inr rfl)) kL_58 hS.ky rfl rfl (Nat.le_of_ble_eq_true rfl) ⟨(Nat.le_of_ble_eq_true rfl), (Nat.le_of_ble_eq_true rfl)⟩ ⟨(by show _ ≤ 600086; omega), (by show _ ≤ 7301442; omega)⟩ dL_law_721 (fun _ _ h => h.elim) (fun v721 Y721 hp => ?_)
    obtain ⟨⟨z9, rfl⟩, hS9⟩ := hp
    refine V_pop C dL_law_724 rfl ?_
    refine V_goto C dL_law_725 ?_
    have hb9 : budC (setA M 20 o 1) = budC M ∧ budS (setA M 20 o 1) = budS M := bud_eq rfl (fun _ => rfl)
    exact hend _ (setA M 20 o 1) Mr n now ed _ _ _ _ _ _ ⟨hS9, hJ, hn36, hcs, hgd, ⟨hnow, by omega⟩, hed, hed0⟩ (by omega) (by omega)
set_option maxHeartbeats 2000000 in
set_option maxRecDepth 20000 in
theorem l_set (C : Cx p l s m args meth c D kA b t0 20 RL nm cL_law) (hl : l.stackTraces = false) (hT : TS t0 ad y X Mr M n now ed nb) (hi : i < 3) (hw : w < 4) (ho : o < 4) (hrx : rng x) (hc : c1 + budC M ≤ cB) (hs : s1 + budS M ≤ sB) (hcB : cB ≤ 100000) (hsB : sB ≤ 4000000) (hnb : 0 ≤ nb ∧ nb ≤ 1200) (hend : LEnd p l e s m args below meth c D kA b t0 sb y ad Q turn x a i w o nb cB sB) : V p l e room_1 s m args below meth c D kA b 20 (c1) (s1) (Q) X (681) ([some (rv (some sb)), some (rv (some y)), some (rv (some (ad 0))), some (rv (some (ad 1))), some (rv (some (ad 2))), some (rv (some (ad 3))), some (rv (some (ad 4))), some (iv (n : Int)), some (iv now), some (iv ed), some (iv (turn : Int)), some (iv x), some (iv (a : Int)), some (iv (i : Int)), some (iv (w : Int)), some (iv (o : Int)), u16, u17, u18, u19]) ([]) := by
  obtain ⟨hS, hJ, hn36, hcs, hgd, ⟨hnow, hnn⟩, hed, hed0⟩ := id hT
  obtain ⟨jj, hI⟩ := hS.iv
  have o0 := hI.1.1
  unfold okSc at o0
  obtain ⟨c6, c13, c17, c30⟩ := hJ.1
  refine V_aload_n C dL_law_681 rfl ?_
  refine V_iconst C dL_law_682 ?_
  refine V_iload C dL_law_683 rfl ?_
  refine V_bipush C dL_law_685 (by decide) ?_
  refine V_ishrX C dL_law_687 (fun x687 hx687 => ?_)
  refine V_sipush C dL_law_688 (by decide) ?_
  refine V_at C hl (by omega) (Nat.le_of_ble_eq_true rfl) ⟨(Nat.le_of_ble_eq_true rfl), (Nat.le_of_ble_eq_true rfl)⟩ ⟨(by show _ ≤ 600086; omega), (by show _ ≤ 7301442; omega)⟩ dL_law_691 (fun z691 hz691 => ?_)
  refine V_callV C (As := [_, _]) (q_set hl hS (x := 0) (u := (z691 : Int)) (Or.inl ⟨rfl, by omega, by omega⟩)) kL_55 hS.ky rfl rfl (Nat.le_of_ble_eq_true rfl) ⟨(Nat.le_of_ble_eq_true rfl), (Nat.le_of_ble_eq_true rfl)⟩ ⟨(by show _ ≤ 600086; omega), (by show _ ≤ 7301442; omega)⟩ dL_law_694 (fun _ _ h => h.elim) (fun v694 Y694 hp => ?_)
  obtain ⟨⟨z9, rfl, hz9, -⟩, a9, d9, e9, hS9⟩ := hp
  refine V_pop C dL_law_697 rfl ?_
  refine V_goto C dL_law_698 ?_
  have hb9 : budC (sgM M a9 d9 e9) = budC M ∧ budS (sgM M a9 d9 e9) = budS M := bud_eq rfl (fun _ => rfl)
  exact hend _ (sgM M a9 d9 e9) Mr n now ed _ _ _ _ _ _ ⟨hS9, hJ, hn36, hcs, hgd, ⟨hnow, by omega⟩, hed, hed0⟩ (by omega) (by omega)
set_option maxHeartbeats 2000000 in
set_option maxRecDepth 20000 in
theorem l_deg (C : Cx p l s m args meth c D kA b t0 20 RL nm cL_law) (hl : l.stackTraces = false) (hT : TS t0 ad y X Mr M n now ed nb) (hi : i < 3) (hw : w < 4) (ho : o < 4) (hrx : rng x) (hc : c1 + budC M ≤ cB) (hs : s1 + budS M ≤ sB) (hcB : cB ≤ 100000) (hsB : sB ≤ 4000000) (hnb : 0 ≤ nb ∧ nb ≤ 1200) (hend : LEnd p l e s m args below meth c D kA b t0 sb y ad Q turn x a i w o nb cB sB) : V p l e room_1 s m args below meth c D kA b 20 (c1) (s1) (Q) X (735) ([some (rv (some sb)), some (rv (some y)), some (rv (some (ad 0))), some (rv (some (ad 1))), some (rv (some (ad 2))), some (rv (some (ad 3))), some (rv (some (ad 4))), some (iv (n : Int)), some (iv now), some (iv ed), some (iv (turn : Int)), some (iv x), some (iv (a : Int)), some (iv (i : Int)), some (iv (w : Int)), some (iv (o : Int)), u16, u17, u18, u19]) ([]) := by
  obtain ⟨hS, hJ, hn36, hcs, hgd, ⟨hnow, hnn⟩, hed, hed0⟩ := id hT
  obtain ⟨jj, hI⟩ := hS.iv
  have o0 := hI.1.1
  unfold okSc at o0
  obtain ⟨c6, c13, c17, c30⟩ := hJ.1
  refine V_aload_n C dL_law_735 rfl ?_
  refine V_iconst C dL_law_736 ?_
  refine V_bipush C dL_law_737 (by decide) ?_
  refine V_iload C dL_law_739 rfl ?_
  refine V_imul C dL_law_741 ?_
  refine V_bipush C dL_law_742 (by decide) ?_
  refine V_isub C dL_law_744 ?_
  refine V_callV C (As := [_, _]) (q_set hl hS (x := 2) (u := ((10 * (w : Int)) - 30)) (Or.inr ⟨rfl, by omega, by omega⟩)) kL_55 hS.ky rfl rfl (Nat.le_of_ble_eq_true rfl) ⟨(Nat.le_of_ble_eq_true rfl), (Nat.le_of_ble_eq_true rfl)⟩ ⟨(by show _ ≤ 600086; omega), (by show _ ≤ 7301442; omega)⟩ dL_law_745 (fun _ _ h => h.elim) (fun v745 Y745 hp => ?_)
  obtain ⟨⟨z9, rfl, hz9, hz8⟩, a9, d9, e9, hS9⟩ := hp
  have hz7 := hz8 rfl
  refine V_bipush C dL_law_748 (by decide) ?_
  refine V_icmp_ge C dL_law_750 (by omega) (by omega) (fun h750 => ?_) (fun h750 => absurd h750 (by omega))
  have hb9 : budC (sgM M a9 d9 e9) = budC M ∧ budS (sgM M a9 d9 e9) = budS M := bud_eq rfl (fun _ => rfl)
  exact hend _ (sgM M a9 d9 e9) Mr n now ed _ _ _ _ _ _ ⟨hS9, hJ, hn36, hcs, hgd, ⟨hnow, by omega⟩, hed, hed0⟩ (by omega) (by omega)
set_option maxHeartbeats 2000000 in
set_option maxRecDepth 20000 in
theorem l_pass (C : Cx p l s m args meth c D kA b t0 20 RL nm cL_law) (hl : l.stackTraces = false) (hT : TS t0 ad y X Mr M n now ed nb) (hi : i < 3) (hw : w < 4) (ho : o < 4) (hrx : rng x) (hc : c1 + budC M ≤ cB) (hs : s1 + budS M ≤ sB) (hcB : cB ≤ 100000) (hsB : sB ≤ 4000000) (hnb : 0 ≤ nb ∧ nb ≤ 1200) (hend : LEnd p l e s m args below meth c D kA b t0 sb y ad Q turn x a i w o nb cB sB) : V p l e room_1 s m args below meth c D kA b 20 (c1) (s1) (Q) X (762) ([some (rv (some sb)), some (rv (some y)), some (rv (some (ad 0))), some (rv (some (ad 1))), some (rv (some (ad 2))), some (rv (some (ad 3))), some (rv (some (ad 4))), some (iv (n : Int)), some (iv now), some (iv ed), some (iv (turn : Int)), some (iv x), some (iv (a : Int)), some (iv (i : Int)), some (iv (w : Int)), some (iv (o : Int)), u16, u17, u18, u19]) ([]) := by
  obtain ⟨hS, hJ, hn36, hcs, hgd, ⟨hnow, hnn⟩, hed, hed0⟩ := id hT
  obtain ⟨jj, hI⟩ := hS.iv
  have o0 := hI.1.1
  unfold okSc at o0
  obtain ⟨c6, c13, c17, c30⟩ := hJ.1
  refine V_iconst C dL_law_762 ?_
  refine V_iload C dL_law_763 rfl ?_
  refine V_bipush C dL_law_765 (by decide) ?_
  refine V_ishrX C dL_law_767 (fun x767 hx767 => ?_)
  refine V_bipush C dL_law_768 (by decide) ?_
  refine V_at C hl (by omega) (Nat.le_of_ble_eq_true rfl) ⟨(Nat.le_of_ble_eq_true rfl), (Nat.le_of_ble_eq_true rfl)⟩ ⟨(by show _ ≤ 600086; omega), (by show _ ≤ 7301442; omega)⟩ dL_law_770 (fun z770 hz770 => ?_)
  refine V_iadd C dL_law_773 ?_
  obtain ⟨g, hg⟩ : ∃ g : Nat, (1 : Int) + (z770 : Int) = (g : Int) := ⟨1 + z770, by omega⟩
  rw [hg]
  refine V_istore C dL_law_774 (by decide) rfl ?_
  refine V_aload_n C dL_law_776 rfl ?_
  refine V_callV C (As := []) (q_overloads hl hS) kL_61 hS.ky rfl rfl (Nat.le_of_ble_eq_true rfl) ⟨(Nat.le_of_ble_eq_true rfl), (Nat.le_of_ble_eq_true rfl)⟩ ⟨(by show _ ≤ 600086; omega), (by show _ ≤ 7301442; omega)⟩ dL_law_777 (fun _ _ h => h.elim) (fun v777 Y777 hp => ?_)
  obtain ⟨rfl, hS777⟩ := hp
  refine V_istore C dL_law_780 (by decide) rfl ?_
  refine V_iload C dL_law_782 rfl ?_
  refine V_iload C dL_law_784 rfl ?_
  refine V_iadd C dL_law_786 ?_
  refine V_istore C dL_law_787 (by decide) rfl ?_
  refine V_aload_n C dL_law_789 rfl ?_
  refine V_iload C dL_law_790 rfl ?_
  obtain ⟨bd1, bd2⟩ := bud_pc (M := M) (jj := jj) (n := n) (g := g) c30.symm
  have hle : M.1 1 + (g : Int) ≤ 20000 := by omega
  obtain ⟨hJ9, ho9, hz9, hr9⟩ := JI_pcN hI hJ g hle
  obtain ⟨t9, -, t1⟩ := pcN_t M n g
  refine V_callV C (As := [_]) (q_pass hl hS777 (n := n) (g := g) c30.symm (by omega) hle) kL_65 hS777.ky rfl rfl (Nat.le_of_ble_eq_true rfl) ⟨(Nat.le_of_ble_eq_true rfl), (Nat.le_of_ble_eq_true rfl)⟩ ⟨(by show _ ≤ 600086; omega), (by show _ ≤ 7301442; omega)⟩ dL_law_792 (fun _ _ h => h.elim) (fun v792 Y792 hp => ?_)
  obtain ⟨rfl, hS792⟩ := hp
  have r10 := hr9 10 (by omega)
  have r12 := hr9 12 (by omega)
  have r31 := hr9 31 (by omega)
  have r32 := hr9 32 (by omega)
  refine V_iload C dL_law_795 rfl ?_
  refine V_icmp_eq C dL_law_797 (by omega) (by omega) (fun h797 => ?_) (fun h797 => absurd h797 (by omega))
  refine V_aload_n C dL_law_802 rfl ?_
  refine V_callV C (As := []) (q_overloads hl hS792) kL_61 hS792.ky rfl rfl (Nat.le_of_ble_eq_true rfl) ⟨(Nat.le_of_ble_eq_true rfl), (Nat.le_of_ble_eq_true rfl)⟩ ⟨(by show _ ≤ 600086; omega), (by show _ ≤ 7301442; omega)⟩ dL_law_803 (fun _ _ h => h.elim) (fun v803 Y803 hp => ?_)
  obtain ⟨rfl, hS803⟩ := hp
  refine V_iload C dL_law_806 rfl ?_
  refine V_icmp_lt C dL_law_808 (by omega) (by omega) (fun h808 => absurd h808 (by omega)) (fun h808 => ?_)
  refine V_aload_n C dL_law_811 rfl ?_
  refine V_callV C (As := []) (q_overloads hl hS803) kL_61 hS803.ky rfl rfl (Nat.le_of_ble_eq_true rfl) ⟨(Nat.le_of_ble_eq_true rfl), (Nat.le_of_ble_eq_true rfl)⟩ ⟨(by show _ ≤ 600086; omega), (by show _ ≤ 7301442; omega)⟩ dL_law_812 (fun _ _ h => h.elim) (fun v812 Y812 hp => ?_)
  obtain ⟨rfl, hS812⟩ := hp
  refine V_iload C dL_law_815 rfl ?_
  refine V_iload C dL_law_817 rfl ?_
  refine V_iadd C dL_law_819 ?_
  refine V_icmp_gt C dL_law_820 (by omega) (by omega) (fun h820 => absurd h820 (by omega)) (fun h820 => ?_)
  refine V_iload C dL_law_823 rfl ?_
  refine V_if_ne C dL_law_825 (by omega) (fun h825 => ?_) (fun h825 => ?_)
  · refine hend _ (pcN M n g) Mr n (now + (g : Int)) ed _ _ _ _ _ _ ⟨hS812, hJ9, hn36, fun j hj => ?_, fun k hk => ?_, ⟨by omega, by omega⟩, hed, fun he => ⟨fun k hk => ?_, ?_⟩⟩ (by omega) (by omega)
    · rw [r32, r31]
      exact hcs j hj
    · rw [r12, r10]
      exact hgd k hk
    · rw [r10]
      exact (hed0 he).1 k hk
    · rw [hz9 (hed0 he).1]
      exact (hed0 he).2
  · refine V_aload_n C dL_law_828 rfl ?_
    refine V_callV C (As := []) (q_overloads hl hS812) kL_61 hS812.ky rfl rfl (Nat.le_of_ble_eq_true rfl) ⟨(Nat.le_of_ble_eq_true rfl), (Nat.le_of_ble_eq_true rfl)⟩ ⟨(by show _ ≤ 600086; omega), (by show _ ≤ 7301442; omega)⟩ dL_law_829 (fun _ _ h => h.elim) (fun v829 Y829 hp => ?_)
    obtain ⟨rfl, hS829⟩ := hp
    refine V_if_eq C dL_law_832 (by omega) (fun h832 => ?_) (fun h832 => absurd h832 (fun z => z (by have h7 := hed0 (by omega); rw [hz9 h7.1]; exact h7.2)))
    refine hend _ (pcN M n g) Mr n (now + (g : Int)) ed _ _ _ _ _ _ ⟨hS829, hJ9, hn36, fun j hj => ?_, fun k hk => ?_, ⟨by omega, by omega⟩, hed, fun he => ⟨fun k hk => ?_, ?_⟩⟩ (by omega) (by omega)
    · rw [r32, r31]
      exact hcs j hj
    · rw [r12, r10]
      exact hgd k hk
    · rw [r10]
      exact (hed0 he).1 k hk
    · rw [hz9 (hed0 he).1]
      exact (hed0 he).2
end LACT0
