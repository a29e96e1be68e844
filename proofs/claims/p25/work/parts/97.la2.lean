/-! the law: links -/
section LACT2
variable {p : Program} {l : Launch} {e : Env} {s : State} {m : MethodId} {args : Array Value} {below : List Frame} {meth : Method} {c : Code}
variable {D : va_G} {kA : Nat → ClassId} {b t0 sb y : Nat} {ad : Nat → Nat} {Q : State → Prop} {nm : String} {X : Mm} {Mr M : Mo} {n turn : Nat} {now ed nb x : Int} {a i w o : Nat} {u16 u17 u18 u19 : Option Value} {c1 s1 cB sB : Nat}

set_option maxHeartbeats 2000000 in
set_option maxRecDepth 20000 in
theorem l_link (C : Cx p l s m args meth c D kA b t0 20 RL nm cL_law) (hl : l.stackTraces = false) (hT : TS t0 ad y X Mr M n now ed nb) (hi : i < 3) (hw : w < 4) (ho : o < 4) (hrx : rng x) (hc : c1 + budC M ≤ cB) (hs : s1 + budS M ≤ sB) (hcB : cB ≤ 100000) (hsB : sB ≤ 4000000) (hnb : 0 ≤ nb ∧ nb ≤ 1200) (hend : LEnd p l e s m args below meth c D kA b t0 sb y ad Q turn x a i w o nb cB sB) : V p l e room_1 s m args below meth c D kA b 20 (c1) (s1) (Q) X (521) ([some (rv (some sb)), some (rv (some y)), some (rv (some (ad 0))), some (rv (some (ad 1))), some (rv (some (ad 2))), some (rv (some (ad 3))), some (rv (some (ad 4))), some (iv (n : Int)), some (iv now), some (iv ed), some (iv (turn : Int)), some (iv x), some (iv (a : Int)), some (iv (i : Int)), some (iv (w : Int)), some (iv (o : Int)), u16, u17, u18, u19]) ([]) := by
  obtain ⟨hS, hJ, hn36, hcs, hgd, ⟨hnow, hnn⟩, hed, hed0⟩ := id hT
  obtain ⟨jj, hI⟩ := hS.iv
  have o0 := hI.1.1
  unfold okSc at o0
  obtain ⟨c6, c13, c17, c30⟩ := hJ.1
  obtain ⟨so1, -⟩ := ts_so hI hJ hi
  refine V_iconst C dL_law_521 ?_
  refine V_istore C dL_law_522 (by decide) rfl ?_
  refine V_iconst C dL_law_524 ?_
  refine V_istore C dL_law_525 (by decide) rfl ?_
  refine V_while C (St := Nat × Mm × Nat × Nat) (f := fun z => z.2.1) (g := fun z => [some (rv (some sb)), some (rv (some y)), some (rv (some (ad 0))), some (rv (some (ad 1))), some (rv (some (ad 2))), some (rv (some (ad 3))), some (rv (some (ad 4))), some (iv (n : Int)), some (iv now), some (iv ed), some (iv (turn : Int)), some (iv x), some (iv (a : Int)), some (iv (i : Int)), some (iv (w : Int)), some (iv (o : Int)), some (iv (hrN M (i : Int) z.1)), some (iv (z.1 : Int)), u18, u19]) (cs := fun z => z.2.2.1) (ss := fun z => z.2.2.2) (μ := fun z => n + 1 - z.1) (I := fun z => z.1 ≤ n ∧ SX t0 ad y z.2.1 Mr M ∧ z.2.2.1 ≤ c1 + 4 * z.1 ∧ z.2.2.2 ≤ s1 + 24 * z.1) (x0 := (0, X, c1, s1)) rfl rfl rfl rfl ⟨Nat.zero_le _, hS, by show c1 ≤ c1 + 4 * 0; omega, by show s1 ≤ s1 + 24 * 0; omega⟩ ?_
  rintro ⟨k, Xk, c2, s2⟩ ⟨hk, hSk, hc2, hs2⟩ ih
  dsimp only at hk hSk hc2 hs2 ih ⊢
  refine V_iload C dL_law_527 rfl ?_
  refine V_iload C dL_law_529 rfl ?_
  refine V_icmp_ge C dL_law_531 (by omega) (by omega) (fun h531 => ?_) (fun h531 => ?_)
  · have ek : k = n := by omega
    rw [ek]
    have hsum : 0 ≤ hrN M (i : Int) n ∧ hrN M (i : Int) n ≤ 50000 * n := sumF_in (fun q hq => by
      obtain ⟨-, -, -, fv, -⟩ := ts_se hI hJ hq
      split <;> omega)
    rcases so1 with d10 | d10
    · refine V_aload_n C dL_law_570 rfl ?_
      refine V_iload C dL_law_571 rfl ?_
      refine V_aload C dL_law_573 rfl ?_
      refine V_iload C dL_law_575 rfl ?_
      refine V_ialdx C hSk.a4.1 hSk.a4.2.1 (show i < 3 by omega) (Nat.le_of_ble_eq_true rfl) (rfl) (x := 0) ((hSk.a4.2.2 i).trans (((hgd i hi).2).trans d10)) dL_law_577 ?_
      refine V_iconst C dL_law_578 ?_
      refine V_icmp_ne C dL_law_579 (by omega) (by omega) (fun h579 => ?_) (fun h579 => absurd h579 (by omega))
      refine V_iconst C dL_law_586 ?_
      obtain ⟨hJ2, hval, h0, hrows, hb1, hb2, h10⟩ := JI_dn (had := Mr.2 0) hI hJ hi d10
      obtain ⟨-, bd1, bd2⟩ := stK_lin (n := n) (z := (i : Int)) (u := 0) hI c30.symm (Or.inl rfl)
      refine V_callV C (As := [_, _]) (q_link hl hSk (n := n) (k := i) (u := 0) c30.symm (by omega) (Or.inl rfl) h0) kL_47 hSk.ky rfl rfl (Nat.le_of_ble_eq_true rfl) ⟨(Nat.le_of_ble_eq_true rfl), (Nat.le_of_ble_eq_true rfl)⟩ ⟨(by show _ ≤ 600086; omega), (by show _ ≤ 7301442; omega)⟩ dL_law_587 (fun _ _ h => h.elim) (fun v587 Y587 hp => ?_)
      obtain ⟨rfl, hS587⟩ := hp
      rw [hval]
      refine V_istore C dL_law_590 (by decide) rfl ?_
      refine V_iload C dL_law_592 rfl ?_
      refine V_aload C dL_law_594 rfl ?_
      refine V_iload C dL_law_596 rfl ?_
      refine V_ialdx C hS587.a4.1 hS587.a4.2.1 (show i < 3 by omega) (Nat.le_of_ble_eq_true rfl) (rfl) (x := 0) ((hS587.a4.2.2 i).trans (((hgd i hi).2).trans d10)) dL_law_598 ?_
      refine V_iconst C dL_law_599 ?_
      refine V_icmp_ne C dL_law_600 (by omega) (by omega) (fun h600 => ?_) (fun h600 => absurd h600 (by omega))
      refine V_iconst C dL_law_608 ?_
      refine V_icmp_eq C dL_law_609 (by omega) (by omega) (fun h609 => ?_) (fun h609 => absurd h609 (by omega))
      refine V_aload C dL_law_614 rfl ?_
      refine V_iload C dL_law_616 rfl ?_
      refine V_iconst C dL_law_618 ?_
      refine V_aload C dL_law_619 rfl ?_
      refine V_iload C dL_law_621 rfl ?_
      refine V_ialdx C hS587.a4.1 hS587.a4.2.1 (show i < 3 by omega) (Nat.le_of_ble_eq_true rfl) (rfl) (x := 0) ((hS587.a4.2.2 i).trans (((hgd i hi).2).trans d10)) dL_law_623 ?_
      refine V_isub C dL_law_624 ?_
      refine V_iast C (j := i) hS587.a4.1 hS587.a4.2.1 (show i < 3 by omega) (Nat.le_of_ble_eq_true rfl) (rfl) dL_law_625 ?_
      have hS625 := hS587.put 4 (i) ((1 - 0)) (by decide)
      refine V_iload C dL_law_626 rfl ?_
      refine V_aload C dL_law_628 rfl ?_
      refine V_iload C dL_law_630 rfl ?_
      refine V_ialdx C hS625.a4.1 hS625.a4.2.1 (show i < 3 by omega) (Nat.le_of_ble_eq_true rfl) (rfl) (x := 1) ((hS625.a4.2.2 i).trans (show (setA Mr 4 (i) (1 - 0)).2 4 i = 1 from (if_pos rfl).trans (by decide))) dL_law_632 ?_
      refine V_iconst C dL_law_633 ?_
      refine V_icmp_ne C dL_law_634 (by omega) (by omega) (fun h634 => absurd h634 (by omega)) (fun h634 => ?_)
      refine V_iconst C dL_law_637 ?_
      refine V_goto C dL_law_638 ?_
      refine V_ior C dL_law_642 (hed) (Or.inr rfl) ?_
      refine V_istore C dL_law_643 (by decide) rfl ?_
      refine V_goto C dL_law_645 ?_
      have r31 := hrows 31 (by omega)
      have r32 := hrows 32 (by omega)
      have r12 := hrows 12 (by omega)
      refine hend _ (linS M n i 0).1 (setA Mr 4 (i) ((1 - 0))) n now (if ed = 0 then 1 else 1) _ _ _ _ _ _ ⟨hS625, hJ2, hn36, fun j hj => ?_, fun q hq => ?_, ⟨hb1.trans hnow, by omega⟩, by split <;> omega, fun he => ?_⟩ (by omega) (by omega)
      · rw [r32, r31]
        exact hcs j hj
      · refine ⟨?_, ?_⟩
        · rw [r12]
          exact (hgd q hq).1
        · rw [h10 q]
          show (if q = i then ((1 - 0 : Int)) else Mr.2 4 q) = _
          rw [(hgd q hq).2]
          split <;> rfl
      · exact absurd he (by split <;> decide)
    · refine V_aload_n C dL_law_570 rfl ?_
      refine V_iload C dL_law_571 rfl ?_
      refine V_aload C dL_law_573 rfl ?_
      refine V_iload C dL_law_575 rfl ?_
      refine V_ialdx C hSk.a4.1 hSk.a4.2.1 (show i < 3 by omega) (Nat.le_of_ble_eq_true rfl) (rfl) (x := 1) ((hSk.a4.2.2 i).trans (((hgd i hi).2).trans d10)) dL_law_577 ?_
      refine V_iconst C dL_law_578 ?_
      refine V_icmp_ne C dL_law_579 (by omega) (by omega) (fun h579 => absurd h579 (by omega)) (fun h579 => ?_)
      refine V_iconst C dL_law_582 ?_
      refine V_goto C dL_law_583 ?_
      obtain ⟨hJ2, hval, h0, hrows, hb1, hb2, h10⟩ := JI_up (had := Mr.2 0) hI hJ hi d10
      obtain ⟨-, bd1, bd2⟩ := stK_lin (n := n) (z := (i : Int)) (u := 1) hI c30.symm (Or.inr rfl)
      refine V_callV C (As := [_, _]) (q_link hl hSk (n := n) (k := i) (u := 1) c30.symm (by omega) (Or.inr rfl) h0) kL_47 hSk.ky rfl rfl (Nat.le_of_ble_eq_true rfl) ⟨(Nat.le_of_ble_eq_true rfl), (Nat.le_of_ble_eq_true rfl)⟩ ⟨(by show _ ≤ 600086; omega), (by show _ ≤ 7301442; omega)⟩ dL_law_587 (fun _ _ h => h.elim) (fun v587 Y587 hp => ?_)
      obtain ⟨rfl, hS587⟩ := hp
      rw [hval]
      refine V_istore C dL_law_590 (by decide) rfl ?_
      refine V_iload C dL_law_592 rfl ?_
      refine V_aload C dL_law_594 rfl ?_
      refine V_iload C dL_law_596 rfl ?_
      refine V_ialdx C hS587.a4.1 hS587.a4.2.1 (show i < 3 by omega) (Nat.le_of_ble_eq_true rfl) (rfl) (x := 1) ((hS587.a4.2.2 i).trans (((hgd i hi).2).trans d10)) dL_law_598 ?_
      refine V_iconst C dL_law_599 ?_
      refine V_icmp_ne C dL_law_600 (by omega) (by omega) (fun h600 => absurd h600 (by omega)) (fun h600 => ?_)
      refine V_iload C dL_law_603 rfl ?_
      refine V_goto C dL_law_605 ?_
      refine V_icmp_eq C dL_law_609 (by omega) (by omega) (fun h609 => ?_) (fun h609 => absurd h609 (by omega))
      refine V_aload C dL_law_614 rfl ?_
      refine V_iload C dL_law_616 rfl ?_
      refine V_iconst C dL_law_618 ?_
      refine V_aload C dL_law_619 rfl ?_
      refine V_iload C dL_law_621 rfl ?_
      refine V_ialdx C hS587.a4.1 hS587.a4.2.1 (show i < 3 by omega) (Nat.le_of_ble_eq_true rfl) (rfl) (x := 1) ((hS587.a4.2.2 i).trans (((hgd i hi).2).trans d10)) dL_law_623 ?_
      refine V_isub C dL_law_624 ?_
      refine V_iast C (j := i) hS587.a4.1 hS587.a4.2.1 (show i < 3 by omega) (Nat.le_of_ble_eq_true rfl) (rfl) dL_law_625 ?_
      have hS625 := hS587.put 4 (i) ((1 - 1)) (by decide)
      refine V_iload C dL_law_626 rfl ?_
      refine V_aload C dL_law_628 rfl ?_
      refine V_iload C dL_law_630 rfl ?_
      refine V_ialdx C hS625.a4.1 hS625.a4.2.1 (show i < 3 by omega) (Nat.le_of_ble_eq_true rfl) (rfl) (x := 0) ((hS625.a4.2.2 i).trans (show (setA Mr 4 (i) (1 - 1)).2 4 i = 0 from (if_pos rfl).trans (by decide))) dL_law_632 ?_
      refine V_iconst C dL_law_633 ?_
      refine V_icmp_ne C dL_law_634 (by omega) (by omega) (fun h634 => ?_) (fun h634 => absurd h634 (by omega))
      refine V_iconst C dL_law_641 ?_
      refine V_ior C dL_law_642 (hed) (Or.inl rfl) ?_
      refine V_istore C dL_law_643 (by decide) rfl ?_
      refine V_goto C dL_law_645 ?_
      have r31 := hrows 31 (by omega)
      have r32 := hrows 32 (by omega)
      have r12 := hrows 12 (by omega)
      refine hend _ (linS M n i 1).1 (setA Mr 4 (i) ((1 - 1))) n now (if ed = 0 then 0 else 1) _ _ _ _ _ _ ⟨hS625, hJ2, hn36, fun j hj => ?_, fun q hq => ?_, ⟨hb1.trans hnow, by omega⟩, by split <;> omega, fun he => ?_⟩ (by omega) (by omega)
      · rw [r32, r31]
        exact hcs j hj
      · refine ⟨?_, ?_⟩
        · rw [r12]
          exact (hgd q hq).1
        · rw [h10 q]
          show (if q = i then ((1 - 1 : Int)) else Mr.2 4 q) = _
          rw [(hgd q hq).2]
          split <;> rfl
      · have e0 : ed = 0 := by
          by_cases z : ed = 0
          · exact z
          · rw [if_neg z] at he
            exact absurd he (by decide)
        have h7 := (hed0 e0).1 i hi
        omega
  · obtain ⟨⟨i2, hi2, f31, -⟩, f32, f34, fv, -⟩ := ts_se hI hJ (show k < n by omega)
    refine V_aload C dL_law_534 rfl ?_
    refine V_iload C dL_law_536 rfl ?_
    refine V_ialdx C hSk.a2.1 hSk.a2.2.1 (show k < 40 by omega) (Nat.le_of_ble_eq_true rfl) (rfl) (x := M.2 31 k) ((hSk.a2.2.2 k).trans ((hcs k (by omega)).2)) dL_law_538 ?_
    refine V_iload C dL_law_539 rfl ?_
    refine V_icmp_ne C dL_law_541 (by omega) (by omega) (fun h541 => ?_) (fun h541 => ?_)
    · refine V_iinc C dL_law_564 (by decide) rfl rfl ?_
      refine V_goto C dL_law_567 ?_
      have e16 : hrN M (i : Int) (k + 1) = hrN M (i : Int) k + 0 := by
        show hrN M (i : Int) k + (if M.2 31 k = (i : Int) then M.2 37 k - M.2 38 k else 0) = _
        rw [if_neg h541]
      have h9 := ih (k + 1, Xk, c2, s2) ⟨by show k + 1 ≤ n; omega, hSk, by show c2 ≤ c1 + 4 * (k + 1); omega, by show s2 ≤ s1 + 24 * (k + 1); omega⟩ (by show n + 1 - (k + 1) < n + 1 - k; omega)
      dsimp only at h9
      rw [e16, show ((k + 1 : Nat) : Int) = (k : Int) + 1 by omega] at h9
      rw [Int.add_zero] at h9
      exact h9
    · refine V_iload C dL_law_544 rfl ?_
      refine V_aload_n C dL_law_546 rfl ?_
      refine V_iload C dL_law_547 rfl ?_
      refine V_iconst C dL_law_549 ?_
      refine V_callV C (As := [_, _]) (q_of hl hSk (k := k) (by omega) (by decide) (of_2 (by omega))) kL_44 hSk.ky rfl rfl (Nat.le_of_ble_eq_true rfl) ⟨(Nat.le_of_ble_eq_true rfl), (Nat.le_of_ble_eq_true rfl)⟩ ⟨(by show _ ≤ 600086; omega), (by show _ ≤ 7301442; omega)⟩ dL_law_550 (fun _ _ h => h.elim) (fun v550 Y550 hp => ?_)
      obtain ⟨rfl, hS550⟩ := hp
      refine V_aload_n C dL_law_553 rfl ?_
      refine V_iload C dL_law_554 rfl ?_
      refine V_iconst C dL_law_556 ?_
      refine V_callV C (As := [_, _]) (q_of hl hS550 (k := k) (by omega) (by decide) (of_3 (by omega))) kL_44 hS550.ky rfl rfl (Nat.le_of_ble_eq_true rfl) ⟨(Nat.le_of_ble_eq_true rfl), (Nat.le_of_ble_eq_true rfl)⟩ ⟨(by show _ ≤ 600086; omega), (by show _ ≤ 7301442; omega)⟩ dL_law_557 (fun _ _ h => h.elim) (fun v557 Y557 hp => ?_)
      obtain ⟨rfl, hS557⟩ := hp
      refine V_isub C dL_law_560 ?_
      refine V_iadd C dL_law_561 ?_
      refine V_istore C dL_law_562 (by decide) rfl ?_
      refine V_iinc C dL_law_564 (by decide) rfl rfl ?_
      refine V_goto C dL_law_567 ?_
      have e16 : hrN M (i : Int) (k + 1) = hrN M (i : Int) k + (M.2 37 k - M.2 38 k) := by
        show hrN M (i : Int) k + (if M.2 31 k = (i : Int) then M.2 37 k - M.2 38 k else 0) = _
        rw [if_pos h541]
      have h9 := ih (k + 1, Y557, c2 + 2 + 2, s2 + 12 + 12) ⟨by show k + 1 ≤ n; omega, hS557, by show c2 + 2 + 2 ≤ c1 + 4 * (k + 1); omega, by show s2 + 12 + 12 ≤ s1 + 24 * (k + 1); omega⟩ (by show n + 1 - (k + 1) < n + 1 - k; omega)
      dsimp only at h9
      rw [e16, show ((k + 1 : Nat) : Int) = (k : Int) + 1 by omega] at h9
      exact h9
end LACT2
