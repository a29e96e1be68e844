/-! the law: what it looks at behind each turn, charges -/
def chS (M : Mo) (k j : Nat) : Int := sumF (fun q => if M.2 32 q = (k : Int) then M.2 35 q else 0) j
section LACT5
variable {p : Program} {l : Launch} {e : Env} {s : State} {m : MethodId} {args : Array Value} {below : List Frame} {meth : Method} {c : Code}
variable {D : va_G} {kA : Nat → ClassId} {b t0 sb y : Nat} {ad : Nat → Nat} {Q : State → Prop} {nm : String} {X : Mm} {Mr M : Mo} {n turn : Nat} {now ed nb x : Int} {a i w o : Nat} {u16 u17 u18 u19 : Option Value} {c1 s1 cB sB : Nat}

set_option maxHeartbeats 2000000 in
set_option maxRecDepth 20000 in
theorem l_ch1 (C : Cx p l s m args meth c D kA b t0 20 RL nm cL_law) (hl : l.stackTraces = false) (hT : TS t0 ad y X Mr M n now ed nb) (ht : turn < 60) (hcB : c1 ≤ 200000) (hsB : s1 ≤ 6000000) (hend : ∀ (Y : Mm) (v16 v17 v18 : Option Value) (c2 s2 : Nat), SX t0 ad y Y Mr M → c2 ≤ c1 + 300 → s2 ≤ s1 + 1800 → V p l e room_1 s m args below meth c D kA b 20 (c2) (s2) (Q) Y (908) ([some (rv (some sb)), some (rv (some y)), some (rv (some (ad 0))), some (rv (some (ad 1))), some (rv (some (ad 2))), some (rv (some (ad 3))), some (rv (some (ad 4))), some (iv (n : Int)), some (iv now), some (iv ed), some (iv (turn : Int)), some (iv x), some (iv (a : Int)), some (iv (i : Int)), some (iv (w : Int)), some (iv (o : Int)), v16, v17, v18, u19]) ([])) : V p l e room_1 s m args below meth c D kA b 20 (c1) (s1) (Q) X (837) ([some (rv (some sb)), some (rv (some y)), some (rv (some (ad 0))), some (rv (some (ad 1))), some (rv (some (ad 2))), some (rv (some (ad 3))), some (rv (some (ad 4))), some (iv (n : Int)), some (iv now), some (iv ed), some (iv (turn : Int)), some (iv x), some (iv (a : Int)), some (iv (i : Int)), some (iv (w : Int)), some (iv (o : Int)), u16, u17, u18, u19]) ([]) := by
  obtain ⟨hS, hJ, hn36, hcs, hgd, ⟨hnow, hnn⟩, hed, hed0⟩ := id hT
  obtain ⟨jj, hI⟩ := hS.iv
  have o0 := hI.1.1
  unfold okSc at o0
  obtain ⟨c6, c13, c17, c30⟩ := hJ.1
  refine V_iconst C dL_law_837 ?_
  refine V_istore C dL_law_838 (by decide) rfl ?_
  refine V_while C (St := Nat × Mm × Nat × Nat × Option Value × Option Value) (f := fun z => z.2.1) (g := fun z => [some (rv (some sb)), some (rv (some y)), some (rv (some (ad 0))), some (rv (some (ad 1))), some (rv (some (ad 2))), some (rv (some (ad 3))), some (rv (some (ad 4))), some (iv (n : Int)), some (iv now), some (iv ed), some (iv (turn : Int)), some (iv x), some (iv (a : Int)), some (iv (i : Int)), some (iv (w : Int)), some (iv (o : Int)), some (iv (z.1 : Int)), z.2.2.2.2.1, z.2.2.2.2.2, u19]) (cs := fun z => z.2.2.1) (ss := fun z => z.2.2.2.1) (μ := fun z => 5 - z.1) (I := fun z => z.1 ≤ 4 ∧ SX t0 ad y z.2.1 Mr M ∧ z.2.2.1 ≤ c1 + 73 * z.1 ∧ z.2.2.2.1 ≤ s1 + 438 * z.1) (x0 := (0, X, c1, s1, u17, u18)) rfl rfl rfl rfl ⟨Nat.zero_le _, hS, by show c1 ≤ c1 + 73 * 0; omega, by show s1 ≤ s1 + 438 * 0; omega⟩ ?_
  rintro ⟨k, Xk, ck, sk, v17, v18⟩ ⟨hk, hSk, hck, hsk⟩ ih
  dsimp only at hk hSk hck hsk ih ⊢
  refine V_iload C dL_law_840 rfl ?_
  refine V_iconst C dL_law_842 ?_
  refine V_icmp_ge C dL_law_843 (by omega) (by omega) (fun h843 => ?_) (fun h843 => ?_)
  · exact hend _ _ _ _ _ _ hSk (by omega) (by omega)
  · have hch : M.2 15 k = Mr.2 0 k + chS M k n := hJ.2.1 k (by omega)
    have oca := hI.1.2.2.1 k (by omega)
    unfold okCa at oca
    refine V_aload_n C dL_law_846 rfl ?_
    refine V_iload C dL_law_847 rfl ?_
    refine V_ialdx C hSk.a0.1 hSk.a0.2.1 (show k < 4 by omega) (Nat.le_of_ble_eq_true rfl) (rfl) (x := (Mr.2 0 k + chS M k 0)) ((hSk.a0.2.2 k).trans (show Mr.2 0 k = Mr.2 0 k + 0 from (Int.add_zero _).symm)) dL_law_849 ?_
    refine V_istore C dL_law_850 (by decide) rfl ?_
    refine V_iconst C dL_law_852 ?_
    refine V_istore C dL_law_853 (by decide) rfl ?_
    refine V_while C (St := Nat × Mm × Nat × Nat) (f := fun z => z.2.1) (g := fun z => [some (rv (some sb)), some (rv (some y)), some (rv (some (ad 0))), some (rv (some (ad 1))), some (rv (some (ad 2))), some (rv (some (ad 3))), some (rv (some (ad 4))), some (iv (n : Int)), some (iv now), some (iv ed), some (iv (turn : Int)), some (iv x), some (iv (a : Int)), some (iv (i : Int)), some (iv (w : Int)), some (iv (o : Int)), some (iv (k : Int)), some (iv (Mr.2 0 k + chS M k z.1)), some (iv (z.1 : Int)), u19]) (cs := fun z => z.2.2.1) (ss := fun z => z.2.2.2) (μ := fun z => n + 1 - z.1) (I := fun z => z.1 ≤ n ∧ SX t0 ad y z.2.1 Mr M ∧ z.2.2.1 ≤ ck + 2 * z.1 ∧ z.2.2.2 ≤ sk + 12 * z.1) (x0 := (0, Xk, ck, sk)) rfl rfl rfl rfl ⟨Nat.zero_le _, hSk, by show ck ≤ ck + 2 * 0; omega, by show sk ≤ sk + 12 * 0; omega⟩ ?_
    rintro ⟨j, Xj, cj, sj⟩ ⟨hj, hSj, hcj, hsj⟩ ih2
    dsimp only at hj hSj hcj hsj ih2 ⊢
    refine V_iload C dL_law_855 rfl ?_
    refine V_iload C dL_law_857 rfl ?_
    refine V_icmp_ge C dL_law_859 (by omega) (by omega) (fun h859 => ?_) (fun h859 => ?_)
    · have ej : j = n := by omega
      rw [ej]
      refine V_aload_n C dL_law_889 rfl ?_
      refine V_iload C dL_law_890 rfl ?_
      refine V_callV C (As := [_]) (q_charge hl hSj (k := k) (by omega)) kL_68 hSj.ky rfl rfl (Nat.le_of_ble_eq_true rfl) ⟨(Nat.le_of_ble_eq_true rfl), (Nat.le_of_ble_eq_true rfl)⟩ ⟨(by show _ ≤ 600086; omega), (by show _ ≤ 7301442; omega)⟩ dL_law_892 (fun _ _ h => h.elim) (fun v892 Y892 hp => ?_)
      obtain ⟨rfl, hS892⟩ := hp
      refine V_iload C dL_law_895 rfl ?_
      refine V_icmp_eq C dL_law_897 (by omega) (by omega) (fun h897 => ?_) (fun h897 => absurd h897 (by omega))
      refine V_iinc C dL_law_902 (by decide) rfl rfl ?_
      refine V_goto C dL_law_905 ?_
      have h9 := ih (k + 1, Y892, cj + 1, sj + 6, (some (iv (Mr.2 0 k + chS M k n))), (some (iv (n : Int)))) ⟨by show k + 1 ≤ 4; omega, hS892, by show cj + 1 ≤ c1 + 73 * (k + 1); omega, by show sj + 6 ≤ s1 + 438 * (k + 1); omega⟩ (by show 5 - (k + 1) < 5 - k; omega)
      dsimp only at h9
      rw [show ((k + 1 : Nat) : Int) = (k : Int) + 1 by omega] at h9
      exact h9
    · obtain ⟨-, f32, -⟩ := ts_se hI hJ (show j < n by omega)
      refine V_aload_n C dL_law_862 rfl ?_
      refine V_iload C dL_law_863 rfl ?_
      refine V_ialdx C hSj.a1.1 hSj.a1.2.1 (show j < 40 by omega) (Nat.le_of_ble_eq_true rfl) (rfl) (x := M.2 32 j) ((hSj.a1.2.2 j).trans ((hcs j (by omega)).1)) dL_law_865 ?_
      refine V_iload C dL_law_866 rfl ?_
      refine V_icmp_ne C dL_law_868 (by omega) (by omega) (fun h868 => ?_) (fun h868 => ?_)
      · refine V_iinc C dL_law_883 (by decide) rfl rfl ?_
        refine V_goto C dL_law_886 ?_
        have e17 : chS M k (j + 1) = chS M k j + 0 := by
          show chS M k j + (if M.2 32 j = (k : Int) then M.2 35 j else 0) = _
          rw [if_neg h868]
        have h9 := ih2 (j + 1, Xj, cj, sj) ⟨by show j + 1 ≤ n; omega, hSj, by show cj ≤ ck + 2 * (j + 1); omega, by show sj ≤ sk + 12 * (j + 1); omega⟩ (by show n + 1 - (j + 1) < n + 1 - j; omega)
        dsimp only at h9
        rw [e17, show ((j + 1 : Nat) : Int) = (j : Int) + 1 by omega, Int.add_zero] at h9
        exact h9
      · refine V_iload C dL_law_871 rfl ?_
        refine V_aload_n C dL_law_873 rfl ?_
        refine V_iload C dL_law_874 rfl ?_
        refine V_iconst C dL_law_876 ?_
        refine V_callV C (As := [_, _]) (q_of hl hSj (k := j) (by omega) (by decide) (of_1 (by omega))) kL_44 hSj.ky rfl rfl (Nat.le_of_ble_eq_true rfl) ⟨(Nat.le_of_ble_eq_true rfl), (Nat.le_of_ble_eq_true rfl)⟩ ⟨(by show _ ≤ 600086; omega), (by show _ ≤ 7301442; omega)⟩ dL_law_877 (fun _ _ h => h.elim) (fun v877 Y877 hp => ?_)
        obtain ⟨rfl, hS877⟩ := hp
        refine V_iadd C dL_law_880 ?_
        refine V_istore C dL_law_881 (by decide) rfl ?_
        refine V_iinc C dL_law_883 (by decide) rfl rfl ?_
        refine V_goto C dL_law_886 ?_
        have e17 : chS M k (j + 1) = chS M k j + M.2 35 j := by
          show chS M k j + (if M.2 32 j = (k : Int) then M.2 35 j else 0) = _
          rw [if_pos h868]
        have h9 := ih2 (j + 1, Y877, cj + 2, sj + 12) ⟨by show j + 1 ≤ n; omega, hS877, by show cj + 2 ≤ ck + 2 * (j + 1); omega, by show sj + 12 ≤ sk + 12 * (j + 1); omega⟩ (by show n + 1 - (j + 1) < n + 1 - j; omega)
        dsimp only at h9
        rw [e17, show ((j + 1 : Nat) : Int) = (j : Int) + 1 by omega, ← Int.add_assoc] at h9
        exact h9
end LACT5
