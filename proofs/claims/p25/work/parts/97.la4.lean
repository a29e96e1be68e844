/-! the law: which act -/
section LACT4
variable {p : Program} {l : Launch} {e : Env} {s : State} {m : MethodId} {args : Array Value} {below : List Frame} {meth : Method} {c : Code}
variable {D : va_G} {kA : Nat → ClassId} {b t0 sb y : Nat} {ad : Nat → Nat} {Q : State → Prop} {nm : String} {X : Mm} {Mr M : Mo} {n turn : Nat} {now ed nb x : Int} {a i w o : Nat} {u16 u17 u18 u19 : Option Value} {c1 s1 cB sB : Nat}

set_option maxHeartbeats 2000000 in
set_option maxRecDepth 20000 in
theorem l_rest (C : Cx p l s m args meth c D kA b t0 20 RL nm cL_law) (hl : l.stackTraces = false) (hT : TS t0 ad y X Mr M n now ed nb) (hi : i < 3) (hw : w < 4) (ho : o < 4) (ha : a < 12) (hrx : rng x) (hc : c1 + budC M ≤ cB) (hs : s1 + budS M ≤ sB) (hcB : cB ≤ 100000) (hsB : sB ≤ 4000000) (hnb : 0 ≤ nb ∧ nb ≤ 1200) (hend : LEnd p l e s m args below meth c D kA b t0 sb y ad Q turn x a i w o nb cB sB) : V p l e room_1 s m args below meth c D kA b 20 (c1) (s1) (Q) X (515) ([some (rv (some sb)), some (rv (some y)), some (rv (some (ad 0))), some (rv (some (ad 1))), some (rv (some (ad 2))), some (rv (some (ad 3))), some (rv (some (ad 4))), some (iv (n : Int)), some (iv now), some (iv ed), some (iv (turn : Int)), some (iv x), some (iv (a : Int)), some (iv (i : Int)), some (iv (w : Int)), some (iv (o : Int)), u16, u17, u18, u19]) ([]) := by
  obtain ⟨hS, hJ, hn36, hcs, hgd, ⟨hnow, hnn⟩, hed, hed0⟩ := id hT
  obtain ⟨jj, hI⟩ := hS.iv
  have o0 := hI.1.1
  unfold okSc at o0
  obtain ⟨c6, c13, c17, c30⟩ := hJ.1
  refine V_iload C dL_law_515 rfl ?_
  refine V_iconst C dL_law_517 ?_
  refine V_icmp_ne C dL_law_518 (by omega) (by omega) (fun h518 => ?_) (fun h518 => ?_)
  · refine V_iload C dL_law_648 rfl ?_
    refine V_iconst C dL_law_650 ?_
    refine V_icmp_ne C dL_law_651 (by omega) (by omega) (fun h651 => ?_) (fun h651 => ?_)
    · refine V_iload C dL_law_674 rfl ?_
      refine V_bipush C dL_law_676 (by decide) ?_
      refine V_icmp_ne C dL_law_678 (by omega) (by omega) (fun h678 => ?_) (fun h678 => ?_)
      · refine V_iload C dL_law_701 rfl ?_
        refine V_bipush C dL_law_703 (by decide) ?_
        refine V_icmp_ne C dL_law_705 (by omega) (by omega) (fun h705 => ?_) (fun h705 => ?_)
        · refine V_iload C dL_law_728 rfl ?_
          refine V_bipush C dL_law_730 (by decide) ?_
          refine V_icmp_ne C dL_law_732 (by omega) (by omega) (fun h732 => ?_) (fun h732 => ?_)
          · refine V_iload C dL_law_755 rfl ?_
            refine V_bipush C dL_law_757 (by decide) ?_
            refine V_icmp_le C dL_law_759 (by omega) (by omega) (fun h759 => ?_) (fun h759 => ?_)
            · exact hend _ M Mr n now ed _ _ _ _ _ _ ⟨hS, hJ, hn36, hcs, hgd, ⟨hnow, by omega⟩, hed, hed0⟩ (by omega) (by omega)
            · exact l_pass C hl hT hi hw ho hrx hc hs hcB hsB hnb hend
          · exact l_deg C hl hT hi hw ho hrx hc hs hcB hsB hnb hend
        · exact l_good C hl hT hi hw ho hrx hc hs hcB hsB hnb hend
      · exact l_set C hl hT hi hw ho hrx hc hs hcB hsB hnb hend
    · exact l_fault C hl hT hi hw ho hrx hc hs hcB hsB hnb hend
  · exact l_link C hl hT hi hw ho hrx hc hs hcB hsB hnb hend
set_option maxHeartbeats 2000000 in
set_option maxRecDepth 20000 in
theorem l_act (C : Cx p l s m args meth c D kA b t0 20 RL nm cL_law) (hl : l.stackTraces = false) (hT : TS t0 ad y X Mr M n now ed nb) (hi : i < 3) (hw : w < 4) (ho : o < 4) (ha : a < 12) (hrx : rng x) (hc : c1 + budC M ≤ cB) (hs : s1 + budS M ≤ sB) (hcB : cB ≤ 100000) (hsB : sB ≤ 4000000) (hnb : 0 ≤ nb ∧ nb ≤ 1200) (hend : LEnd p l e s m args below meth c D kA b t0 sb y ad Q turn x a i w o nb cB sB) : V p l e room_1 s m args below meth c D kA b 20 (c1) (s1) (Q) X (285) ([some (rv (some sb)), some (rv (some y)), some (rv (some (ad 0))), some (rv (some (ad 1))), some (rv (some (ad 2))), some (rv (some (ad 3))), some (rv (some (ad 4))), some (iv (n : Int)), some (iv now), some (iv ed), some (iv (turn : Int)), some (iv x), some (iv (a : Int)), some (iv (i : Int)), some (iv (w : Int)), some (iv (o : Int)), u16, u17, u18, u19]) ([]) := by
  obtain ⟨hS, hJ, hn36, hcs, hgd, ⟨hnow, hnn⟩, hed, hed0⟩ := id hT
  obtain ⟨jj, hI⟩ := hS.iv
  have o0 := hI.1.1
  unfold okSc at o0
  obtain ⟨c6, c13, c17, c30⟩ := hJ.1
  have o9 := hI.1.2.1 i (by omega)
  unfold okSo at o9
  refine V_iload C dL_law_285 rfl ?_
  refine V_iconst C dL_law_287 ?_
  refine V_icmp_ge C dL_law_288 (by omega) (by omega) (fun h288 => ?_) (fun h288 => ?_)
  · refine V_iload C dL_law_415 rfl ?_
    refine V_iconst C dL_law_417 ?_
    refine V_icmp_ne C dL_law_418 (by omega) (by omega) (fun h418 => ?_) (fun h418 => ?_)
    · exact l_rest C hl hT hi hw ho ha hrx hc hs hcB hsB hnb hend
    · refine V_aload C dL_law_421 rfl ?_
      refine V_iload C dL_law_423 rfl ?_
      refine V_ialdx C hS.a3.1 hS.a3.2.1 (show i < 3 by omega) (Nat.le_of_ble_eq_true rfl) (rfl) (x := M.2 12 i) ((hS.a3.2.2 i).trans ((hgd i hi).1)) dL_law_425 ?_
      refine V_if_lt C dL_law_426 (by omega) (fun h426 => ?_) (fun h426 => ?_)
      · exact l_rest C hl hT hi hw ho ha hrx hc hs hcB hsB hnb hend
      · exact l_unplug C hl hT hi hw ho h426 hrx hc hs hcB hsB hnb hend
  · refine V_iload C dL_law_291 rfl ?_
    refine V_bipush C dL_law_293 (by decide) ?_
    refine V_icmp_ge C dL_law_295 (by omega) (by omega) (fun h295 => ?_) (fun h295 => ?_)
    · refine V_iload C dL_law_415 rfl ?_
      refine V_iconst C dL_law_417 ?_
      refine V_icmp_ne C dL_law_418 (by omega) (by omega) (fun h418 => ?_) (fun h418 => ?_)
      · exact l_rest C hl hT hi hw ho ha hrx hc hs hcB hsB hnb hend
      · refine V_aload C dL_law_421 rfl ?_
        refine V_iload C dL_law_423 rfl ?_
        refine V_ialdx C hS.a3.1 hS.a3.2.1 (show i < 3 by omega) (Nat.le_of_ble_eq_true rfl) (rfl) (x := M.2 12 i) ((hS.a3.2.2 i).trans ((hgd i hi).1)) dL_law_425 ?_
        refine V_if_lt C dL_law_426 (by omega) (fun h426 => ?_) (fun h426 => ?_)
        · exact l_rest C hl hT hi hw ho ha hrx hc hs hcB hsB hnb hend
        · exact l_unplug C hl hT hi hw ho h426 hrx hc hs hcB hsB hnb hend
    · exact l_plug C hl hT hi hw ho (by omega) hrx hc hs hcB hsB hnb hend
end LACT4
