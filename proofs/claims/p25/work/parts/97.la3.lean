/-! the law: plugging -/
section LACT3
variable {p : Program} {l : Launch} {e : Env} {s : State} {m : MethodId} {args : Array Value} {below : List Frame} {meth : Method} {c : Code}
variable {D : va_G} {kA : Nat → ClassId} {b t0 sb y : Nat} {ad : Nat → Nat} {Q : State → Prop} {nm : String} {X : Mm} {Mr M : Mo} {n turn : Nat} {now ed nb x : Int} {a i w o : Nat} {u16 u17 u18 u19 : Option Value} {c1 s1 cB sB : Nat}

set_option maxHeartbeats 2000000 in
set_option maxRecDepth 20000 in
theorem l_plug (C : Cx p l s m args meth c D kA b t0 20 RL nm cL_law) (hl : l.stackTraces = false) (hT : TS t0 ad y X Mr M n now ed nb) (hi : i < 3) (hw : w < 4) (ho : o < 4) (h36 : n < 36) (hrx : rng x) (hc : c1 + budC M ≤ cB) (hs : s1 + budS M ≤ sB) (hcB : cB ≤ 100000) (hsB : sB ≤ 4000000) (hnb : 0 ≤ nb ∧ nb ≤ 1200) (hend : LEnd p l e s m args below meth c D kA b t0 sb y ad Q turn x a i w o nb cB sB) : V p l e room_1 s m args below meth c D kA b 20 (c1) (s1) (Q) X (298) ([some (rv (some sb)), some (rv (some y)), some (rv (some (ad 0))), some (rv (some (ad 1))), some (rv (some (ad 2))), some (rv (some (ad 3))), some (rv (some (ad 4))), some (iv (n : Int)), some (iv now), some (iv ed), some (iv (turn : Int)), some (iv x), some (iv (a : Int)), some (iv (i : Int)), some (iv (w : Int)), some (iv (o : Int)), u16, u17, u18, u19]) ([]) := by
  obtain ⟨hS, hJ, hn36, hcs, hgd, ⟨hnow, hnn⟩, hed, hed0⟩ := id hT
  obtain ⟨jj, hI⟩ := hS.iv
  have o0 := hI.1.1
  unfold okSc at o0
  obtain ⟨c6, c13, c17, c30⟩ := hJ.1
  have o9 := hI.1.2.1 i (by omega)
  unfold okSo at o9
  refine V_aload_n C dL_law_298 rfl ?_
  refine V_iload C dL_law_299 rfl ?_
  refine V_iload C dL_law_301 rfl ?_
  refine V_iload C dL_law_303 rfl ?_
  refine V_callV C (As := [_, _, _]) (q_plug hl hS (n := n) (z := i) (c := w) (k := o) c30.symm (by omega) (by omega) (by omega) (by omega)) kL_37 hS.ky rfl rfl (Nat.le_of_ble_eq_true rfl) ⟨(Nat.le_of_ble_eq_true rfl), (Nat.le_of_ble_eq_true rfl)⟩ ⟨(by show _ ≤ 600086; omega), (by show _ ≤ 7301442; omega)⟩ dL_law_305 (fun _ _ h => h.elim) (fun v305 Y305 hp => ?_)
  obtain ⟨M2, r, rfl, hP, hS305, bd1, bd2⟩ := hp
  refine V_istore C dL_law_308 (by decide) rfl ?_
  rcases plu_cases (by omega) hP with ⟨eM, hr⟩ | ⟨h12, hw9, hr, hb, eM⟩
  · subst eM
    refine V_iload C dL_law_310 rfl ?_
    refine V_if_lt C dL_law_312 (by omega) (fun h312 => ?_) (fun h312 => absurd h312 (by omega))
    refine V_iload C dL_law_395 rfl ?_
    refine V_bipush C dL_law_397 (by decide) ?_
    refine V_icmp_ne C dL_law_399 (by omega) (by omega) (fun h399 => ?_) (fun h399 => ?_)
    · refine V_goto C dL_law_412 ?_
      exact hend _ (setS M 0 0) Mr n now ed _ _ _ _ _ _ ⟨hS305, hJ, hn36, hcs, hgd, ⟨hnow, by omega⟩, hed, hed0⟩ (by omega) (by omega)
    · refine V_aload C dL_law_402 rfl ?_
      refine V_iload C dL_law_404 rfl ?_
      refine V_ialdx C hS305.a3.1 hS305.a3.2.1 (show i < 3 by omega) (Nat.le_of_ble_eq_true rfl) (rfl) (x := M.2 12 i) ((hS305.a3.2.2 i).trans ((hgd i hi).1)) dL_law_406 ?_
      refine V_if_ge C dL_law_407 (by omega) (fun h407 => ?_) (fun h407 => absurd h407 (by omega))
      refine V_goto C dL_law_412 ?_
      exact hend _ (setS M 0 0) Mr n now ed _ _ _ _ _ _ ⟨hS305, hJ, hn36, hcs, hgd, ⟨hnow, by omega⟩, hed, hed0⟩ (by omega) (by omega)
  · subst eM
    refine V_iload C dL_law_310 rfl ?_
    refine V_if_lt C dL_law_312 (by omega) (fun h312 => absurd h312 (by omega)) (fun h312 => ?_)
    refine V_iload C dL_law_315 rfl ?_
    refine V_iload C dL_law_317 rfl ?_
    refine V_icmp_ne C dL_law_319 (by omega) (by omega) (fun h319 => absurd h319 (by omega)) (fun h319 => ?_)
    refine V_aload C dL_law_322 rfl ?_
    refine V_iload C dL_law_324 rfl ?_
    refine V_ialdx C hS305.a3.1 hS305.a3.2.1 (show i < 3 by omega) (Nat.le_of_ble_eq_true rfl) (rfl) (x := M.2 12 i) ((hS305.a3.2.2 i).trans ((hgd i hi).1)) dL_law_326 ?_
    refine V_if_lt C dL_law_327 (by omega) (fun h327 => ?_) (fun h327 => absurd h327 (by omega))
    refine V_iconst C dL_law_332 ?_
    refine V_istore C dL_law_333 (by decide) rfl ?_
    refine V_while C (St := Nat) (f := fun _ => Y305) (g := fun z => [some (rv (some sb)), some (rv (some y)), some (rv (some (ad 0))), some (rv (some (ad 1))), some (rv (some (ad 2))), some (rv (some (ad 3))), some (rv (some (ad 4))), some (iv (n : Int)), some (iv now), some (iv ed), some (iv (turn : Int)), some (iv x), some (iv (a : Int)), some (iv (i : Int)), some (iv (w : Int)), some (iv (o : Int)), some (iv r), some (iv (z : Int)), u18, u19]) (cs := fun _ => c1 + 24) (ss := fun _ => s1 + 4400) (μ := fun z => 4 - z) (I := fun z => z ≤ 3) (x0 := 0) rfl rfl rfl rfl (Nat.zero_le _) ?_
    rintro q hq ih
    try dsimp only at hq ih ⊢
    refine V_iload C dL_law_335 rfl ?_
    refine V_iconst C dL_law_337 ?_
    refine V_icmp_ge C dL_law_338 (by omega) (by omega) (fun h338 => ?_) (fun h338 => ?_)
    · obtain ⟨m1, m30, mr, m12, m31, m32, m33, m34, m45, -⟩ := newM_st M n i w o hb
      refine V_aload_n C dL_law_369 rfl ?_
      refine V_iload C dL_law_370 rfl ?_
      refine V_iload C dL_law_372 rfl ?_
      refine V_iast C (j := n) hS305.a1.1 hS305.a1.2.1 (show n < 40 by omega) (Nat.le_of_ble_eq_true rfl) (rfl) dL_law_374 ?_
      have hS374 := hS305.put 1 (n) ((w : Int)) (by decide)
      refine V_aload C dL_law_375 rfl ?_
      refine V_iload C dL_law_377 rfl ?_
      refine V_iload C dL_law_379 rfl ?_
      refine V_iast C (j := n) hS374.a2.1 hS374.a2.2.1 (show n < 40 by omega) (Nat.le_of_ble_eq_true rfl) (rfl) dL_law_381 ?_
      have hS381 := hS374.put 2 (n) ((i : Int)) (by decide)
      refine V_aload C dL_law_382 rfl ?_
      refine V_iload C dL_law_384 rfl ?_
      refine V_iload C dL_law_386 rfl ?_
      refine V_iast C (j := i) hS381.a3.1 hS381.a3.2.1 (show i < 3 by omega) (Nat.le_of_ble_eq_true rfl) (rfl) dL_law_388 ?_
      have hS388 := hS381.put 3 (i) ((n : Int)) (by decide)
      refine V_iinc C dL_law_389 (by decide) rfl rfl ?_
      refine V_goto C dL_law_392 ?_
      refine V_goto C dL_law_412 ?_
      refine (fun h9 => ?_) (hend _ (newM M (bkdM M i hb) n i w o) (setA (setA (setA Mr 1 (n) ((w : Int))) 2 (n) ((i : Int))) 3 (i) ((n : Int))) (n + 1) now ed (some (iv r)) (some (iv (q : Int))) u18 u19 (c1 + 24) (s1 + 4400) ⟨hS388, JI_new hI hJ (by omega), by omega, fun j hj => ⟨?_, ?_⟩, fun z hz => ⟨?_, ?_⟩, ⟨(m1 1 (by decide) (by decide)).trans hnow, by omega⟩, hed, fun he => ⟨fun z hz => ?_, ?_⟩⟩ (by omega) (by omega))
      · rw [show ((n + 1 : Nat) : Int) = (n : Int) + 1 by omega] at h9
        exact h9
      · rw [m32 j]
        show (if j = n then (w : Int) else Mr.2 1 j) = _
        by_cases e : j = n
        · rw [if_pos e, if_pos e]
        · rw [if_neg e, if_neg e]
          exact (hcs j (by omega)).1
      · rw [m31 j]
        show (if j = n then (i : Int) else Mr.2 2 j) = _
        by_cases e : j = n
        · rw [if_pos e, if_pos e]
        · rw [if_neg e, if_neg e]
          exact (hcs j (by omega)).2
      · rw [m12 z, c30]
        show (if z = i then (n : Int) else Mr.2 3 z) = _
        by_cases e : z = i
        · rw [if_pos e, if_pos e]
        · rw [if_neg e, if_neg e]
          exact (hgd z hz).1
      · rw [mr 10 rfl]
        exact (hgd z hz).2
      · rw [mr 10 rfl]
        exact (hed0 he).1 z hz
      · rw [m1 2 (by decide) (by decide)]
        exact (hed0 he).2
    · obtain ⟨-, so2⟩ := ts_so hI hJ (show q < 3 by omega)
      rcases so2 with eq | ⟨k, hk, ek, h34, h31⟩
      · refine V_aload C dL_law_341 rfl ?_
        refine V_iload C dL_law_343 rfl ?_
        refine V_ialdx C hS305.a3.1 hS305.a3.2.1 (show q < 3 by omega) (Nat.le_of_ble_eq_true rfl) (rfl) (x := (-1)) ((hS305.a3.2.2 q).trans (((hgd q (by omega)).1).trans eq)) dL_law_345 ?_
        refine V_if_lt C dL_law_346 (by omega) (fun h346 => ?_) (fun h346 => absurd h346 (by omega))
        refine V_iinc C dL_law_363 (by decide) rfl rfl ?_
        refine V_goto C dL_law_366 ?_
        have h9 := ih (q + 1) (by show q + 1 ≤ 3; omega) (by show 4 - (q + 1) < 4 - q; omega)
        try dsimp only at h9
        rw [show ((q + 1 : Nat) : Int) = (q : Int) + 1 by omega] at h9
        exact h9
      · obtain ⟨-, f32, -⟩ := ts_se hI hJ hk
        refine V_aload C dL_law_341 rfl ?_
        refine V_iload C dL_law_343 rfl ?_
        refine V_ialdx C hS305.a3.1 hS305.a3.2.1 (show q < 3 by omega) (Nat.le_of_ble_eq_true rfl) (rfl) (x := (k : Int)) ((hS305.a3.2.2 q).trans (((hgd q (by omega)).1).trans ek)) dL_law_345 ?_
        refine V_if_lt C dL_law_346 (by omega) (fun h346 => absurd h346 (by omega)) (fun h346 => ?_)
        refine V_aload_n C dL_law_349 rfl ?_
        refine V_aload C dL_law_350 rfl ?_
        refine V_iload C dL_law_352 rfl ?_
        refine V_ialdx C hS305.a3.1 hS305.a3.2.1 (show q < 3 by omega) (Nat.le_of_ble_eq_true rfl) (rfl) (x := (k : Int)) ((hS305.a3.2.2 q).trans (((hgd q (by omega)).1).trans ek)) dL_law_354 ?_
        refine V_ialdx C hS305.a1.1 hS305.a1.2.1 (show k < 40 by omega) (Nat.le_of_ble_eq_true rfl) (rfl) (x := M.2 32 k) ((hS305.a1.2.2 k).trans ((hcs k hk).1)) dL_law_355 ?_
        refine V_iload C dL_law_356 rfl ?_
        refine V_icmp_ne C dL_law_358 (by omega) (by omega) (fun h358 => ?_) (fun h358 => absurd h358 (fun z => hw9 ⟨k, hk, h34, z⟩))
        refine V_iinc C dL_law_363 (by decide) rfl rfl ?_
        refine V_goto C dL_law_366 ?_
        have h9 := ih (q + 1) (by show q + 1 ≤ 3; omega) (by show 4 - (q + 1) < 4 - q; omega)
        try dsimp only at h9
        rw [show ((q + 1 : Nat) : Int) = (q : Int) + 1 by omega] at h9
        exact h9
end LACT3
