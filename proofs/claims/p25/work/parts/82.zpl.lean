/-! the class: a plugging, by numbers -/
set_option maxHeartbeats 2000000 in
theorem zm_plug {Z Z2 : Zs} {M : Mo} {jj n s c k p : Nat} {hb u : Int} (hZ : ZM Z M) (hI : Iv M jj) (hn : yC Z 6 = n) (h40 : n < 40) (hs : s < yC Z 7) (hc : c < yC Z 3) (hh : hldM M s hb) (hk2 : ¬ (hb ≠ -1 ∧ M.2 27 (1500 * s + hb.toNat) ≠ (k : Int))) (hp : yT Z 256 (M.2 7 s).toNat = some p) (hu : M.2 10 s = 1 → u = 1) (hu2 : u = 0 ∨ u = 1) (hC : yC Z2 = u1 (u1 (u1 (u1 (yC Z) 6 (n + 1)) 10 (n + 1)) 20 (n + 1)) 8 (n + 1)) (hT : ∀ f i, (k3 (f / 64 + 1) → i ≠ n) → (f ≠ 390 ∨ i ≠ s) → yT Z2 f i = yT Z f i) (hN : ∀ f i, (k3 (f / 64 + 1) → i ≠ n) → (f ≠ 132 ∨ i ≠ c) → yN Z2 f i = yN Z f i) (t390 : yT Z2 390 s = some n) (n132 : yN Z2 132 c = 1) (hv : yT Z2 320 n = some s ∧ yT Z2 321 n = some c ∧ yT Z2 322 n = some k ∧ yT Z2 323 n = some p ∧ yT Z2 324 n = some n ∧ yT Z2 577 n = some n ∧ yT Z2 580 n = some n ∧ yN Z2 325 n = 0 ∧ yN Z2 326 n = 0 ∧ yN Z2 327 n = 0 ∧ yN Z2 328 n = u ∧ yN Z2 329 n = 0 ∧ yN Z2 330 n = 0 ∧ yN Z2 331 n = 0 ∧ yN Z2 448 n = 0 ∧ yN Z2 449 n = 0 ∧ yN Z2 450 n = 0 ∧ yN Z2 451 n = 0 ∧ yN Z2 576 n = M.1 1 ∧ yN Z2 578 n = 0 ∧ yN Z2 579 n = 0) (hL : ∀ j, yL Z2 j = if j = 4 then List.range n ++ [n] else if j = 5 then (List.range n).filter (rnM M) ++ [n] else if j = 6 + s then (yL Z (6 + s)).filter (fun v => !decide ((bkZ Z v).1 = (k : Int) ∧ yN Z 65 v ≤ M.1 1 ∧ M.1 1 < yN Z 65 v + 15)) else yL Z j) (hR : yR Z2 = u1 (yR Z) n (fun _ => 0)) (hK : yK Z2 = u1 (yK Z) n 128) : ZM Z2 (newM M (bkdM M s hb) n s c k) := by
  obtain ⟨w320, w321, w322, w323, w324, w577, w580, w325, w326, w327, w328, w329, w330, w331, w448, w449, w450, w451, w576, w578, w579⟩ := hv
  obtain ⟨⟨zC, zL, zY, zF, zS, zA, zD, zE, zV⟩, zT, zW, zB⟩ := hZ
  obtain ⟨m1, m30, mm, m12, m31, m32, m33, m34, m45, mb⟩ := newM_st M n s c k hb
  obtain ⟨m24, m24n⟩ := newM_24 M n s c k hb
  generalize newM M (bkdM M s hb) n s c k = G at m1 m30 mm m12 m31 m32 m33 m34 m45 mb m24 m24n ⊢
  obtain ⟨c1, c2, c3, c4, c5, c6, c7, c8, c9, c10⟩ := zC
  obtain ⟨l0, l1, l2, l3, l4, l5⟩ := zL
  have iz := hI.2.2.2.2.2.1.1 n (by omega) h40
  have o0 := hI.1.1
  unfold okSc at o0
  have fN : ∀ f, (¬ k3 (f / 64 + 1) ∧ f ≠ 132) → yN Z2 f = yN Z f := fun f hf => funext fun i => hN f i (fun e => absurd e hf.1) (Or.inl hf.2)
  have fT : ∀ f, (¬ k3 (f / 64 + 1) ∧ f ≠ 390) → yT Z2 f = yT Z f := fun f hf => funext fun i => hT f i (fun e => absurd e hf.1) (Or.inl hf.2)
  have y6 : yC Z2 6 = n + 1 := by rw [hC]; rfl
  have y10 : yC Z2 10 = n + 1 := by rw [hC]; rfl
  have y20 : yC Z2 20 = n + 1 := by rw [hC]; rfl
  have y8 : yC Z2 8 = n + 1 := by rw [hC]; rfl
  have y1 : yC Z2 1 = yC Z 1 := by rw [hC]; rfl
  have y2 : yC Z2 2 = yC Z 2 := by rw [hC]; rfl
  have y3 : yC Z2 3 = yC Z 3 := by rw [hC]; rfl
  have y4 : yC Z2 4 = yC Z 4 := by rw [hC]; rfl
  have y5 : yC Z2 5 = yC Z 5 := by rw [hC]; rfl
  have y7 : yC Z2 7 = yC Z 7 := by rw [hC]; rfl
  have y9 : yC Z2 9 = yC Z 9 := by rw [hC]; rfl
  have y11 : yC Z2 11 = yC Z 11 := by rw [hC]; rfl
  have nk : ∀ f, f / 64 + 1 ≠ 6 → f / 64 + 1 ≠ 8 → f / 64 + 1 ≠ 10 → ¬ k3 (f / 64 + 1) := fun f h1 h2 h3 e => by unfold k3 at e; omega
  have gN : ∀ f, f / 64 + 1 ≠ 6 → f / 64 + 1 ≠ 8 → f / 64 + 1 ≠ 10 → f ≠ 132 → yN Z2 f = yN Z f := fun f h1 h2 h3 h4 => fN f ⟨nk f h1 h2 h3, h4⟩
  have gT : ∀ f, f / 64 + 1 ≠ 6 → f / 64 + 1 ≠ 8 → f / 64 + 1 ≠ 10 → f ≠ 390 → yT Z2 f = yT Z f := fun f h1 h2 h3 h4 => fT f ⟨nk f h1 h2 h3, h4⟩
  have tr : ∀ q a0 a1 a2 a3, trfI Z q a0 a1 a2 a3 → trfI Z2 q a0 a1 a2 a3 := fun q a0 a1 a2 a3 e => by
    unfold trfI at e ⊢
    rw [y9, gN 512 (by decide) (by decide) (by decide) (by decide), gN 513 (by decide) (by decide) (by decide) (by decide), gN 514 (by decide) (by decide) (by decide) (by decide), gN 515 (by decide) (by decide) (by decide) (by decide)]
    exact e
  refine ⟨⟨?_, ?_, ?_, fun i hi => ?_, fun i hi => ?_, fun i hi => ?_, fun i hi => ?_, fun i hi => ?_, fun i hi => ?_⟩, ?_, fun i hi => ?_, ?_, fun i hi => ?_⟩
  · unfold zmC
    rw [y11, y5, y7, y3, y4, y6, y10, y8, y20, y1, m1 6 (by decide) (by decide), m1 13 (by decide) (by decide), m1 17 (by decide) (by decide), m30]
    exact ⟨c1, c2, c3, c4, c5, by omega, rfl, rfl, rfl, c10⟩
  · unfold zmL
    have yl : ∀ j, j < 4 → yL Z2 j = yL Z j := fun j hj => by rw [hL, if_neg (by omega), if_neg (by omega), if_neg (by omega)]
    have yl4 : yL Z2 4 = List.range n ++ [n] := by rw [hL, if_pos rfl]
    have yl5 : yL Z2 5 = (List.range n).filter (rnM M) ++ [n] := by rw [hL, if_neg (show ¬ (5 : Nat) = 4 by decide), if_pos rfl]
    rw [y7, y3, y4, y6, yl 0 (by omega), yl 1 (by omega), yl 2 (by omega), yl 3 (by omega), yl4, yl5]
    refine ⟨l0, l1, l2, l3, (List.range_succ (n := n)).symm, ?_⟩
    rw [List.range_succ (n := n), List.filter_append]
    refine congr (congrArg _ (List.filter_congr (fun i hi => ?_))) ?_
    · have hi := List.mem_range.mp hi
      unfold rnM
      rw [m34, if_neg (by omega)]
    · have e1 : rnM G n = true := by
        unfold rnM
        rw [m34, if_pos rfl]
        rfl
      rw [List.filter_cons, e1]
      rfl
  · unfold zmY
    rw [gT 640 (by decide) (by decide) (by decide) (by decide), gT 641 (by decide) (by decide) (by decide) (by decide), gT 642 (by decide) (by decide) (by decide) (by decide), gT 643 (by decide) (by decide) (by decide) (by decide), gT 644 (by decide) (by decide) (by decide) (by decide), gT 645 (by decide) (by decide) (by decide) (by decide), gN 647 (by decide) (by decide) (by decide) (by decide), gN 648 (by decide) (by decide) (by decide) (by decide), gN 649 (by decide) (by decide) (by decide) (by decide), m1 3 (by decide) (by decide), m1 4 (by decide) (by decide), m1 5 (by decide) (by decide)]
    exact zY
  · obtain ⟨a1, q, a2, a3⟩ := zF i hi
    refine ⟨?_, q, by rw [gT 256 (by decide) (by decide) (by decide) (by decide)]; exact a2, ?_⟩
    · rw [gN 257 (by decide) (by decide) (by decide) (by decide)]
      unfold acF at a1 ⊢
      rw [m1 17 (by decide) (by decide), mm 18 rfl, mm 22 rfl, mm 25 rfl]
      exact a1
    · rw [mm 23 rfl]
      exact tr _ _ _ _ _ a3
  · rw [y7] at hi
    obtain ⟨a1, a2, a3, a4, a5, a6, a7, a8⟩ := zS i hi
    rw [gN 384 (by decide) (by decide) (by decide) (by decide), gN 386 (by decide) (by decide) (by decide) (by decide), gN 387 (by decide) (by decide) (by decide) (by decide), gN 388 (by decide) (by decide) (by decide) (by decide), gN 389 (by decide) (by decide) (by decide) (by decide), gT 385 (by decide) (by decide) (by decide) (by decide), gT 391 (by decide) (by decide) (by decide) (by decide), mm 7 rfl, mm 8 rfl, mm 9 rfl, mm 10 rfl, mm 11 rfl, m12]
    refine ⟨a1, a2, a3, a4, a5, a6, ?_, a8⟩
    by_cases e : i = s
    · subst e
      rw [t390, if_pos rfl, if_neg (show ¬ M.1 30 = -1 by omega), show (M.1 30).toNat = n by omega]
    · rw [hT 390 i (fun y => absurd y (nk 390 (by decide) (by decide) (by decide))) (Or.inr e), if_neg e]
      exact a7
  · rw [y3] at hi
    obtain ⟨a1, a2, a3, a4, a5, a6⟩ := zA i hi
    rw [gN 128 (by decide) (by decide) (by decide) (by decide), gN 129 (by decide) (by decide) (by decide) (by decide), gN 130 (by decide) (by decide) (by decide) (by decide), gN 131 (by decide) (by decide) (by decide) (by decide), mm 14 rfl, mm 15 rfl, mm 16 rfl, y6]
    have ea : awyM G (n + 1) (i : Int) ↔ (awyM M n (i : Int) ∨ i = c) := by
      constructor
      · rintro ⟨j, j1, j2, j3⟩
        rw [m34] at j2
        rw [m32] at j3
        by_cases e : j = n
        · rw [if_pos e] at j3
          exact Or.inr (by omega)
        · rw [if_neg e] at j2 j3
          exact Or.inl ⟨j, by omega, j2, j3⟩
      · rintro (⟨j, j1, j2, j3⟩ | e)
        · refine ⟨j, by omega, ?_, ?_⟩
          · rw [m34, if_neg (by omega)]; exact j2
          · rw [m32, if_neg (by omega)]; exact j3
        · exact ⟨n, by omega, by rw [m34, if_pos rfl], by rw [m32, if_pos rfl, e]⟩
    rw [hn] at a6
    rw [ea]
    by_cases e : i = c
    · subst e
      rw [n132]
      exact ⟨a1, a2, a3, a4, Or.inr rfl, fun _ => Or.inr rfl, fun _ => rfl⟩
    · rw [hN 132 i (fun y => absurd y (nk 132 (by decide) (by decide) (by decide))) (Or.inr e)]
      exact ⟨a1, a2, a3, a4, a5, fun y => Or.inl (a6.mp y), fun y => y.elim a6.mpr (fun y => absurd y e)⟩
  · rw [y4] at hi
    rw [gN 193 (by decide) (by decide) (by decide) (by decide), gN 194 (by decide) (by decide) (by decide) (by decide), gN 195 (by decide) (by decide) (by decide) (by decide), gN 196 (by decide) (by decide) (by decide) (by decide), gT 192 (by decide) (by decide) (by decide) (by decide), mm 18 rfl, mm 19 rfl, mm 20 rfl, mm 21 rfl, mm 22 rfl]
    exact zD i hi
  · rw [y6] at hi
    by_cases e : i = n
    · subst e
      rw [w320, w321, w322, w324, w323, w325, w326, w329, w330, w331, w328, w327, m31, m32, m33, m34, m45, if_pos rfl, if_pos rfl, if_pos rfl, if_pos rfl, if_pos rfl, mm 35 rfl, mm 36 rfl, mm 47 rfl, mm 10 rfl, iz.2.1, iz.2.2.1, iz.2.2.2.2.2.2.2.2.2.2.2.2]
      refine ⟨⟨rfl, rfl, rfl, rfl⟩, ⟨p, rfl, ?_⟩, rfl, rfl, rfl, rfl, rfl, hu2, by omega, fun _ y => ?_⟩
      · have h0 := m24n 0 (by omega)
        have h1 := m24n 1 (by omega)
        have h2 := m24n 2 (by omega)
        have h3 := m24n 3 (by omega)
        rw [Nat.add_zero, Nat.add_zero] at h0
        rw [h0, h1, h2, h3]
        have o7 := hI.1.2.1 s (by omega)
        unfold okSo at o7
        obtain ⟨-, q, q1, q2⟩ := zF (M.2 7 s).toNat (by omega)
        rw [hp] at q1
        cases q1
        exact tr _ _ _ _ _ q2
      · rw [hu y, if_pos rfl, if_pos rfl]
    · have e2 : i ≠ n := e
      have hi2 : i < yC Z 6 := by omega
      obtain ⟨a1, ⟨q, a2, a3⟩, a4⟩ := zE i hi2
      rw [hT 320 i (fun _ => e2) (Or.inl (by decide)), hT 321 i (fun _ => e2) (Or.inl (by decide)), hT 322 i (fun _ => e2) (Or.inl (by decide)), hT 324 i (fun _ => e2) (Or.inl (by decide)), hT 323 i (fun _ => e2) (Or.inl (by decide)), hN 325 i (fun _ => e2) (Or.inl (by decide)), hN 326 i (fun _ => e2) (Or.inl (by decide)), hN 329 i (fun _ => e2) (Or.inl (by decide)), hN 330 i (fun _ => e2) (Or.inl (by decide)), hN 331 i (fun _ => e2) (Or.inl (by decide)), hN 328 i (fun _ => e2) (Or.inl (by decide)), hN 327 i (fun _ => e2) (Or.inl (by decide)), m31, m32, m33, m34, m45, if_neg e, if_neg e, if_neg e, if_neg e, if_neg e, mm 35 rfl, mm 36 rfl, mm 47 rfl, mm 10 rfl, m24 (4 * i) (by omega), m24 (4 * i + 1) (by omega), m24 (4 * i + 2) (by omega), m24 (4 * i + 3) (by omega)]
      exact ⟨a1, ⟨q, a2, tr _ _ _ _ _ a3⟩, a4⟩
  · rw [y6] at hi
    by_cases e : i = n
    · subst e
      unfold tlZ
      rw [w577, w580, w578, w579, w576, w448, w449, w450, w451, hR, hK, mm 37 rfl, mm 38 rfl, mm 35 rfl, mm 39 rfl, mm 40 rfl, mm 41 rfl, mm 42 rfl, mm 43 rfl, mm 44 rfl, iz.2.1, iz.2.2.2.1, iz.2.2.2.2.1, iz.2.2.2.2.2.1, iz.2.2.2.2.2.2.1, iz.2.2.2.2.2.2.2.1, iz.2.2.2.2.2.2.2.2.1, iz.2.2.2.2.2.2.2.2.2.1, iz.2.2.2.2.2.2.2.2.2.2.1]
      exact ⟨rfl, rfl, rfl, rfl, by omega, if_pos rfl, fun j hj => absurd hj (Nat.not_lt_zero j), rfl, rfl, rfl, by omega⟩
    · have e2 : i ≠ n := e
      have hi2 : i < yC Z 6 := by omega
      have a := zV i hi2
      have eR : yR Z2 i = yR Z i := by rw [hR]; exact if_neg e
      have eK : yK Z2 i = yK Z i := by rw [hK]; exact if_neg e
      unfold tlZ at a ⊢
      rw [hT 577 i (fun _ => e2) (Or.inl (by decide)), hT 580 i (fun _ => e2) (Or.inl (by decide)), hN 578 i (fun _ => e2) (Or.inl (by decide)), hN 579 i (fun _ => e2) (Or.inl (by decide)), hN 576 i (fun _ => e2) (Or.inl (by decide)), hN 448 i (fun _ => e2) (Or.inl (by decide)), hN 449 i (fun _ => e2) (Or.inl (by decide)), hN 450 i (fun _ => e2) (Or.inl (by decide)), hN 451 i (fun _ => e2) (Or.inl (by decide)), eR, eK, mm 37 rfl, mm 38 rfl, mm 35 rfl, mm 39 rfl, mm 40 rfl, mm 41 rfl, mm 42 rfl, mm 43 rfl, mm 44 rfl]
      exact a
  · unfold zmT
    rw [gN 646 (by decide) (by decide) (by decide) (by decide), gN 650 (by decide) (by decide) (by decide) (by decide), m1 1 (by decide) (by decide), m1 2 (by decide) (by decide)]
    exact zT
  · rw [y6] at hi
    rw [m1 1 (by decide) (by decide), mm 37 rfl, m34]
    by_cases e : i = n
    · subst e
      rw [w576, iz.2.2.2.1]
      exact ⟨by omega, fun _ => by omega⟩
    · rw [hN 576 i (fun _ => e) (Or.inl (by decide)), if_neg e]
      exact zW i (by omega)
  · rw [y2, gT 64 (by decide) (by decide) (by decide) (by decide)]
    exact zB.1
  · rw [y7] at hi
    have ebk : bkZ Z2 = bkZ Z := by
      funext q
      unfold bkZ
      rw [gT 64 (by decide) (by decide) (by decide) (by decide), gN 65 (by decide) (by decide) (by decide) (by decide), gN 66 (by decide) (by decide) (by decide) (by decide)]
    have hb8 : ∀ x, x < yC Z 7 → M.2 26 x ≤ 1500 := fun x hx => by
      have := hI.2.2.2.2.2.2.1.1 x (by omega)
      omega
    rw [mb, ebk, hL, if_neg (by omega), if_neg (by omega)]
    by_cases e : i = s
    · subst e
      rw [if_pos rfl, ← bkd_at hI.2.2.2.2.2.2 (by omega) hh hk2, ← zB.2 i hi, List.filter_map]
      rfl
    · rw [if_neg (by omega), bkd_far e (hb8 i hi) (hb8 s hs)]
      exact zB.2 i hi
