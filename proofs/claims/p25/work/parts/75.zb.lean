/-! the class: bookings by numbers -/
theorem bk_ex {Z : Zs} {M : Mo} (zB : zmB Z M) {u : Nat} (hu : u < yC Z 7) (p : Int × Int × Int → Prop) : (∃ v ∈ yL Z (6 + u), p (bkZ Z v)) ↔ ∃ i : Nat, (i : Int) < M.2 26 u ∧ p (M.2 27 (1500 * u + i), M.2 28 (1500 * u + i), M.2 29 (1500 * u + i)) := by
  have e := zB.2 u hu
  constructor
  · rintro ⟨v, hv, hp⟩
    have hm : bkZ Z v ∈ bkL M u := by rw [← e]; exact List.mem_map.mpr ⟨v, hv, rfl⟩
    unfold bkL blF at hm
    obtain ⟨i, hi, he⟩ := List.mem_map.mp hm
    have h2 : (M.2 27 (1500 * u + i), M.2 28 (1500 * u + i), M.2 29 (1500 * u + i)) = bkZ Z v := he
    exact ⟨i, by have := List.mem_range.mp hi; omega, by rw [h2]; exact hp⟩
  · rintro ⟨i, hi, hp⟩
    have hm : (M.2 27 (1500 * u + i), M.2 28 (1500 * u + i), M.2 29 (1500 * u + i)) ∈ bkL M u := List.mem_map.mpr ⟨i, List.mem_range.mpr (by omega), rfl⟩
    rw [← e] at hm
    obtain ⟨v, hv, he⟩ := List.mem_map.mp hm
    exact ⟨v, hv, by rw [he]; exact hp⟩
theorem bk_I {t0 ao mo jj : Nat} {ad : Nat → Nat} {L : Ly} {X : Mm} {Z : Zs} {Mr M : Mo} (h : CX t0 ao mo ad L X Z Mr) (hZ : ZM Z M) (hI : Iv M jj) {u : Nat} (hu : u < yC Z 7) : (∀ v ∈ yL Z (6 + u), v < yC Z 2) ∧ bkI X ((yL Z (6 + u)).map (lA L 2)) (fun q => (gP X 64 q).getD 0) (gI X 65) (gI X 66) := by
  have zC := hZ.1.1
  have h6 : 6 + u < yC Z 1 := by have := zC.2.2.2.2.2.2.2.2.2; omega
  have c7 := zC.2.2.1
  have hm : ∀ v ∈ yL Z (6 + u), v < yC Z 2 := fun v hv => by
    have h9 := (h.2.2.2.2.2.2.1 (6 + u) h6).2 v hv
    rw [kLs6 u] at h9
    exact h9
  refine ⟨hm, ?_⟩
  show (yL Z (6 + u)).map (lA L 2) = []
  rw [h.nob h6]
  rfl
theorem bkL_far {M : Mo} {s u : Nat} {c f mi : Int} (hs : 0 ≤ M.2 26 s ∧ M.2 26 s < 1500) (hu : 0 ≤ M.2 26 u ∧ M.2 26 u < 1500) (hus : u ≠ s) : bkL (booM M s c f mi) u = bkL M u := by
  have e0 : (booM M s c f mi).2 26 u = M.2 26 u := if_neg hus
  unfold bkL blF
  rw [e0]
  refine List.map_congr_left (fun i hi => ?_)
  have hi := List.mem_range.mp hi
  have hne : 1500 * u + i ≠ 1500 * s + (M.2 26 s).toNat := by omega
  have e1 : (booM M s c f mi).2 27 (1500 * u + i) = M.2 27 (1500 * u + i) := if_neg hne
  have e2 : (booM M s c f mi).2 28 (1500 * u + i) = M.2 28 (1500 * u + i) := if_neg hne
  have e3 : (booM M s c f mi).2 29 (1500 * u + i) = M.2 29 (1500 * u + i) := if_neg hne
  rw [e1, e2, e3]
theorem bkL_at {M : Mo} {s : Nat} {c f mi : Int} (hs : 0 ≤ M.2 26 s ∧ M.2 26 s < 1500) : bkL (booM M s c f mi) s = bkL M s ++ [(c, f, f + mi)] := by
  have e0 : (booM M s c f mi).2 26 s = M.2 26 s + 1 := if_pos rfl
  unfold bkL blF
  rw [e0, show (M.2 26 s + 1).toNat = (M.2 26 s).toNat + 1 by omega, List.range_succ (n := (M.2 26 s).toNat), List.map_append]
  have e1 : (booM M s c f mi).2 27 (1500 * s + (M.2 26 s).toNat) = c := if_pos rfl
  have e2 : (booM M s c f mi).2 28 (1500 * s + (M.2 26 s).toNat) = f := if_pos rfl
  have e3 : (booM M s c f mi).2 29 (1500 * s + (M.2 26 s).toNat) = f + mi := if_pos rfl
  refine congr (congrArg _ (List.map_congr_left (fun i hi => ?_))) ?_
  · have hi := List.mem_range.mp hi
    have hne : 1500 * s + i ≠ 1500 * s + (M.2 26 s).toNat := by omega
    have g1 : (booM M s c f mi).2 27 (1500 * s + i) = M.2 27 (1500 * s + i) := if_neg hne
    have g2 : (booM M s c f mi).2 28 (1500 * s + i) = M.2 28 (1500 * s + i) := if_neg hne
    have g3 : (booM M s c f mi).2 29 (1500 * s + i) = M.2 29 (1500 * s + i) := if_neg hne
    rw [g1, g2, g3]
  · show [((booM M s c f mi).2 27 (1500 * s + (M.2 26 s).toNat), (booM M s c f mi).2 28 (1500 * s + (M.2 26 s).toNat), (booM M s c f mi).2 29 (1500 * s + (M.2 26 s).toNat))] = _
    rw [e1, e2, e3]
theorem zm_book {Z Z2 : Zs} {M : Mo} {jj : Nat} (hZ : ZM Z M) (hI : Iv M jj) {s : Nat} (hs : s < yC Z 7) {c f mi : Int} (hc : 0 ≤ c) (hm : ∀ u, u < yC Z 7 → ∀ v ∈ yL Z (6 + u), v < yC Z 2) (hC : yC Z2 = u1 (yC Z) 2 (yC Z 2 + 1)) (hT : ∀ f i, (f / 64 + 1 = 2 → i ≠ yC Z 2) → yT Z2 f i = yT Z f i) (hN : ∀ f i, (f / 64 + 1 = 2 → i ≠ yC Z 2) → yN Z2 f i = yN Z f i) (t64 : yT Z2 64 (yC Z 2) = some c.toNat) (n65 : yN Z2 65 (yC Z 2) = f) (n66 : yN Z2 66 (yC Z 2) = f + mi) (hL : yL Z2 = u1 (yL Z) (6 + s) (yL Z (6 + s) ++ [yC Z 2])) (hR : yR Z2 = yR Z) (hK : yK Z2 = yK Z) : ZM Z2 (booM M s c f mi) := by
  obtain ⟨⟨zC, zL, zY, zF, zS, zA, zD, zE, zV⟩, zT, zW, zB⟩ := hZ
  have fN : ∀ f, f / 64 + 1 ≠ 2 → yN Z2 f = yN Z f := fun f hf => funext fun i => hN f i (fun e => absurd e hf)
  have fT : ∀ f, f / 64 + 1 ≠ 2 → yT Z2 f = yT Z f := fun f hf => funext fun i => hT f i (fun e => absurd e hf)
  have hT2 : zmT Z2 (booM M s c f mi) := by unfold zmT; rw [fN 646 (by decide), fN 650 (by decide)]; exact zT
  have hW2 : zmW Z2 (booM M s c f mi) := by unfold zmW; rw [hC, fN 576 (by decide)]; exact zW
  have qzmY : zmY Z2 (booM M s c f mi) := by unfold zmY; rw [fT 640 (by decide), fT 641 (by decide), fT 642 (by decide), fT 643 (by decide), fT 644 (by decide), fT 645 (by decide), fN 647 (by decide), fN 648 (by decide), fN 649 (by decide)]; exact zY
  have qzmF : zmF Z2 (booM M s c f mi) := by unfold zmF trfI; rw [hC, fT 256 (by decide), fN 257 (by decide), fN 512 (by decide), fN 513 (by decide), fN 514 (by decide), fN 515 (by decide)]; exact zF
  have qzmS : zmS Z2 (booM M s c f mi) := by unfold zmS; rw [hC, fT 385 (by decide), fT 390 (by decide), fT 391 (by decide), fN 384 (by decide), fN 386 (by decide), fN 387 (by decide), fN 388 (by decide), fN 389 (by decide)]; exact zS
  have qzmA : zmA Z2 (booM M s c f mi) := by unfold zmA; rw [hC, fN 128 (by decide), fN 129 (by decide), fN 130 (by decide), fN 131 (by decide), fN 132 (by decide)]; exact zA
  have qzmD : zmD Z2 (booM M s c f mi) := by unfold zmD; rw [hC, fT 192 (by decide), fN 193 (by decide), fN 194 (by decide), fN 195 (by decide), fN 196 (by decide)]; exact zD
  have qzmE : zmE Z2 (booM M s c f mi) := by unfold zmE trfI; rw [hC, fT 320 (by decide), fT 321 (by decide), fT 322 (by decide), fT 324 (by decide), fT 323 (by decide), fN 512 (by decide), fN 513 (by decide), fN 514 (by decide), fN 515 (by decide), fN 325 (by decide), fN 326 (by decide), fN 329 (by decide), fN 330 (by decide), fN 331 (by decide), fN 328 (by decide), fN 327 (by decide)]; exact zE
  have qzmV : zmV Z2 (booM M s c f mi) := by unfold zmV tlZ; rw [hC, fT 577 (by decide), fT 580 (by decide), fN 578 (by decide), fN 579 (by decide), fN 576 (by decide), fN 448 (by decide), fN 449 (by decide), fN 450 (by decide), fN 451 (by decide), hR, hK]; exact zV
  have hC2 : zmC Z2 (booM M s c f mi) := by unfold zmC; rw [hC]; exact zC
  have yl : ∀ j, j < 6 → yL Z2 j = yL Z j := fun j hj => by rw [hL]; exact if_neg (by omega)
  have hL2 : zmL Z2 (booM M s c f mi) := by unfold zmL; rw [yl 0 (by omega), yl 1 (by omega), yl 2 (by omega), yl 3 (by omega), yl 4 (by omega), yl 5 (by omega), hC]; exact zL
  have c7 := zC.2.2.1
  have o0 := hI.1.1
  unfold okSc at o0
  have hb : ∀ u, u < yC Z 7 → 0 ≤ M.2 26 u ∧ M.2 26 u < 1500 := fun u hu => by
    have := hI.2.2.2.2.2.2.1.1 u (by omega)
    omega
  have ebk : ∀ q, q < yC Z 2 → bkZ Z2 q = bkZ Z q := fun q hq => by
    have hq2 : q ≠ yC Z 2 := by omega
    unfold bkZ
    rw [hT 64 q (fun _ => hq2), hN 65 q (fun _ => hq2), hN 66 q (fun _ => hq2)]
  refine ⟨⟨hC2, hL2, qzmY, qzmF, qzmS, qzmA, qzmD, qzmE, qzmV⟩, hT2, hW2, ⟨fun q hq => ?_, fun u hu => ?_⟩⟩
  · rw [hC] at hq
    by_cases e : q = yC Z 2
    · subst e
      exact ⟨_, t64⟩
    · rw [hT 64 q (fun _ => e)]
      exact zB.1 q (by have h9 : q < yC Z 2 + 1 := hq; omega)
  · rw [hC] at hu
    have hu : u < yC Z 7 := hu
    by_cases e : u = s
    · subst e
      have e2 : yL Z2 (6 + u) = yL Z (6 + u) ++ [yC Z 2] := by rw [hL]; exact if_pos rfl
      rw [e2, List.map_append, bkL_at (hb u hu), ← zB.2 u hu]
      refine congr (congrArg _ (List.map_congr_left (fun v hv => ebk v (hm u hu v hv)))) ?_
      show [bkZ Z2 (yC Z 2)] = _
      unfold bkZ
      rw [t64, n65, n66]
      show [(((c.toNat : Nat) : Int), f, f + mi)] = _
      rw [show ((c.toNat : Nat) : Int) = c by omega]
    · have e2 : yL Z2 (6 + u) = yL Z (6 + u) := by rw [hL]; exact if_neg (by omega)
      rw [e2, bkL_far (hb s hs) (hb u hu) e, ← zB.2 u hu]
      exact List.map_congr_left (fun v hv => ebk v (hm u hu v hv))
theorem bk_within {t0 ao mo jj : Nat} {ad : Nat → Nat} {L : Ly} {X : Mm} {Z : Zs} {Mr M : Mo} (h : CX t0 ao mo ad L X Z Mr) (hZ : ZM Z M) (hI : Iv M jj) {u : Nat} (hu : u < yC Z 7) (f t : Int) : (∃ q ∈ (yL Z (6 + u)).map (lA L 2), f < gI X 66 q ∧ gI X 65 q < t) ↔ ∃ i : Nat, (i : Int) < M.2 26 u ∧ f < M.2 29 (1500 * u + i) ∧ M.2 28 (1500 * u + i) < t := by
  have hm := (bk_I h hZ hI hu).1
  refine Iff.trans ?_ (bk_ex hZ.2.2.2 hu (fun y => f < y.2.2 ∧ y.2.1 < t))
  constructor
  · rintro ⟨q, hq, h1, h2⟩
    obtain ⟨v, hv, rfl⟩ := List.mem_map.mp hq
    rw [h.gi (f := 66) (c := 2) (by decide) (hm v hv) (rfl : yN Z 66 v = yN Z 66 v)] at h1
    rw [h.gi (f := 65) (c := 2) (by decide) (hm v hv) (rfl : yN Z 65 v = yN Z 65 v)] at h2
    exact ⟨v, hv, h1, h2⟩
  · rintro ⟨v, hv, h1, h2⟩
    refine ⟨lA L 2 v, List.mem_map.mpr ⟨v, hv, rfl⟩, ?_⟩
    rw [h.gi (f := 66) (c := 2) (by decide) (hm v hv) (rfl : yN Z 66 v = yN Z 66 v), h.gi (f := 65) (c := 2) (by decide) (hm v hv) (rfl : yN Z 65 v = yN Z 65 v)]
    exact ⟨h1, h2⟩
