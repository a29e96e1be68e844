/-! who owes: by numbers -/
theorem sumF_add (f g : Nat → Int) (n : Nat) : sumF (fun k => f k + g k) n = sumF f n + sumF g n := by
  induction n with
  | zero => rfl
  | succ n ih =>
    show sumF (fun k => f k + g k) n + (f n + g n) = sumF f n + f n + (sumF g n + g n)
    omega
theorem sumF_one (c : Nat) (v : Int) (n : Nat) : sumF (fun k => if k = c then v else 0) n = if c < n then v else 0 := by
  induction n with
  | zero => exact (if_neg (Nat.not_lt_zero c)).symm
  | succ n ih =>
    show sumF (fun k => if k = c then v else 0) n + (if n = c then v else 0) = _
    rw [ih]
    by_cases e : n = c
    · subst e
      rw [if_neg (Nat.lt_irrefl n), if_pos rfl, if_pos (Nat.lt_succ_self n)]
      omega
    · rw [if_neg e]
      by_cases h : c < n
      · rw [if_pos h, if_pos (by omega)]
        omega
      · rw [if_neg h, if_neg (by omega)]
        omega
theorem acF_22 (M : Mo) (c : Nat) (v : Int) (i : Nat) (hc : (c : Int) < M.1 17) : acF (setA M 22 c (M.2 22 c + v)) i = acF M i + if M.2 18 c = (i : Int) then v else 0 := by
  unfold acF
  have e1 : sumF (fun k => if (setA M 22 c (M.2 22 c + v)).2 18 k = (i : Int) then (setA M 22 c (M.2 22 c + v)).2 22 k else 0) (M.1 17).toNat = sumF (fun k => (if M.2 18 k = (i : Int) then M.2 22 k else 0) + (if k = c then (if M.2 18 c = (i : Int) then v else 0) else 0)) (M.1 17).toNat := sumF_congr _ (fun k hk => by
    show (if M.2 18 k = (i : Int) then (if k = c then M.2 22 c + v else M.2 22 k) else 0) = _
    by_cases e : k = c
    · subst e
      rw [if_pos rfl, if_pos rfl]
      split <;> omega
    · rw [if_neg e, if_neg e]
      omega)
  have e2 := sumF_add (fun k => if M.2 18 k = (i : Int) then M.2 22 k else 0) (fun k => if k = c then (if M.2 18 c = (i : Int) then v else 0) else 0) (M.1 17).toNat
  have e3 := sumF_one c (if M.2 18 c = (i : Int) then v else 0) (M.1 17).toNat
  rw [if_pos (show c < (M.1 17).toNat by omega)] at e3
  show sumF (fun k => if (setA M 22 c (M.2 22 c + v)).2 18 k = (i : Int) then (setA M 22 c (M.2 22 c + v)).2 22 k else 0) (M.1 17).toNat + sumF (fun k => M.2 25 (3 * k + i) - M.2 25 (3 * i + k)) 3 = _
  rw [e1, e2, e3]
  omega
theorem acF_25 (M : Mo) {p q i : Nat} (hp : p < 3) (hq : q < 3) (hi : i < 3) (d : Int) : acF (setA M 25 (3 * p + q) (M.2 25 (3 * p + q) + d)) i = acF M i + (if q = i then d else 0) - (if p = i then d else 0) := by
  unfold acF
  show sumF (fun k => if M.2 18 k = (i : Int) then M.2 22 k else 0) (M.1 17).toNat + (0 + ((if 3 * 0 + i = 3 * p + q then M.2 25 (3 * p + q) + d else M.2 25 (3 * 0 + i)) - (if 3 * i + 0 = 3 * p + q then M.2 25 (3 * p + q) + d else M.2 25 (3 * i + 0))) + ((if 3 * 1 + i = 3 * p + q then M.2 25 (3 * p + q) + d else M.2 25 (3 * 1 + i)) - (if 3 * i + 1 = 3 * p + q then M.2 25 (3 * p + q) + d else M.2 25 (3 * i + 1))) + ((if 3 * 2 + i = 3 * p + q then M.2 25 (3 * p + q) + d else M.2 25 (3 * 2 + i)) - (if 3 * i + 2 = 3 * p + q then M.2 25 (3 * p + q) + d else M.2 25 (3 * i + 2)))) = sumF (fun k => if M.2 18 k = (i : Int) then M.2 22 k else 0) (M.1 17).toNat + (0 + (M.2 25 (3 * 0 + i) - M.2 25 (3 * i + 0)) + (M.2 25 (3 * 1 + i) - M.2 25 (3 * i + 1)) + (M.2 25 (3 * 2 + i) - M.2 25 (3 * i + 2))) + (if q = i then d else 0) - (if p = i then d else 0)
  have hp3 : p = 0 ∨ p = 1 ∨ p = 2 := by omega
  have hq3 : q = 0 ∨ q = 1 ∨ q = 2 := by omega
  have hi3 : i = 0 ∨ i = 1 ∨ i = 2 := by omega
  rcases hp3 with rfl | rfl | rfl <;> rcases hq3 with rfl | rfl | rfl <;> rcases hi3 with rfl | rfl | rfl <;> simp <;> omega
def zOwe (Z : Zs) (c f g : Nat) (dk bg bf x sh : Int) : Zs := if f = g then zsN (zsN Z 196 c (dk + x)) 257 g (bg + x) else zsN (zsN (zsN (zsN Z 196 c (dk + x)) 257 g (bg + x)) 257 g (bg + x - sh)) 257 f (bf + sh)
section OWE
variable {l : Launch} {D : va_G} {kA : Nat → ClassId} {b t0 ao mo jj : Nat} {ad : Nat → Nat} {L : Ly} {X Y : Mm} {Z : Zs} {Mr M : Mo}
theorem cx_owe (h : CX t0 ao mo ad L X Z Mr) {c f g : Nat} (hc : c < yC Z 4) (hf : f < yC Z 5) (hg : g < yC Z 5) (dk bg bf x sh : Int) : CX t0 ao mo ad L (oweC X (lA L 4 c) (lA L 5 f) (lA L 5 g) dk bg bf x sh) (zOwe Z c f g dk bg bf x sh) Mr := by
  unfold oweC zOwe
  have c1 := (h.putI (f := 196) (c := 4) (i := c) (v := dk + x) rfl (by decide) (by decide) hc rfl).putI (f := 257) (c := 5) (i := g) (v := bg + x) rfl (by decide) (by decide) hg rfl
  by_cases e : f = g
  · subst e
    rw [if_pos rfl, if_pos rfl]
    exact c1
  · rw [if_neg (fun y => e (h.inj hf hg y)), if_neg e]
    exact (c1.putI (f := 257) (c := 5) (i := g) (v := bg + x - sh) rfl (by decide) (by decide) hg rfl).putI (f := 257) (c := 5) (i := f) (v := bf + sh) rfl (by decide) (by decide) hf rfl
theorem zOwe_N (Z : Zs) (c f g : Nat) (dk bg bf x sh : Int) : (∀ q, q ≠ 196 → q ≠ 257 → yN (zOwe Z c f g dk bg bf x sh) q = yN Z q) ∧ yC (zOwe Z c f g dk bg bf x sh) = yC Z ∧ yT (zOwe Z c f g dk bg bf x sh) = yT Z ∧ yL (zOwe Z c f g dk bg bf x sh) = yL Z ∧ yR (zOwe Z c f g dk bg bf x sh) = yR Z ∧ yK (zOwe Z c f g dk bg bf x sh) = yK Z ∧ (∀ i, yN (zOwe Z c f g dk bg bf x sh) 196 i = if i = c then dk + x else yN Z 196 i) ∧ (∀ i, yN (zOwe Z c f g dk bg bf x sh) 257 i = if f = g then (if i = g then bg + x else yN Z 257 i) else if i = f then bf + sh else if i = g then bg + x - sh else yN Z 257 i) := by
  unfold zOwe
  by_cases e : f = g
  · rw [if_pos e]
    refine ⟨fun q h1 h2 => ?_, rfl, rfl, rfl, rfl, rfl, fun i => ?_, fun i => ?_⟩
    · funext j
      simp [zsN, yN, u2, h1, h2]
    · simp [zsN, yN, u2]
    · rw [if_pos e]
      simp [zsN, yN, u2]
  · rw [if_neg e]
    refine ⟨fun q h1 h2 => ?_, rfl, rfl, rfl, rfl, rfl, fun i => ?_, fun i => ?_⟩
    · funext j
      simp [zsN, yN, u2, h1, h2]
    · simp [zsN, yN, u2]
    · rw [if_neg e]
      by_cases h1 : i = f
      · simp [zsN, yN, u2, h1]
      · by_cases h2 : i = g <;> simp [zsN, yN, u2, h1, h2]
theorem zm_owe (z : zmX Z M) (hO : OkM M) {k : Nat} (hk : k < yC Z 6) (x sh : Int) : zmX (zOwe Z (M.2 33 k).toNat (M.2 7 (M.2 31 k).toNat).toNat (M.2 18 (M.2 33 k).toNat).toNat (M.2 22 (M.2 33 k).toNat) (acF M (M.2 18 (M.2 33 k).toNat).toNat) (acF M (M.2 7 (M.2 31 k).toNat).toNat) x sh) (oweM (setA M 22 (M.2 33 k).toNat (M.2 22 (M.2 33 k).toNat + x)) k sh) := by
  obtain ⟨n1, n2, n3, n4, n5, n6, n7, n8⟩ := zOwe_N Z (M.2 33 k).toNat (M.2 7 (M.2 31 k).toNat).toNat (M.2 18 (M.2 33 k).toNat).toNat (M.2 22 (M.2 33 k).toNat) (acF M (M.2 18 (M.2 33 k).toNat).toNat) (acF M (M.2 7 (M.2 31 k).toNat).toNat) x sh
  obtain ⟨zC, zL, zY, zF, zS, zA, zD, zE, zV⟩ := z
  have k1 : (k : Int) < M.1 30 := by have := zC.2.2.2.2.2.1; omega
  have o1 := (hO.2.2.2.2.1 k k1).1
  unfold okSe at o1
  have o2 := hO.2.2.2.1 (M.2 33 k).toNat (by omega)
  have o3 := hO.2.1 (M.2 31 k).toNat (by omega)
  unfold okCd at o2
  unfold okSo at o3
  refine ⟨?_, ?_, ?_, fun i hi => ?_, ?_, ?_, fun i hi => ?_, ?_, ?_⟩
  · unfold zmC; rw [n2]; exact zC
  · unfold zmL; rw [n2, n4]; exact zL
  · unfold zmY; rw [n3, n1 647 (by decide) (by decide), n1 648 (by decide) (by decide), n1 649 (by decide) (by decide)]; exact zY
  · obtain ⟨a1, p, a2, a3⟩ := zF i hi
    refine ⟨?_, p, by rw [n3]; exact a2, ?_⟩
    · rw [n8]
      have e1 : acF (oweM (setA M 22 (M.2 33 k).toNat (M.2 22 (M.2 33 k).toNat + x)) k sh) i = acF (setA M 22 (M.2 33 k).toNat (M.2 22 (M.2 33 k).toNat + x)) i + (if (M.2 7 (M.2 31 k).toNat).toNat = i then (if M.2 18 (M.2 33 k).toNat = M.2 7 (M.2 31 k).toNat then 0 else sh) else 0) - (if (M.2 18 (M.2 33 k).toNat).toNat = i then (if M.2 18 (M.2 33 k).toNat = M.2 7 (M.2 31 k).toNat then 0 else sh) else 0) := acF_25 (setA M 22 (M.2 33 k).toNat (M.2 22 (M.2 33 k).toNat + x)) (p := (M.2 18 (M.2 33 k).toNat).toNat) (q := (M.2 7 (M.2 31 k).toNat).toNat) (by omega) (by omega) hi _
      rw [e1, acF_22 _ _ _ _ (by omega)]
      by_cases ef : (M.2 7 (M.2 31 k).toNat).toNat = (M.2 18 (M.2 33 k).toNat).toNat
      · rw [if_pos ef, if_pos (show M.2 18 (M.2 33 k).toNat = M.2 7 (M.2 31 k).toNat by omega)]
        by_cases ei : i = (M.2 18 (M.2 33 k).toNat).toNat
        · rw [if_pos ei, if_pos (show M.2 18 (M.2 33 k).toNat = (i : Int) by omega), ← ei]
          split <;> split <;> omega
        · rw [if_neg ei, if_neg (show ¬ M.2 18 (M.2 33 k).toNat = (i : Int) by omega)]
          split <;> split <;> omega
      · rw [if_neg ef, if_neg (show ¬ M.2 18 (M.2 33 k).toNat = M.2 7 (M.2 31 k).toNat by omega)]
        by_cases eo : i = (M.2 7 (M.2 31 k).toNat).toNat
        · rw [if_pos eo, if_pos eo.symm, if_neg (show ¬ (M.2 18 (M.2 33 k).toNat).toNat = i by omega), if_neg (show ¬ M.2 18 (M.2 33 k).toNat = (i : Int) by omega), ← eo]
          omega
        · rw [if_neg eo, if_neg (show ¬ (M.2 7 (M.2 31 k).toNat).toNat = i from fun y => eo y.symm)]
          by_cases ei : i = (M.2 18 (M.2 33 k).toNat).toNat
          · rw [if_pos ei, if_pos ei.symm, if_pos (show M.2 18 (M.2 33 k).toNat = (i : Int) by omega), ← ei]
            omega
          · rw [if_neg ei, if_neg (show ¬ (M.2 18 (M.2 33 k).toNat).toNat = i from fun y => ei y.symm), if_neg (show ¬ M.2 18 (M.2 33 k).toNat = (i : Int) by omega)]
            omega
    · unfold trfI; rw [n2, n1 512 (by decide) (by decide), n1 513 (by decide) (by decide), n1 514 (by decide) (by decide), n1 515 (by decide) (by decide)]; exact a3
  · unfold zmS; rw [n2, n3, n1 384 (by decide) (by decide), n1 386 (by decide) (by decide), n1 387 (by decide) (by decide), n1 388 (by decide) (by decide), n1 389 (by decide) (by decide)]; exact zS
  · unfold zmA; rw [n2, n1 128 (by decide) (by decide), n1 129 (by decide) (by decide), n1 130 (by decide) (by decide), n1 131 (by decide) (by decide), n1 132 (by decide) (by decide)]; exact zA
  · rw [n2] at hi
    obtain ⟨d1, d2, d3, d4, d5⟩ := zD i hi
    rw [n3, n1 193 (by decide) (by decide), n1 194 (by decide) (by decide), n1 195 (by decide) (by decide), n7]
    refine ⟨d1, d2, d3, d4, ?_⟩
    show _ = if i = (M.2 33 k).toNat then M.2 22 (M.2 33 k).toNat + x else M.2 22 i
    rw [d5]
  · unfold zmE trfI; rw [n2, n3, n1 512 (by decide) (by decide), n1 513 (by decide) (by decide), n1 514 (by decide) (by decide), n1 515 (by decide) (by decide), n1 325 (by decide) (by decide), n1 326 (by decide) (by decide), n1 329 (by decide) (by decide), n1 330 (by decide) (by decide), n1 331 (by decide) (by decide), n1 328 (by decide) (by decide), n1 327 (by decide) (by decide)]; exact zE
  · unfold zmV tlZ; rw [n2, n3, n5, n6, n1 578 (by decide) (by decide), n1 579 (by decide) (by decide), n1 576 (by decide) (by decide), n1 448 (by decide) (by decide), n1 449 (by decide) (by decide), n1 450 (by decide) (by decide), n1 451 (by decide) (by decide)]; exact zV
end OWE
