/-! a minute's flow, by numbers -/
theorem tkF_add (row : Nat → Int) (fm : Int) (s a : Nat) (t : Ta) : ∀ b, tkF row fm (s + a) b (tkF row fm s a t) = tkF row fm s (a + b) t := by
  intro b
  induction b with
  | zero => rfl
  | succ b ih =>
    show tkS (tkF row fm (s + a) b (tkF row fm s a t)) (fm + ((s + a + b : Nat) : Int)) (row (s + a + b) / 2) (if row (s + a + b) % 2 = 1 then 1 else 0) = tkS (tkF row fm s (a + b) t) (fm + ((s + (a + b) : Nat) : Int)) (row (s + (a + b)) / 2) (if row (s + (a + b)) % 2 = 1 then 1 else 0)
    rw [ih, Nat.add_assoc]
theorem tkF_congr {r1 r2 : Nat → Int} {fm : Int} {s : Nat} {t : Ta} : ∀ n, (∀ i, s ≤ i → i < s + n → r1 i = r2 i) → tkF r1 fm s n t = tkF r2 fm s n t := by
  intro n
  induction n with
  | zero => exact fun _ => rfl
  | succ n ih =>
    intro h
    show tkS (tkF r1 fm s n t) _ (r1 (s + n) / 2) _ = tkS (tkF r2 fm s n t) _ (r2 (s + n) / 2) _
    rw [ih (fun i h1 h2 => h i h1 (by omega)), h (s + n) (by omega) (by omega)]
/-- the numbers behind a flow: without hearing, with it -/
def zLet (Z : Zs) (k c md : Nat) (fl h en u : Int) : Zs := zsN (zsR (zsN (zsN (zsN Z 326 k fl) 131 c (h + fl)) 325 k (en + fl)) k md (2 * (en + fl) + u)) 578 k ((md : Int) + 1)
def zGro (Z : Zs) (k c md n2 : Nat) (r : Nat → Int) (fl h en u : Int) : Zs := zsN (zsR (zGrw (zsN (zsN (zsN Z 326 k fl) 131 c (h + fl)) 325 k (en + fl)) k n2 r) k md (2 * (en + fl) + u)) 578 k ((md : Int) + 1)
def zTal (Z : Zs) (k : Nat) (t : Ta) : Zs := zsN (zsN (zsN (zsN Z 448 k t.1) 449 k t.2.1) 450 k t.2.2.1) 451 k t.2.2.2
def zHrd (Z : Zs) (k : Nat) (t : Ta) (m : Int) : Zs := zsN (zTal Z k t) 579 k m
/-- the reference's numbers behind a flow -/
def letM (M : Mo) (k : Nat) (fl day : Int) : Mo := setA (setA (setA (setA (setA (setA (setA M 41 k (M.2 41 k + if fl = 0 ∧ M.2 15 (M.2 32 k).toNat = M.2 14 (M.2 32 k).toNat then 1 else 0)) 15 (M.2 32 k).toNat (M.2 15 (M.2 32 k).toNat + fl)) 35 k (M.2 35 k + fl)) 36 k fl) 39 k (M.2 39 k + if day = 1 then fl else 0)) 40 k (M.2 40 k + if day = 1 then 0 else fl)) 37 k (M.2 37 k + 1)
def onM (M : Mo) (k : Nat) (fl day : Int) : Mo := if M.2 10 (M.2 31 k).toNat = 0 then heardM (letM M k fl day) k else letM M k fl day
theorem oneM_on {M0 M : Mo} {P : Nat → Int} {day : Int} {k : Nat} (h : M0.2 34 k = 1) (h1 : M.2 10 = M0.2 10) (h2 : M.2 31 = M0.2 31) (h3 : M.2 32 = M0.2 32) (h4 : M.2 14 = M0.2 14) : oneM M0 P day M k = onM M k (P k) day := by
  unfold oneM onM letM
  rw [if_pos h, h1, h2, h3, h4]
section LET
variable {t0 ao mo : Nat} {ad : Nat → Nat} {L : Ly} {X Y : Mm} {Z : Zs} {Mr M : Mo} {n : Nat}
theorem zm_row {Z2 : Zs} {M : Mo} {k : Nat} {z : Zs} (fl en u day : Int) (hR : ∀ i, i < (M.2 37 k).toNat → yR Z2 k i = yR z k i) (hr1 : yR Z2 k (M.2 37 k).toNat = 2 * (en + fl) + u) (hu : u = 0 ∨ u = 1) (hm0 : 0 ≤ M.2 37 k) (he : M.2 35 k = en) (ht : tkF (yR z k) (yN z 576 k) 0 (M.2 37 k).toNat (0, 0, 0, 0) = (M.2 35 k, M.2 39 k, M.2 40 k, M.2 41 k)) (hf : yN Z2 576 k = yN z 576 k) (hd : isDay (yN z 576 k + M.2 37 k) ↔ day = 1) (hfl : 0 ≤ fl) : tkF (yR Z2 k) (yN Z2 576 k) 0 ((M.2 37 k).toNat + 1) (0, 0, 0, 0) = (M.2 35 k + fl, M.2 39 k + (if day = 1 then fl else 0), M.2 40 k + (if day = 1 then 0 else fl), M.2 41 k + (if fl = 0 ∧ u = 1 then 1 else 0)) := by
  rw [hf]
  show tkS (tkF (yR Z2 k) (yN z 576 k) 0 (M.2 37 k).toNat (0, 0, 0, 0)) (yN z 576 k + ((0 + (M.2 37 k).toNat : Nat) : Int)) (yR Z2 k (0 + (M.2 37 k).toNat) / 2) (if yR Z2 k (0 + (M.2 37 k).toNat) % 2 = 1 then 1 else 0) = _
  rw [tkF_congr (r2 := yR z k) _ (fun i _ hi => hR i (by omega)), ht, Nat.zero_add, hr1]
  have e1 : (2 * (en + fl) + u) / 2 = en + fl := by omega
  have e2 : (if (2 * (en + fl) + u) % 2 = 1 then (1 : Int) else 0) = u := by split <;> omega
  have e3 : yN z 576 k + (((M.2 37 k).toNat : Nat) : Int) = yN z 576 k + M.2 37 k := by omega
  rw [e1, e2, e3]
  unfold tkS
  dsimp only
  rw [he]
  have e4 : en + fl - en = fl := by omega
  rw [e4]
  by_cases hday : day = 1
  · rw [if_pos (hd.mpr hday), if_pos (hd.mpr hday), if_pos hday, if_pos hday]
    by_cases hz : fl = 0 ∧ u = 1
    · rw [if_pos hz, if_pos ⟨by omega, hz.2⟩]
      simp
    · rw [if_neg hz, if_neg (fun z => hz ⟨by omega, z.2⟩)]
      simp
  · rw [if_neg (fun z => hday (hd.mp z)), if_neg (fun z => hday (hd.mp z)), if_neg hday, if_neg hday]
    by_cases hz : fl = 0 ∧ u = 1
    · rw [if_pos hz, if_pos ⟨by omega, hz.2⟩]
      simp
    · rw [if_neg hz, if_neg (fun z => hz ⟨by omega, z.2⟩)]
      simp
/-- what a flow needs: the session, its car, the numbers -/
def letH (Z : Zs) (M : Mo) (k : Nat) (fl day : Int) : Prop := k < yC Z 6 ∧ M.2 34 k = 1 ∧ (0 ≤ M.2 37 k ∧ yN Z 576 k + M.2 37 k < 20000) ∧ (0 ≤ M.2 38 k ∧ M.2 38 k ≤ M.2 37 k) ∧ (0 ≤ fl ∧ fl ≤ 50000) ∧ (0 ≤ M.2 35 k ∧ M.2 35 k ≤ M.2 15 (M.2 32 k).toNat) ∧ (0 ≤ M.2 15 (M.2 32 k).toNat ∧ M.2 15 (M.2 32 k).toNat + fl ≤ M.2 14 (M.2 32 k).toNat ∧ M.2 14 (M.2 32 k).toNat ≤ 6000000) ∧ (isDay (yN Z 576 k + M.2 37 k) ↔ day = 1) ∧ (M.2 10 (M.2 31 k).toNat = 0 ∨ M.2 10 (M.2 31 k).toNat = 1)
/-- the numbers without the row -/
theorem zm_let {Z2 : Zs} {k : Nat} {fl day u : Int} (z : zmX Z M) (hH : letH Z M k fl day) (hu : u = if M.2 14 (M.2 32 k).toNat ≤ M.2 15 (M.2 32 k).toNat then 1 else 0) (hC : yC Z2 = yC Z) (hT : yT Z2 = yT Z) (hL : yL Z2 = yL Z) (hK : yK Z2 = u1 (yK Z) k (capOf ((M.2 37 k).toNat + 1))) (hR1 : ∀ j, j ≠ k → yR Z2 j = yR Z j) (hR2 : ∀ i, i < (M.2 37 k).toNat → yR Z2 k i = yR Z k i) (hR3 : yR Z2 k (M.2 37 k).toNat = 2 * (M.2 35 k + fl) + u) (hN : yN Z2 = u2 (u2 (u2 (u2 (yN Z) 326 k fl) 131 (M.2 32 k).toNat (M.2 15 (M.2 32 k).toNat + fl)) 325 k (M.2 35 k + fl)) 578 k (M.2 37 k + 1)) : zmX Z2 (letM M k fl day) := by
  obtain ⟨hk, h1, h2, h3, h4, h5, h6, h7, h8⟩ := hH
  obtain ⟨zC, zL, zY, zF, zS, zA, zD, zE, zV⟩ := z
  have fN : ∀ f, f ≠ 326 → f ≠ 131 → f ≠ 325 → f ≠ 578 → yN Z2 f = yN Z f := fun f q1 q2 q3 q4 => by
    rw [hN]
    funext x
    simp [u2, q1, q2, q3, q4]
  refine ⟨?_, ?_, ?_, ?_, ?_, ?_, ?_, ?_, ?_⟩
  · unfold zmC
    rw [hC]
    exact zC
  · unfold zmL
    rw [hC, hL]
    exact zL
  · unfold zmY
    rw [hT, fN 647 (by decide) (by decide) (by decide) (by decide), fN 648 (by decide) (by decide) (by decide) (by decide), fN 649 (by decide) (by decide) (by decide) (by decide)]
    exact zY
  · unfold zmF trfI
    rw [hT, hC, fN 257 (by decide) (by decide) (by decide) (by decide), fN 512 (by decide) (by decide) (by decide) (by decide), fN 513 (by decide) (by decide) (by decide) (by decide), fN 514 (by decide) (by decide) (by decide) (by decide), fN 515 (by decide) (by decide) (by decide) (by decide)]
    exact zF
  · unfold zmS
    rw [hT, hC, fN 384 (by decide) (by decide) (by decide) (by decide), fN 386 (by decide) (by decide) (by decide) (by decide), fN 387 (by decide) (by decide) (by decide) (by decide), fN 388 (by decide) (by decide) (by decide) (by decide), fN 389 (by decide) (by decide) (by decide) (by decide)]
    exact zS
  · unfold zmA
    rw [hC, fN 128 (by decide) (by decide) (by decide) (by decide), fN 129 (by decide) (by decide) (by decide) (by decide), fN 130 (by decide) (by decide) (by decide) (by decide), fN 132 (by decide) (by decide) (by decide) (by decide)]
    intro i hi
    obtain ⟨a1, a2, a3, a4, a5, a6⟩ := zA i hi
    refine ⟨a1, a2, a3, ?_, a5, a6⟩
    rw [hN]
    show (if 131 = 578 ∧ i = k then _ else if 131 = 325 ∧ i = k then _ else if 131 = 131 ∧ i = (M.2 32 k).toNat then M.2 15 (M.2 32 k).toNat + fl else if 131 = 326 ∧ i = k then fl else yN Z 131 i) = if i = (M.2 32 k).toNat then M.2 15 (M.2 32 k).toNat + fl else M.2 15 i
    rw [if_neg (fun z => by have := z.1; omega), if_neg (fun z => by have := z.1; omega)]
    by_cases e : i = (M.2 32 k).toNat
    · rw [if_pos ⟨rfl, e⟩, if_pos e]
    · rw [if_neg (fun z => e z.2), if_neg (fun z => by have := z.1; omega), if_neg e]
      exact a4
  · unfold zmD
    rw [hT, hC, fN 193 (by decide) (by decide) (by decide) (by decide), fN 194 (by decide) (by decide) (by decide) (by decide), fN 195 (by decide) (by decide) (by decide) (by decide), fN 196 (by decide) (by decide) (by decide) (by decide)]
    exact zD
  · unfold zmE trfI
    rw [hT, hC, fN 512 (by decide) (by decide) (by decide) (by decide), fN 513 (by decide) (by decide) (by decide) (by decide), fN 514 (by decide) (by decide) (by decide) (by decide), fN 515 (by decide) (by decide) (by decide) (by decide), fN 329 (by decide) (by decide) (by decide) (by decide), fN 330 (by decide) (by decide) (by decide) (by decide), fN 331 (by decide) (by decide) (by decide) (by decide), fN 328 (by decide) (by decide) (by decide) (by decide), fN 327 (by decide) (by decide) (by decide) (by decide)]
    intro j hj
    obtain ⟨a1, a2, a3, a4, a5⟩ := zE j hj
    refine ⟨a1, a2, ?_, ?_, a5⟩
    · rw [hN]
      show (if 325 = 578 ∧ j = k then _ else if 325 = 325 ∧ j = k then M.2 35 k + fl else if 325 = 131 ∧ _ then _ else if 325 = 326 ∧ j = k then fl else yN Z 325 j) = if j = k then M.2 35 k + fl else M.2 35 j
      rw [if_neg (fun z => by have := z.1; omega)]
      by_cases e : j = k
      · rw [if_pos ⟨rfl, e⟩, if_pos e]
      · rw [if_neg (fun z => e z.2), if_neg (fun z => by have := z.1; omega), if_neg (fun z => e z.2), if_neg e]
        exact a3
    · rw [hN]
      show (if 326 = 578 ∧ j = k then _ else if 326 = 325 ∧ j = k then M.2 35 k + fl else if 326 = 131 ∧ _ then _ else if 326 = 326 ∧ j = k then fl else yN Z 326 j) = if j = k then fl else M.2 36 j
      rw [if_neg (fun z => by have := z.1; omega), if_neg (fun z => by have := z.1; omega), if_neg (fun z => by have := z.1; omega)]
      by_cases e : j = k
      · rw [if_pos ⟨rfl, e⟩, if_pos e]
      · rw [if_neg (fun z => e z.2), if_neg e]
        exact a4
  · unfold zmV tlZ
    rw [hT, hC, fN 579 (by decide) (by decide) (by decide) (by decide), fN 576 (by decide) (by decide) (by decide) (by decide), fN 448 (by decide) (by decide) (by decide) (by decide), fN 449 (by decide) (by decide) (by decide) (by decide), fN 450 (by decide) (by decide) (by decide) (by decide), fN 451 (by decide) (by decide) (by decide) (by decide)]
    intro j hj
    obtain ⟨a1, a2, a3, a4, a5, a6, a7, a8, a9, a10, a11⟩ := zV j hj
    have e578 : yN Z2 578 j = if j = k then M.2 37 k + 1 else yN Z 578 j := by
      rw [hN]
      show (if 578 = 578 ∧ j = k then M.2 37 k + 1 else if 578 = 325 ∧ j = k then M.2 35 k + fl else if 578 = 131 ∧ _ then _ else if 578 = 326 ∧ j = k then fl else yN Z 578 j) = _
      by_cases e : j = k
      · rw [if_pos ⟨rfl, e⟩, if_pos e]
      · rw [if_neg (fun z => e z.2), if_neg (fun z => e z.2), if_neg (fun z => by have := z.1; omega), if_neg (fun z => e z.2), if_neg e]
    have eK : yK Z2 j = if j = k then capOf ((M.2 37 k).toNat + 1) else yK Z j := by rw [hK]; rfl
    by_cases e : j = k
    · subst e
      have m37 : (letM M j fl day).2 37 j = M.2 37 j + 1 := if_pos rfl
      have m35 : (letM M j fl day).2 35 j = M.2 35 j + fl := if_pos rfl
      have m39 : (letM M j fl day).2 39 j = M.2 39 j + if day = 1 then fl else 0 := if_pos rfl
      have m40 : (letM M j fl day).2 40 j = M.2 40 j + if day = 1 then 0 else fl := if_pos rfl
      have m41 : (letM M j fl day).2 41 j = M.2 41 j + if fl = 0 ∧ M.2 15 (M.2 32 j).toNat = M.2 14 (M.2 32 j).toNat then 1 else 0 := if_pos rfl
      have m38 : (letM M j fl day).2 38 j = M.2 38 j := rfl
      have t1 : (M.2 37 j + 1).toNat = (M.2 37 j).toNat + 1 := by omega
      rw [m37, m35, m39, m40, m41, m38, e578, eK, if_pos rfl, if_pos rfl, t1]
      have hu1 : u = 0 ∨ u = 1 := by rw [hu]; split <;> omega
      have hrow := zm_row (Z2 := Z2) (z := Z) (k := j) (M := M) fl (M.2 35 j) u day hR2 hR3 hu1 h2.1 rfl a8 (by rw [fN 576 (by decide) (by decide) (by decide) (by decide)]) h7 h4.1
      rw [fN 576 (by decide) (by decide) (by decide) (by decide)] at hrow
      have eu : (if fl = 0 ∧ M.2 15 (M.2 32 j).toNat = M.2 14 (M.2 32 j).toNat then (1 : Int) else 0) = if fl = 0 ∧ u = 1 then 1 else 0 := by
        have : (M.2 15 (M.2 32 j).toNat = M.2 14 (M.2 32 j).toNat) ↔ u = 1 := by
          rw [hu]
          split <;> omega
        simp only [this]
      rw [eu]
      refine ⟨a1, a2, rfl, a4, a5, rfl, fun i hi => ?_, hrow, ?_, a10, by omega⟩
      · rcases Nat.lt_succ_iff_lt_or_eq.mp hi with y | rfl
        · rw [hR2 i y]
          exact a7 i y
        · rw [hR3]
          omega
      · rw [tkF_congr (r2 := yR Z j) _ (fun i _ hi => hR2 i (by omega))]
        exact a9
    · have n37 : (letM M k fl day).2 37 j = M.2 37 j := if_neg e
      have n35 : (letM M k fl day).2 35 j = M.2 35 j := if_neg e
      have n39 : (letM M k fl day).2 39 j = M.2 39 j := if_neg e
      have n40 : (letM M k fl day).2 40 j = M.2 40 j := if_neg e
      have n41 : (letM M k fl day).2 41 j = M.2 41 j := if_neg e
      rw [n37, n35, n39, n40, n41, e578, eK, if_neg e, if_neg e, hR1 j e]
      exact ⟨a1, a2, a3, a4, a5, a6, a7, a8, a9, a10, a11⟩
/-- hearing -/
theorem zm_hrd {k : Nat} (z : zmX Z M) (hk : k < yC Z 6) (h37 : 0 ≤ M.2 37 k) (h35 : 0 ≤ M.2 35 k) : zmX (zHrd Z k (tkF (yR Z k) (yN Z 576 k) 0 (M.2 37 k).toNat (0, 0, 0, 0)) (M.2 37 k)) (heardM M k) := by
  obtain ⟨zC, zL, zY, zF, zS, zA, zD, zE, zV⟩ := z
  refine ⟨zC, zL, zY, zF, zS, zA, zD, zE, fun j hj => ?_⟩
  obtain ⟨a1, a2, a3, a4, a5, a6, a7, a8, a9, a10, a11⟩ := zV j hj
  by_cases e : j = k
  · subst e
    rw [a8]
    refine ⟨a1, a2, a3, ?_, a5, a6, a7, a8, ?_, ?_, ?_⟩
    · show (if 579 = 579 ∧ j = j then M.2 37 j else _) = if j = j then M.2 37 j else _
      rw [if_pos ⟨rfl, rfl⟩, if_pos rfl]
    · have : (heardM M j).2 38 j = M.2 37 j := if_pos rfl
      rw [this]
      refine a8.trans ?_
      simp [tlZ, zHrd, zTal, zsN, yN, u2]
    · simp [tlZ, zHrd, zTal, zsN, yN, u2, heardM, setA]
    · simp [zHrd, zTal, zsN, yN, u2, heardM, setA]
      omega
  · have n38 : (heardM M k).2 38 j = M.2 38 j := if_neg e
    have n42 : (heardM M k).2 42 j = M.2 42 j := if_neg e
    have n43 : (heardM M k).2 43 j = M.2 43 j := if_neg e
    have n44 : (heardM M k).2 44 j = M.2 44 j := if_neg e
    have eN : ∀ f, yN (zHrd Z k (tkF (yR Z k) (yN Z 576 k) 0 (M.2 37 k).toNat (0, 0, 0, 0)) (M.2 37 k)) f j = yN Z f j := fun f => by simp [zHrd, zTal, zsN, yN, u2, e]
    unfold tlZ
    rw [n38, n42, n43, n44, eN, eN, eN, eN, eN, eN, eN]
    exact ⟨a1, a2, a3, a4, a5, a6, a7, a8, a9, a10, a11⟩
end LET
