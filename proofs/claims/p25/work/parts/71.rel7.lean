/-! the class: links -/
theorem ok_heard {M : Mo} {k : Nat} (hO : OkM M) : OkM (heardM M k) := by
  refine ⟨hO.1, hO.2.1, hO.2.2.1, hO.2.2.2.1, fun j hj => ?_, hO.2.2.2.2.2⟩
  have o := hO.2.2.2.2.1 j hj
  unfold okSe okBi at o ⊢
  by_cases e : j = k
  · subst e
    have h38 : (heardM M j).2 38 j = M.2 37 j := if_pos rfl
    have h42 : (heardM M j).2 42 j = M.2 39 j := if_pos rfl
    have h43 : (heardM M j).2 43 j = M.2 40 j := if_pos rfl
    have h44 : (heardM M j).2 44 j = M.2 41 j := if_pos rfl
    rw [h38, h42, h43, h44]
    refine ⟨⟨o.1.1, o.1.2.1, o.1.2.2.1, o.1.2.2.2.1, o.1.2.2.2.2.1, o.1.2.2.2.2.2.1, ⟨?_, Int.le_refl _, o.1.2.2.2.2.2.2.1.2.2⟩, o.1.2.2.2.2.2.2.2⟩, ⟨o.2.1, o.2.2.1, o.2.2.2.1, o.2.1, o.2.2.1, o.2.2.2.1, o.2.2.2.2.2.2.2⟩⟩
    have := o.1.2.2.2.2.2.2.1
    show 0 ≤ M.2 37 j
    omega
  · have h38 : (heardM M k).2 38 j = M.2 38 j := if_neg e
    have h42 : (heardM M k).2 42 j = M.2 42 j := if_neg e
    have h43 : (heardM M k).2 43 j = M.2 43 j := if_neg e
    have h44 : (heardM M k).2 44 j = M.2 44 j := if_neg e
    rw [h38, h42, h43, h44]
    exact o
theorem ok_pay {M : Mo} {k : Nat} (hO : OkM M) (hk : (k : Int) < M.1 30) : OkM (payM M k) := by
  have hk40 := hO.1
  unfold okSc at hk40
  have t := hO.2.2.2.2.2.2
  have ok := hO.2.2.2.2.1 k hk
  have bi := bill_in (M := M) (k := k) (d := M.2 39 k) (n := M.2 40 k) (i := M.2 41 k) ⟨t (4 * k) (by omega), t (4 * k + 1) (by omega), t (4 * k + 2) (by omega), t (4 * k + 3) (by omega)⟩ (by unfold okBi at ok; omega) (by unfold okBi at ok; omega) (by unfold okBi at ok; omega)
  refine ⟨hO.1, hO.2.1, hO.2.2.1, hO.2.2.2.1, fun j hj => ?_, hO.2.2.2.2.2⟩
  have o := hO.2.2.2.2.1 j hj
  have h34 : (payM M k).2 34 j = if j = k then 3 else M.2 34 j := rfl
  have h46 : (payM M k).2 46 j = if j = k then billM M k (M.2 39 k) (M.2 40 k) (M.2 41 k) else M.2 46 j := rfl
  unfold okSe okBi at o ⊢
  rw [h34, h46]
  refine ⟨⟨o.1.1, o.1.2.1, o.1.2.2.1, ?_, o.1.2.2.2.2⟩, ⟨o.2.1, o.2.2.1, o.2.2.2.1, o.2.2.2.2.1, o.2.2.2.2.2.1, o.2.2.2.2.2.2.1, ?_, o.2.2.2.2.2.2.2.2⟩⟩
  · have := o.1.2.2.2.1
    split <;> omega
  · have := o.2.2.2.2.2.2.2.1
    split <;> omega
theorem ok_hear {M : Mo} {k : Nat} (hO : OkM M) (hk : (k : Int) < M.1 30) : OkM (hearM M k) := by
  unfold hearM
  split
  · exact ok_pay (ok_heard hO) hk
  · exact ok_heard hO
theorem ok_hr {M : Mo} {z : Int} (hO : OkM M) : ∀ k : Nat, (k : Int) ≤ M.1 30 → OkM (hrM M z k) := by
  intro k
  induction k with
  | zero => exact fun _ => hO
  | succ k ih =>
    intro hk
    have h := ih (by omega)
    show OkM (if M.2 31 k = z then hearM (hrM M z k) k else hrM M z k)
    split
    · exact ok_hear h (by rw [(hrM_st M z k).1]; omega)
    · exact h
/-- what hearing leaves of the numbers -/
def kpH (Z Z2 : Zs) : Prop := yC Z2 = yC Z ∧ yT Z2 = yT Z ∧ yL Z2 = yL Z ∧ yN Z2 576 = yN Z 576 ∧ yN Z2 646 = yN Z 646 ∧ yN Z2 650 = yN Z 650 ∧ yN Z2 65 = yN Z 65 ∧ yN Z2 66 = yN Z 66
theorem kpH.tr {A B C : Zs} (h : kpH A B) (g : kpH B C) : kpH A C := ⟨g.1.trans h.1, g.2.1.trans h.2.1, g.2.2.1.trans h.2.2.1, g.2.2.2.1.trans h.2.2.2.1, g.2.2.2.2.1.trans h.2.2.2.2.1, g.2.2.2.2.2.1.trans h.2.2.2.2.2.1, g.2.2.2.2.2.2.1.trans h.2.2.2.2.2.2.1, g.2.2.2.2.2.2.2.trans h.2.2.2.2.2.2.2⟩
theorem kpZ.h {A B : Zs} (g : kpZ A B) : kpH A B := ⟨g.1, g.2.1, g.2.2.1, g.2.2.2 576 (by decide) (by decide) (by decide) (by decide) (by decide) (by decide) (by decide) (by decide) (by decide), g.2.2.2 646 (by decide) (by decide) (by decide) (by decide) (by decide) (by decide) (by decide) (by decide) (by decide), g.2.2.2 650 (by decide) (by decide) (by decide) (by decide) (by decide) (by decide) (by decide) (by decide) (by decide), g.2.2.2 65 (by decide) (by decide) (by decide) (by decide) (by decide) (by decide) (by decide) (by decide) (by decide), g.2.2.2 66 (by decide) (by decide) (by decide) (by decide) (by decide) (by decide) (by decide) (by decide) (by decide)⟩
theorem kpO.h {A B : Zs} (g : kpO A B) : kpH A B := ⟨g.1, g.2.1, g.2.2.1, g.2.2.2.2.2 576 (by decide) (by decide) (by decide), g.2.2.2.2.2 646 (by decide) (by decide) (by decide), g.2.2.2.2.2 650 (by decide) (by decide) (by decide), g.2.2.2.2.2 65 (by decide) (by decide) (by decide), g.2.2.2.2.2 66 (by decide) (by decide) (by decide)⟩
theorem kpH.rf (A : Zs) : kpH A A := ⟨rfl, rfl, rfl, rfl, rfl, rfl, rfl, rfl⟩
/-- a link comes up, goes down -/
theorem zm_up {Z : Zs} {M : Mo} {s : Nat} (z : zmX Z M) : zmX (zsN Z 388 s 1) (setA M 10 s 0) := by
  obtain ⟨zC, zL, zY, zF, zS, zA, zD, zE, zV⟩ := z
  refine ⟨zC, zL, zY, zF, fun i hi => ?_, zA, zD, fun k hk => ?_, zV⟩
  · obtain ⟨a1, a2, a3, a4, a5, a6⟩ := zS i hi
    refine ⟨a1, a2, a3, a4, ?_, a6⟩
    show (if 388 = 388 ∧ i = s then 1 else yN Z 388 i) = 1 - if i = s then 0 else M.2 10 i
    by_cases e : i = s
    · rw [if_pos ⟨rfl, e⟩, if_pos e]
      rfl
    · rw [if_neg (fun y => e y.2), if_neg e]
      exact a5
  · obtain ⟨a1, a2, a3, a4, a5, a6, a7, a8, a9, a10⟩ := zE k hk
    refine ⟨a1, a2, a3, a4, a5, a6, a7, a8, a9, fun h1 h2 => a10 h1 ?_⟩
    have h2 : (if (M.2 31 k).toNat = s then (0 : Int) else M.2 10 (M.2 31 k).toNat) = 1 := h2
    by_cases e : (M.2 31 k).toNat = s
    · rw [if_pos e] at h2
      exact absurd h2 (by decide)
    · rw [if_neg e] at h2
      exact h2
theorem zm_down {Z Z2 : Zs} {M M2 : Mo} {s : Nat} (z : zmX Z M) (hR : ivR M) (hs : (s : Int) < M.1 6) (hO : OkM M) (hC : yC Z2 = yC Z) (hT : yT Z2 = yT Z) (hL : yL Z2 = yL Z) (hRr : yR Z2 = yR Z) (hK : yK Z2 = yK Z) (hN : ∀ f, (f ≠ 388 ∧ f ≠ 389 ∧ f ≠ 327 ∧ f ≠ 328) → yN Z2 f = yN Z f) (n388 : ∀ i, yN Z2 388 i = if i = s then 0 else yN Z 388 i) (n389 : ∀ i, yN Z2 389 i = if i = s then M.1 1 else yN Z 389 i) (n327 : ∀ k, yN Z2 327 k = if M.2 12 s = (k : Int) then M.2 36 k else yN Z 327 k) (n328 : ∀ k, yN Z2 328 k = if M.2 12 s = (k : Int) then 0 else yN Z 328 k) (hM : M2 = if M.2 12 s = -1 then setA (setA M 10 s 1) 11 s (M.1 1) else setA (setA (setA M 10 s 1) 11 s (M.1 1)) 45 (M.2 12 s).toNat (M.2 36 (M.2 12 s).toNat)) : zmX Z2 M2 := by
  obtain ⟨zC, zL, zY, zF, zS, zA, zD, zE, zV⟩ := z
  have m1 : M2.1 = M.1 := by rw [hM]; split <;> rfl
  have m2 : ∀ j, (j ≠ 10 ∧ j ≠ 11 ∧ j ≠ 45) → M2.2 j = M.2 j := fun j hj => by
    rw [hM]
    split
    · funext x
      simp [setA, hj.1, hj.2.1]
    · funext x
      simp [setA, hj.1, hj.2.1, hj.2.2]
  have m10 : ∀ i, M2.2 10 i = if i = s then 1 else M.2 10 i := fun i => by rw [hM]; split <;> rfl
  have m11 : ∀ i, M2.2 11 i = if i = s then M.1 1 else M.2 11 i := fun i => by rw [hM]; split <;> rfl
  have o3 := hO.2.1 s hs
  unfold okSo at o3
  have m45 : ∀ k : Nat, M2.2 45 k = if M.2 12 s = (k : Int) then M.2 36 k else M.2 45 k := fun k => by
    rw [hM]
    split
    · rename_i e
      rw [if_neg (by omega)]
      rfl
    · rename_i e
      show (if k = (M.2 12 s).toNat then M.2 36 (M.2 12 s).toNat else M.2 45 k) = _
      by_cases e2 : k = (M.2 12 s).toNat
      · rw [if_pos e2, if_pos (by omega), e2]
      · rw [if_neg e2, if_neg (by omega)]
  have pA : ∀ n i, awyM M2 n i ↔ awyM M n i := fun n i => by
    unfold awyM
    rw [m2 34 (by decide), m2 32 (by decide)]
  have pF : ∀ i, acF M2 i = acF M i := fun i => by
    unfold acF
    rw [m2 18 (by decide), m2 22 (by decide), m2 25 (by decide), m1]
  have pR : rnM M2 = rnM M := by
    unfold rnM
    rw [m2 34 (by decide)]
  refine ⟨?_, ?_, ?_, fun i hi => ?_, fun i hi => ?_, fun i hi => ?_, fun i hi => ?_, fun k hk => ?_, fun k hk => ?_⟩
  · unfold zmC
    rw [hC, m1]
    exact zC
  · unfold zmL
    rw [hC, hL, pR]
    exact zL
  · unfold zmY
    rw [hT, hN 647 (by decide), hN 648 (by decide), hN 649 (by decide), m1]
    exact zY
  · unfold trfI
    rw [hT, hC, hN 257 (by decide), hN 512 (by decide), hN 513 (by decide), hN 514 (by decide), hN 515 (by decide), pF, m2 23 (by decide)]
    exact zF i hi
  · rw [hC] at hi
    obtain ⟨a1, a2, a3, a4, a5, a6, a7, a8⟩ := zS i hi
    rw [hT, hN 384 (by decide), hN 386 (by decide), hN 387 (by decide), n388, n389, m2 7 (by decide), m2 8 (by decide), m2 9 (by decide), m10, m11, m2 12 (by decide)]
    refine ⟨a1, a2, a3, a4, ?_, ?_, a7, a8⟩
    · by_cases e : i = s
      · rw [if_pos e, if_pos e]
        rfl
      · rw [if_neg e, if_neg e]
        exact a5
    · by_cases e : i = s
      · rw [if_pos e, if_pos e]
      · rw [if_neg e, if_neg e]
        exact a6
  · rw [hC] at hi
    rw [hC, pA, hN 128 (by decide), hN 129 (by decide), hN 130 (by decide), hN 131 (by decide), hN 132 (by decide), m2 14 (by decide), m2 15 (by decide), m2 16 (by decide)]
    exact zA i hi
  · rw [hC] at hi
    rw [hT, hN 193 (by decide), hN 194 (by decide), hN 195 (by decide), hN 196 (by decide), m2 18 (by decide), m2 19 (by decide), m2 20 (by decide), m2 21 (by decide), m2 22 (by decide)]
    exact zD i hi
  · rw [hC] at hk
    obtain ⟨a1, a2, a3, a4, a5, a6, a7, a8, a9, a10⟩ := zE k hk
    have k1 : (k : Int) < M.1 30 := by have := zC.2.2.2.2.2.1; omega
    have ok := (hO.2.2.2.2.1 k k1).1
    unfold okSe at ok
    unfold trfI
    rw [hT, hC, hN 512 (by decide), hN 513 (by decide), hN 514 (by decide), hN 515 (by decide), hN 325 (by decide), hN 326 (by decide), hN 329 (by decide), hN 330 (by decide), hN 331 (by decide), n327, n328, m2 31 (by decide), m2 32 (by decide), m2 33 (by decide), m2 24 (by decide), m2 35 (by decide), m2 36 (by decide), m2 34 (by decide), m2 47 (by decide), m10, m45]
    refine ⟨a1, a2, a3, a4, a5, a6, a7, ?_, ?_, fun h1 h2 => ?_⟩
    · split
      · exact Or.inl rfl
      · exact a8
    · split
      · omega
      · exact a9
    · by_cases e : M.2 12 s = (k : Int)
      · rw [if_pos e, if_pos e, if_pos e]
        rfl
      · rw [if_neg e, if_neg e, if_neg e]
        refine a10 h1 ?_
        by_cases e2 : (M.2 31 k).toNat = s
        · have := hR k k1 h1
          rw [e2] at this
          exact absurd this e
        · rw [if_neg e2] at h2
          exact h2
  · rw [hC] at hk
    unfold tlZ
    rw [hT, hRr, hK, hN 578 (by decide), hN 579 (by decide), hN 576 (by decide), hN 448 (by decide), hN 449 (by decide), hN 450 (by decide), hN 451 (by decide), m2 37 (by decide), m2 38 (by decide), m2 35 (by decide), m2 39 (by decide), m2 40 (by decide), m2 41 (by decide), m2 42 (by decide), m2 43 (by decide), m2 44 (by decide)]
    exact zV k hk
theorem ok_link {M : Mo} {s : Nat} {u : Int} (hO : OkM M) (hu : u = 0 ∨ u = 1) : OkM (setA M 10 s u) := by
  refine ⟨hO.1, fun i hi => ?_, hO.2.2⟩
  have o := hO.2.1 i hi
  unfold okSo at o ⊢
  refine ⟨o.1, o.2.1, o.2.2.1, ?_, o.2.2.2.2⟩
  have := o.2.2.2.1
  show 0 ≤ (if i = s then u else M.2 10 i) ∧ (if i = s then u else M.2 10 i) ≤ 1
  split <;> omega
theorem hrM_34 (M : Mo) (z : Int) : ∀ n k : Nat, (hrM M z n).2 34 k = 1 ↔ M.2 34 k = 1 := by
  intro n
  induction n with
  | zero => exact fun _ => Iff.rfl
  | succ n ih =>
    intro k
    show (if M.2 31 n = z then hearM (hrM M z n) n else hrM M z n).2 34 k = 1 ↔ _
    rw [← ih k]
    split
    · unfold hearM
      split
      · rename_i c
        show (if k = n then 3 else (hrM M z n).2 34 k) = 1 ↔ _
        by_cases e : k = n
        · subst e
          rw [if_pos rfl, c]
          exact ⟨fun y => absurd y (by decide), fun y => absurd y (by decide)⟩
        · rw [if_neg e]
      · exact Iff.rfl
    · exact Iff.rfl
theorem hrM_bk (M : Mo) (z : Int) : ∀ n : Nat, (∀ u, bkL (hrM M z n) u = bkL M u) := by
  intro n
  induction n with
  | zero => exact fun _ => rfl
  | succ n ih =>
    intro u
    show bkL (if M.2 31 n = z then hearM (hrM M z n) n else hrM M z n) u = _
    rw [← ih u]
    split
    · unfold hearM
      split <;> rfl
    · rfl
theorem lin_up {Z Z2 : Zs} {M : Mo} {s n : Nat} (hZ : ZM Z M) (k : kpH (zsN Z 388 s 1) Z2) : zmT Z2 (hrM (setA (setS M 0 0) 10 s 0) (s : Int) n) ∧ zmW Z2 (hrM (setA (setS M 0 0) 10 s 0) (s : Int) n) ∧ zmB Z2 (hrM (setA (setS M 0 0) 10 s 0) (s : Int) n) := by
  have st := hrM_st (setA (setS M 0 0) 10 s 0) (s : Int) n
  refine zm_rest hZ k.1 k.2.2.2.2.1 k.2.2.2.2.2.1 k.2.2.2.1 k.2.2.2.2.2.2.1 k.2.2.2.2.2.2.2 (by rw [k.2.1]; rfl) (fun u => by rw [k.2.2.1]; rfl) (by rw [st.1]; rfl) (by rw [st.1]; rfl) (st.2.1 37 (by decide)) (fun j y => (hrM_34 (setA (setS M 0 0) 10 s 0) _ n j).mp y) (fun u => (hrM_bk _ _ n u).trans rfl)
theorem lin_rest {Z Z2 : Zs} {M : Mo} {s : Nat} (hZ : ZM Z M) (h1 : yC Z2 = yC Z) (h2 : yT Z2 = yT Z) (h3 : yN Z2 646 = yN Z 646) (h4 : yN Z2 650 = yN Z 650) (h5 : yN Z2 576 = yN Z 576) (h6 : yN Z2 65 = yN Z 65) (h7 : yN Z2 66 = yN Z 66) (h8 : yL Z2 = yL Z := by rfl) : zmT Z2 (if M.2 12 s = -1 then setA (setA (setS M 0 0) 10 s 1) 11 s (M.1 1) else setA (setA (setA (setS M 0 0) 10 s 1) 11 s (M.1 1)) 45 (M.2 12 s).toNat (M.2 36 (M.2 12 s).toNat)) ∧ zmW Z2 (if M.2 12 s = -1 then setA (setA (setS M 0 0) 10 s 1) 11 s (M.1 1) else setA (setA (setA (setS M 0 0) 10 s 1) 11 s (M.1 1)) 45 (M.2 12 s).toNat (M.2 36 (M.2 12 s).toNat)) ∧ zmB Z2 (if M.2 12 s = -1 then setA (setA (setS M 0 0) 10 s 1) 11 s (M.1 1) else setA (setA (setA (setS M 0 0) 10 s 1) 11 s (M.1 1)) 45 (M.2 12 s).toNat (M.2 36 (M.2 12 s).toNat)) := by
  refine zm_rest hZ h1 h3 h4 h5 h6 h7 (by rw [h2]) (fun u => by rw [h8]) ?_ ?_ ?_ (fun k => ?_) (fun u => ?_)
  · split <;> rfl
  · split <;> rfl
  · split <;> rfl
  · split <;> exact fun y => y
  · split <;> rfl
theorem hearM_if (M : Mo) (k : Nat) : hearM M k = if (heardM M k).2 34 k = 2 ∧ (heardM M k).2 37 k ≤ (heardM M k).2 38 k then payM (heardM M k) k else heardM M k := by
  have e : (heardM M k).2 38 k = M.2 37 k := if_pos rfl
  unfold hearM
  by_cases c : M.2 34 k = 2
  · rw [if_pos c, if_pos ⟨c, by rw [e]; exact Int.le_refl _⟩]
  · rw [if_neg c, if_neg (fun y => c y.1)]
section REL7
variable {l : Launch} {D : va_G} {kA : Nat → ClassId} {b t0 ao mo jj : Nat} {ad : Nat → Nat} {L : Ly} {X Y : Mm} {Z : Zs} {Mr M : Mo} {n : Nat}
set_option maxHeartbeats 2000000 in
set_option maxRecDepth 20000 in
theorem c_X9_hearWaiting (hl : l.stackTraces = false) (h : CX t0 ao mo ad L X Z Mr) (z : zmX Z M) (hO : OkM M) (hW : ∀ k : Nat, k < yC Z 6 → yN Z 576 k + M.2 37 k ≤ M.1 1) (hn : n = yC Z 6) {s : Nat} (hs : s < yC Z 7) : Ct l D kA b t0 yX9_hearWaiting cX9_hearWaiting 5 (some FieldType.int) 4 90 [rv (some (lA L 11 0)), rv (some (lA L 7 s))] X 0 0 (fun v Y => v = some (iv (hrN M (s : Int) n)) ∧ ∃ Z2, CX t0 ao mo ad L Y Z2 Mr ∧ zmX Z2 (hrM M (s : Int) n) ∧ kpH Z Z2) (pF) := by
  refine Ct_mk hl (by decide) (Nat.le_of_ble_eq_true rfl) rfl ?_
  intro p9 e9 s9 m9 args9 below9 meth9 c9 C hr hx0
  have n9 : (n : Int) = M.1 30 := by have := z.1.2.2.2.2.2.1; omega
  have o0 := hO.1
  unfold okSc at o0
  refine V_iconst C dX9_hearWaiting_0 ?_
  refine V_istore_n C dX9_hearWaiting_1 (by decide) rfl ?_
  refine V_iconst C dX9_hearWaiting_2 ?_
  refine V_istore_n C dX9_hearWaiting_3 (by decide) rfl ?_
  refine V_while C (St := Nat × Mm × Zs × Option Value) (f := fun z => z.2.1) (g := fun z => [some (rv (some (lA L 11 0))), some (rv (some (lA L 7 s))), some (iv (hrN M (s : Int) z.1)), some (iv (z.1 : Int)), z.2.2.2]) (cs := fun _ => 0) (ss := fun _ => 0) (μ := fun z => n + 1 - z.1) (I := fun z => z.1 ≤ n ∧ CX t0 ao mo ad L z.2.1 z.2.2.1 Mr ∧ zmX z.2.2.1 (hrM M (s : Int) z.1) ∧ kpH Z z.2.2.1) (x0 := (0, X, Z, none)) rfl rfl rfl rfl ⟨Nat.zero_le _, h, z, kpH.rf Z⟩ ?_
  rintro ⟨i, Xi, Zi, u3⟩ ⟨hi, hCi, zi, kHi⟩ ih
  dsimp only at hi hCi zi kHi ih ⊢
  obtain ⟨hKy, ⟨-, -, -, -, hra, -⟩, -⟩ := yd_C hCi zi
  have st := hrM_st M (s : Int) i
  have hOi : OkM (hrM M (s : Int) i) := ok_hr hO i (by omega)
  have hLI := hCi.li (j := 4) (c := 6) (xs := List.range n) (by have := zi.1.2.2.2.2.2.2.2.2.2; omega) rfl (by rw [kHi.2.2.1, hn]; exact z.2.1.2.2.2.2.1)
  have hlen : ((List.range n).map (lA L 6)).length = n := by rw [List.length_map, List.length_range]
  refine V_iload_n C dX9_hearWaiting_4 rfl ?_
  refine V_aload_n C dX9_hearWaiting_5 rfl ?_
  refine V_getP C cl10 fX9_25 (r := some ((lA L 1 4))) hKy hra dX9_hearWaiting_6 ?_
  refine V_callV1 C (As := []) (L_size hl hLI) kX9_63 hLI.1 rfl rfl (Nat.le_of_ble_eq_true rfl) ⟨Nat.le_of_ble_eq_true rfl, Nat.le_of_ble_eq_true rfl⟩ ⟨Nat.le_of_ble_eq_true rfl, Nat.le_of_ble_eq_true rfl⟩ dX9_hearWaiting_9 ?_
  refine V_icmp_ge C dX9_hearWaiting_12 (by omega) (by omega) (fun h12 => ?_) (fun h12 => ?_)
  · obtain rfl : i = n := by omega
    refine V_iload_n C dX9_hearWaiting_59 rfl ?_
    exact V_iret C (by omega) (by omega) ⟨rfl, Zi, hCi, zi, kHi⟩ hr dX9_hearWaiting_60
  · have hin : i < n := by omega
    have hk6 : i < yC Zi 6 := by rw [kHi.1, ← hn]; exact hin
    have hq : ((List.range n).map (lA L 6))[i]? = some (lA L 6 i) := by rw [List.getElem?_map, List.getElem?_range hin]; rfl
    obtain ⟨hsC, i1, -, -, -⟩ := se_C hCi zi hk6
    have e31 : (hrM M (s : Int) i).2 31 = M.2 31 := st.2.1 31 (by decide)
    have hs320 : gP Xi 320 (lA L 6 i) = some (lA L 7 (M.2 31 i).toNat) := by rw [← e31]; exact hsC.2.1.1
    have i1 : (M.2 31 i).toNat < yC Zi 7 := by rw [← e31]; exact i1
    have ok := (hO.2.2.2.2.1 i (by omega)).1
    unfold okSe at ok
    have hhr := r_hearAll (l := l) (D := D) (kA := kA) (b := b) hl hCi zi hOi (fun k hk => by rw [kHi.2.2.2.1, st.2.1 37 (by decide), st.1]; exact hW k (by rw [kHi.1] at hk; exact hk)) (k := i) hk6
    rw [st.2.1 37 (by decide), st.2.2.2 i (Nat.le_refl i)] at hhr
    have hNs : hrN M (s : Int) (i + 1) = hrN M (s : Int) i + if M.2 31 i = (s : Int) then M.2 37 i - M.2 38 i else 0 := rfl
    have hMs : hrM M (s : Int) (i + 1) = if M.2 31 i = (s : Int) then hearM (hrM M (s : Int) i) i else hrM M (s : Int) i := rfl
    refine V_aload_n C dX9_hearWaiting_15 rfl ?_
    refine V_getP C cl10 fX9_25 (r := some ((lA L 1 4))) hKy hra dX9_hearWaiting_16 ?_
    refine V_iload_n C dX9_hearWaiting_19 rfl ?_
    refine V_callV1 C (As := [_]) (L_get hl hLI hq rfl) kX9_283 hLI.1 rfl rfl (Nat.le_of_ble_eq_true rfl) ⟨Nat.le_of_ble_eq_true rfl, Nat.le_of_ble_eq_true rfl⟩ ⟨Nat.le_of_ble_eq_true rfl, Nat.le_of_ble_eq_true rfl⟩ dX9_hearWaiting_20 ?_
    refine V_cast C cl5 cc_RX9_161 hsC.1 dX9_hearWaiting_23 ?_
    refine V_astore C dX9_hearWaiting_26 (by decide) rfl ?_
    refine V_aload C dX9_hearWaiting_28 rfl ?_
    refine V_getP C cl5 fX9_186 (r := some ((lA L 7 (M.2 31 i).toNat))) hsC.1 hs320 dX9_hearWaiting_30 ?_
    refine V_aload_n C dX9_hearWaiting_33 rfl ?_
    refine V_acmp_ne C dX9_hearWaiting_34  (fun h34 => ?_) (fun h34 => ?_)
    · refine V_iinc C dX9_hearWaiting_53 (by decide) rfl rfl ?_
      refine V_goto C dX9_hearWaiting_56 ?_
      first | (have ez : M.2 31 i = (s : Int) := (by have e9 := hCi.inj (c := 7) i1 (by rw [kHi.1]; exact hs) (Option.some.inj h34); omega); rw [if_pos ez] at hNs hMs; have h8 := ih (i + 1, Y50, Z4, some (rv (some (lA L 6 i)))) ⟨(by show i + 1 ≤ n; omega), hC4, (by rw [hMs, hearM_if]; exact zC4), (kHi.tr kZ3.h).tr kZ4.h⟩ (by show n + 1 - (i + 1) < n + 1 - i; omega); dsimp only at h8; rw [hNs] at h8; exact h8) | (have ez : ¬ M.2 31 i = (s : Int) := (fun e => h34 (by rw [show (M.2 31 i).toNat = s by omega])); rw [if_neg ez] at hNs hMs; have h8 := ih (i + 1, Xi, Zi, some (rv (some (lA L 6 i)))) ⟨(by show i + 1 ≤ n; omega), hCi, (by rw [hMs]; exact zi), kHi⟩ (by show n + 1 - (i + 1) < n + 1 - i; omega); dsimp only at h8; rw [hNs, Int.add_zero] at h8; exact h8)
    · refine V_iload_n C dX9_hearWaiting_37 rfl ?_
      refine V_aload C dX9_hearWaiting_38 rfl ?_
      refine V_getP C cl5 fX9_200 (r := some ((lA L 10 i))) hsC.1 hsC.2.2.2.2.1 dX9_hearWaiting_40 ?_
      refine V_callV C (As := []) (hhr) kX9_310 hsC.2.2.2.2.2 rfl rfl (Nat.le_of_ble_eq_true rfl) ⟨Nat.le_of_ble_eq_true rfl, Nat.le_of_ble_eq_true rfl⟩ ⟨(by first | exact Nat.le_of_ble_eq_true rfl | (dsimp only; omega)), (by first | exact Nat.le_of_ble_eq_true rfl | (dsimp only; omega))⟩ dX9_hearWaiting_43 (fun _ _ h => h.elim) (fun v43 Y43 hp => ?_)
      obtain ⟨rfl, Z3, hC3, zC3, kZ3⟩ := hp
      have hst := r_settle (l := l) (D := D) (kA := kA) (b := b) hl hC3 zC3 (ok_heard hOi) (k := i) (by rw [kZ3.1]; exact hk6) (fun _ => ⟨(if_pos rfl).trans rfl, (if_pos rfl).trans rfl, (if_pos rfl).trans rfl⟩)
      refine V_iadd C dX9_hearWaiting_46 ?_
      refine V_istore_n C dX9_hearWaiting_47 (by decide) rfl ?_
      refine V_aload C dX9_hearWaiting_48 rfl ?_
      refine V_callS C (As := [_]) (hst) kX9_197 rfl rfl (Nat.le_of_ble_eq_true rfl) ⟨Nat.le_of_ble_eq_true rfl, Nat.le_of_ble_eq_true rfl⟩ ⟨(by first | exact Nat.le_of_ble_eq_true rfl | (dsimp only; omega)), (by first | exact Nat.le_of_ble_eq_true rfl | (dsimp only; omega))⟩ dX9_hearWaiting_50 (fun _ _ h => h.elim) (fun v50 Y50 hp => ?_)
      obtain ⟨rfl, Z4, hC4, zC4, kZ4⟩ := hp
      refine V_iinc C dX9_hearWaiting_53 (by decide) rfl rfl ?_
      refine V_goto C dX9_hearWaiting_56 ?_
      first | (have ez : M.2 31 i = (s : Int) := (by have e9 := hCi.inj (c := 7) i1 (by rw [kHi.1]; exact hs) (Option.some.inj h34); omega); rw [if_pos ez] at hNs hMs; have h8 := ih (i + 1, Y50, Z4, some (rv (some (lA L 6 i)))) ⟨(by show i + 1 ≤ n; omega), hC4, (by rw [hMs, hearM_if]; exact zC4), (kHi.tr kZ3.h).tr kZ4.h⟩ (by show n + 1 - (i + 1) < n + 1 - i; omega); dsimp only at h8; rw [hNs] at h8; exact h8) | (have ez : ¬ M.2 31 i = (s : Int) := (fun e => h34 (by rw [show (M.2 31 i).toNat = s by omega])); rw [if_neg ez] at hNs hMs; have h8 := ih (i + 1, Xi, Zi, some (rv (some (lA L 6 i)))) ⟨(by show i + 1 ≤ n; omega), hCi, (by rw [hMs]; exact zi), kHi⟩ (by show n + 1 - (i + 1) < n + 1 - i; omega); dsimp only at h8; rw [hNs, Int.add_zero] at h8; exact h8)
set_option maxHeartbeats 2000000 in
set_option maxRecDepth 20000 in
theorem c_X9_link (hl : l.stackTraces = false) (h : CX t0 ao mo ad L X Z Mr) (hZ : ZM Z M) (hI : Iv M jj) {q u : Int} (hq : rng q) (hu : u = 0 ∨ u = 1) (hn : n = yC Z 6) : Ct l D kA b t0 yX9_link cX9_link 4 (some FieldType.int) 7 114 [rv (some (lA L 11 0)), iv q, iv u] X 2 12 (fun v Y => ((linS M n q u).1).1 0 = 0 ∧ v = some (iv ((linS M n q u).2)) ∧ clR t0 ao mo ad L Mr ((linS M n q u).1) Y) (fun E Y => ((E = "java/lang/IndexOutOfBoundsException" ∧ ((linS M n q u).1).1 0 = 1)) ∧ clR t0 ao mo ad L Mr ((linS M n q u).1) Y) := by
  refine Ct_mk hl (by decide) (Nat.le_of_ble_eq_true rfl) rfl ?_
  intro p9 e9 s9 m9 args9 below9 meth9 c9 C hr hx0
  obtain ⟨⟨zC, zL, zY, zF, zS, zA, zD, zE, zV⟩, zT, zW, zB⟩ := id hZ
  obtain ⟨hKy, ⟨ha0, ha1, ha2, ha3, ha4, ha5⟩, hlm, hsn, hdg⟩ := yd_C h hZ.1
  have o0 := hI.1.1
  unfold okSc at o0
  have c7 := zC.2.2.1
  have c3 := zC.2.2.2.1
  have c4 := zC.2.2.2.2.1
  have c6 := zC.2.2.2.2.2.1
  refine V_aload_n C dX9_link_0 rfl ?_
  refine V_iload_n C dX9_link_1 rfl ?_
  refine V_callV C (As := [_]) (r_socketAt hl h hZ.1 hq) kX9_109 hKy rfl rfl (Nat.le_of_ble_eq_true rfl) ⟨Nat.le_of_ble_eq_true rfl, Nat.le_of_ble_eq_true rfl⟩ ⟨(by first | exact Nat.le_of_ble_eq_true rfl | (dsimp only; omega)), (by first | exact Nat.le_of_ble_eq_true rfl | (dsimp only; omega))⟩ dX9_link_2 (fun E Y hp => ?_) (fun v2 Y hp => ?_)
  · obtain ⟨rfl, rfl, hn⟩ := hp
    exact VX_out C hx0 (by omega) (by omega) (by rw [show linS M n q u = (stp M 1, 0) from if_neg (by omega)]; exact ⟨⟨rfl, rfl⟩, L, Z, h, hZ, rfl⟩)
  obtain ⟨rfl, hYX, hw2, hi2⟩ := hp
  have hXY := hYX.symm
  subst hXY
  have os := hI.1.2.1 q.toNat (by omega)
  unfold okSo at os
  have hW : ∀ k : Nat, k < yC Z 6 → yN Z 576 k + M.2 37 k ≤ M.1 1 := fun k hk => (zW k hk).1
  refine V_astore_n C dX9_link_5 (by decide) rfl ?_
  refine V_aload_n C dX9_link_6 rfl ?_
  refine V_getIx C cl6 fX9_116 (x := (1 - M.2 10 q.toNat)) (h.gk (c := 7) (by decide) hi2) (h.gi (f := 388) (c := 7) (by decide) hi2 (zS _ hi2).2.2.2.2.1) dX9_link_7 ?_
  refine V_iload_n C dX9_link_10 rfl ?_
  refine V_icmp_ne C dX9_link_11 (by omega) (by omega) (fun h11 => ?_) (fun h11 => ?_)
  · refine V_aload_n C dX9_link_16 rfl ?_
    refine V_iload_n C dX9_link_17 rfl ?_
    refine V_putZ C cl6 fX9_116 (Or.inl rfl) rfl (by first | decide | omega | (split <;> omega)) (h.gk (c := 7) (by decide) hi2) dX9_link_18 ?_
    refine V_iload_n C dX9_link_21 rfl ?_
    refine V_if_eq C dX9_link_22 (by omega) (fun h22 => ?_) (fun h22 => ?_)
    · refine V_aload_n C dX9_link_31 rfl ?_
      refine V_aload_n C dX9_link_32 rfl ?_
      have hu0 : u = 0 := by omega
      have hd0 : M.2 10 q.toNat = 0 := by omega
      subst hu0
      have c1 := h.putI (f := 388) (c := 7) (i := q.toNat) (v := 0) rfl (by decide) (by decide) hi2 rfl
      have y0 := h.gi (f := 646) (c := 11) (i := 0) (v := M.1 1) (by decide) (by rw [zC.1]; omega) zT.1
      have hls : linS M n q 0 = (if M.2 12 q.toNat = -1 then setA (setA (setS M 0 0) 10 q.toNat 1) 11 q.toNat (M.1 1) else setA (setA (setA (setS M 0 0) 10 q.toNat 1) 11 q.toNat (M.1 1)) 45 (M.2 12 q.toNat).toNat (M.2 36 (M.2 12 q.toNat).toNat), 0) := by
        unfold linS
        rw [if_pos (show 0 ≤ q ∧ q < M.1 6 by omega), if_pos (show 0 = M.2 10 q.toNat by omega), if_neg (by decide)]
      have t9 := (zS _ hi2).2.2.2.2.2.2.1
      have hgp : gP (sI X 388 (lA L 7 q.toNat) 0) 390 (lA L 7 q.toNat) = (yT Z 390 q.toNat).map (lA L 6) := (h.2.2.2.2.2.1 390 q.toNat (by decide) (by decide) hi2 rfl).1
      have hgl := (h.2.2.2.2.2.1 390 q.toNat (by decide) (by decide) hi2 rfl).2
      rw [t9] at hgp hgl
      by_cases h12 : M.2 12 q.toNat = -1
      · rw [if_pos h12] at hgp
        refine V_callV0 C (As := [_]) (c_X9_goDown0 hl (X := sI X 388 (lA L 7 q.toNat) 0) (n := M.1 1) hKy (h.gk (c := 7) (by decide) hi2) y0 hgp) kX9_123 hKy rfl rfl (Nat.le_of_ble_eq_true rfl) ⟨Nat.le_of_ble_eq_true rfl, Nat.le_of_ble_eq_true rfl⟩ ⟨(by first | exact Nat.le_of_ble_eq_true rfl | (dsimp only; omega)), (by first | exact Nat.le_of_ble_eq_true rfl | (dsimp only; omega))⟩ dX9_link_33 ?_
        have c2 := c1.putI (f := 389) (c := 7) (i := q.toNat) (v := M.1 1) rfl (by decide) (by decide) hi2 rfl
        have z2 := zm_down (Z2 := zsN (zsN Z 388 q.toNat 0) 389 q.toNat (M.1 1)) (M := setS M 0 0) (zmX_0 (v := 0) hZ.1) hI.2.2.1 (s := q.toNat) (show (q.toNat : Int) < M.1 6 by omega) hI.1 rfl rfl rfl rfl rfl (fun f hf => by funext x; simp [zsN, yN, u2, hf.1, hf.2.1, hf.2.2.1, hf.2.2.2]) (fun i => by simp [zsN, yN, u2]) (fun i => by simp [zsN, yN, u2, setS]) (fun k => by show _ = if M.2 12 q.toNat = (k : Int) then M.2 36 k else yN Z 327 k; rw [if_neg (show ¬ M.2 12 q.toNat = (k : Int) by omega)]; rfl) (fun k => by show _ = if M.2 12 q.toNat = (k : Int) then 0 else yN Z 328 k; rw [if_neg (show ¬ M.2 12 q.toNat = (k : Int) by omega)]; rfl) rfl
        refine V_iconst C dX9_link_36 ?_
        exact V_iret C (by omega) (by omega) (by rw [hls]; exact ⟨by first | (rw [if_pos h12]; rfl) | (rw [if_neg h12]; rfl), rfl, L, _, c2, ⟨z2, lin_rest hZ rfl rfl (funext fun x => rfl) (funext fun x => rfl) (funext fun x => rfl) (funext fun x => rfl) (funext fun x => rfl)⟩, rfl⟩) hr dX9_link_37
      · rw [if_neg h12] at hgp hgl
        have hk6 := hgl _ rfl
        refine V_callV0 C (As := [_]) (c_X9_goDown1 hl (X := sI X 388 (lA L 7 q.toNat) 0) (n := M.1 1) (a := lA L 6 (M.2 12 q.toNat).toNat) (lt := M.2 36 (M.2 12 q.toNat).toNat) hKy (h.gk (c := 7) (by decide) hi2) y0 hgp (h.gk (c := 6) (by decide) hk6) (h.gi (f := 326) (c := 6) (by decide) hk6 (zE _ hk6).2.2.2.1)) kX9_123 hKy rfl rfl (Nat.le_of_ble_eq_true rfl) ⟨Nat.le_of_ble_eq_true rfl, Nat.le_of_ble_eq_true rfl⟩ ⟨(by first | exact Nat.le_of_ble_eq_true rfl | (dsimp only; omega)), (by first | exact Nat.le_of_ble_eq_true rfl | (dsimp only; omega))⟩ dX9_link_33 ?_
        have c2 := ((c1.putI (f := 389) (c := 7) (i := q.toNat) (v := M.1 1) rfl (by decide) (by decide) hi2 rfl).putI (f := 327) (c := 6) (i := (M.2 12 q.toNat).toNat) (v := M.2 36 (M.2 12 q.toNat).toNat) rfl (by decide) (by decide) hk6 rfl).putI (f := 328) (c := 6) (i := (M.2 12 q.toNat).toNat) (v := 0) rfl (by decide) (by decide) hk6 rfl
        have z2 := zm_down (Z2 := zsN (zsN (zsN (zsN Z 388 q.toNat 0) 389 q.toNat (M.1 1)) 327 (M.2 12 q.toNat).toNat (M.2 36 (M.2 12 q.toNat).toNat)) 328 (M.2 12 q.toNat).toNat 0) (M := setS M 0 0) (zmX_0 (v := 0) hZ.1) hI.2.2.1 (s := q.toNat) (show (q.toNat : Int) < M.1 6 by omega) hI.1 rfl rfl rfl rfl rfl (fun f hf => by funext x; simp [zsN, yN, u2, hf.1, hf.2.1, hf.2.2.1, hf.2.2.2]) (fun i => by simp [zsN, yN, u2]) (fun i => by simp [zsN, yN, u2, setS]) (fun k => by show _ = if M.2 12 q.toNat = (k : Int) then M.2 36 k else yN Z 327 k; by_cases e : M.2 12 q.toNat = (k : Int); (rw [if_pos e]; have e2 : k = (M.2 12 q.toNat).toNat := (by omega); simp [zsN, yN, u2, e2]); (rw [if_neg e]; have e2 : k ≠ (M.2 12 q.toNat).toNat := (by omega); simp [zsN, yN, u2, e2])) (fun k => by show _ = if M.2 12 q.toNat = (k : Int) then 0 else yN Z 328 k; by_cases e : M.2 12 q.toNat = (k : Int); (rw [if_pos e]; have e2 : k = (M.2 12 q.toNat).toNat := (by omega); simp [zsN, yN, u2, e2]); (rw [if_neg e]; have e2 : k ≠ (M.2 12 q.toNat).toNat := (by omega); simp [zsN, yN, u2, e2])) rfl
        refine V_iconst C dX9_link_36 ?_
        exact V_iret C (by omega) (by omega) (by rw [hls]; exact ⟨by first | (rw [if_pos h12]; rfl) | (rw [if_neg h12]; rfl), rfl, L, _, c2, ⟨z2, lin_rest hZ rfl rfl (funext fun x => rfl) (funext fun x => rfl) (funext fun x => rfl) (funext fun x => rfl) (funext fun x => rfl)⟩, rfl⟩) hr dX9_link_37
    · have hu1 : u = 1 := by omega
      have hd1 : M.2 10 q.toNat = 1 := by omega
      subst hu1
      have c1 := h.putI (f := 388) (c := 7) (i := q.toNat) (v := 1) rfl (by decide) (by decide) hi2 rfl
      have z1 : zmX (zsN Z 388 q.toNat 1) (setA (setS M 0 0) 10 q.toNat 0) := zm_up (M := setS M 0 0) hZ.1
      have hO1 : OkM (setA (setS M 0 0) 10 q.toNat 0) := ok_link (M := setS M 0 0) hI.1 (Or.inl rfl)
      have hhw := c_X9_hearWaiting (l := l) (D := D) (kA := kA) (b := b) hl c1 z1 hO1 hW hn (s := q.toNat) hi2
      have hls : linS M n q 1 = (hrM (setA (setS M 0 0) 10 q.toNat 0) (q.toNat : Int) n, hrN (setA (setS M 0 0) 10 q.toNat 0) (q.toNat : Int) n) := by
        unfold linS
        rw [if_pos (show 0 ≤ q ∧ q < M.1 6 by omega), if_pos (show 1 = M.2 10 q.toNat by omega), if_pos rfl, show ((q.toNat : Nat) : Int) = q by omega]
        rfl
      refine V_aload_n C dX9_link_25 rfl ?_
      refine V_aload_n C dX9_link_26 rfl ?_
      refine V_callV C (As := [_]) (hhw) kX9_119 hKy rfl rfl (Nat.le_of_ble_eq_true rfl) ⟨Nat.le_of_ble_eq_true rfl, Nat.le_of_ble_eq_true rfl⟩ ⟨(by first | exact Nat.le_of_ble_eq_true rfl | (dsimp only; omega)), (by first | exact Nat.le_of_ble_eq_true rfl | (dsimp only; omega))⟩ dX9_link_27 (fun _ _ h => h.elim) (fun v27 Y27 hp => ?_)
      obtain ⟨rfl, Z2, hC2, zC2, kH2⟩ := hp
      exact V_iret C (by omega) (by omega) (by rw [hls]; exact ⟨by show (hrM (setA (setS M 0 0) 10 q.toNat 0) (q.toNat : Int) n).1 0 = 0; rw [(hrM_st _ _ _).1]; rfl, rfl, L, Z2, hC2, ⟨zC2, lin_up hZ kH2⟩, rfl⟩) hr dX9_link_30
  · refine V_iconst C dX9_link_14 ?_
    exact V_iret C (by omega) (by omega) (by rw [show linS M n q u = (setS M 0 0, 0) from (if_pos (show 0 ≤ q ∧ q < M.1 6 by omega)).trans (if_neg (by omega))]; exact ⟨rfl, rfl, L, Z, h, hZ, rfl⟩) hr dX9_link_15
end REL7
