/-! the class: a session begins -/
section REL11
variable {l : Launch} {D : va_G} {kA : Nat → ClassId} {b t0 ao mo jj : Nat} {ad : Nat → Nat} {L : Ly} {X Y : Mm} {Z : Zs} {Mr M : Mo} {n s c k : Nat} {nw : Int}
set_option maxHeartbeats 2000000 in
set_option maxRecDepth 20000 in
theorem c_X9_begin (hl : l.stackTraces = false) (h : CX t0 ao mo ad L X Z Mr) (hn : n < yC Z 6) (hs : s < yC Z 7) (hc : c < yC Z 3) (hk : k < yC Z 4) (h11 : 0 < yC Z 11) (h1 : yC Z 1 = 6 + yC Z 7) (g320 : yT Z 320 n = some s) (g321 : yT Z 321 n = some c) (g322 : yT Z 322 n = some k) (g391 : yT Z 391 s = some (6 + s)) (g644 : yT Z 644 0 = some 4) (g645 : yT Z 645 0 = some 5) (hd : ∀ q, q < yC Z 2 → ∃ k, yT Z 64 q = some k) (hbd : ∀ v ∈ yL Z (6 + s), (0 ≤ yN Z 65 v ∧ yN Z 65 v ≤ 20000) ∧ (0 ≤ yN Z 66 v ∧ yN Z 66 v ≤ 20600)) (hnw : yN Z 646 0 = nw) (hn9 : 0 ≤ nw ∧ nw ≤ 20000) (hl4 : (yL Z 4).length ≤ 600) (hl5 : (yL Z 5).length ≤ 600) : Ct l D kA b t0 yX9_begin cX9_begin 2 none 7 179 [rv (some (lA L 11 0)), rv (some (lA L 6 n))] X 16 4200 (fun v Y => v = none ∧ ∃ L2 Z2, lA L2 = lA L ∧ CX t0 ao mo ad L2 Y Z2 Mr ∧ yC Z2 = yC Z ∧ (∀ f i, (f ≠ 390 ∨ i ≠ s) → yT Z2 f i = yT Z f i) ∧ (∀ f i, (f ≠ 132 ∨ i ≠ c) → yN Z2 f i = yN Z f i) ∧ yT Z2 390 s = some n ∧ yN Z2 132 c = 1 ∧ yL Z2 = u1 (u1 (u1 (yL Z) (6 + s) ((yL Z (6 + s)).filter (fun v => !decide ((bkZ Z v).1 = (k : Int) ∧ yN Z 65 v ≤ nw ∧ nw < yN Z 65 v + 15)))) 4 (yL Z 4 ++ [n])) 5 (yL Z 5 ++ [n]) ∧ yR Z2 = yR Z ∧ yK Z2 = yK Z) (pF) := by
  refine Ct_mk hl (by decide) (Nat.le_of_ble_eq_true rfl) rfl ?_
  intro p9 e9 s9 m9 args9 below9 meth9 c9 C hr hx0
  have k6 := h.gk (c := 6) (by decide) hn
  have k7 := h.gk (c := 7) (by decide) hs
  have k3c := h.gk (c := 3) (by decide) hc
  have p320 := (h.gp (f := 320) (g := 7) (c := 6) (by decide) hn g320).1
  have p321 := (h.gp (f := 321) (g := 3) (c := 6) (by decide) hn g321).1
  have p322 := (h.gp (f := 322) (g := 4) (c := 6) (by decide) hn g322).1
  have k11 := h.gk (c := 11) (by decide) h11
  have p644 := (h.gp (f := 644) (g := 1) (c := 11) (by decide) h11 g644).1
  have p645 := (h.gp (f := 645) (g := 1) (c := 11) (by decide) h11 g645).1
  refine V_aload_n C dX9_begin_0 rfl ?_
  refine V_getP C cl5 fX9_186 (r := some ((lA L 7 s))) k6 p320 dX9_begin_1 ?_
  refine V_aload_n C dX9_begin_4 rfl ?_
  refine V_putP C cl6 fX9_190 (Or.inl rfl) (Or.inl ⟨_, rfl⟩) k7 dX9_begin_5 ?_
  refine V_aload_n C dX9_begin_8 rfl ?_
  refine V_getP C cl5 fX9_179 (r := some ((lA L 3 c))) k6 p321 dX9_begin_9 ?_
  refine V_iconst C dX9_begin_12 ?_
  refine V_putZ C cl2 fX9_183 (Or.inl rfl) rfl (by first | decide | omega | (split <;> omega)) k3c dX9_begin_13 ?_
  have c1 := (h.putP (f := 390) (c := 7) (i := s) (a := lA L 7 s) (r := some (lA L 6 n)) (v := some n) rfl (by decide) (by decide) hs rfl rfl (fun j hj => by cases hj; exact hn)).putI (f := 132) (c := 3) (i := c) (a := lA L 3 c) (v := 1) rfl (by decide) (by decide) hc rfl
  obtain ⟨Z1, c1, z1, z2, z3, z4, z5, z6, z7, z8⟩ : ∃ Z1, CX t0 ao mo ad L (sI (sP X 390 (lA L 7 s) (some (lA L 6 n))) 132 (lA L 3 c) 1) Z1 Mr ∧ yC Z1 = yC Z ∧ (∀ f i, (f ≠ 390 ∨ i ≠ s) → yT Z1 f i = yT Z f i) ∧ (∀ f i, (f ≠ 132 ∨ i ≠ c) → yN Z1 f i = yN Z f i) ∧ yT Z1 390 s = some n ∧ yN Z1 132 c = 1 ∧ yL Z1 = yL Z ∧ yR Z1 = yR Z ∧ yK Z1 = yK Z := ⟨_, c1, rfl, fun f i hf => if_neg (fun e => by rcases hf with y | y; exact y e.1; exact y e.2), fun f i hf => if_neg (fun e => by rcases hf with y | y; exact y e.1; exact y e.2), if_pos ⟨rfl, rfl⟩, if_pos ⟨rfl, rfl⟩, rfl, rfl, rfl⟩
  have eb : bkZ Z1 = bkZ Z := by
    funext q
    unfold bkZ
    rw [z2 64 q (Or.inl (by decide)), z3 65 q (Or.inl (by decide)), z3 66 q (Or.inl (by decide))]
  have e65 : yN Z1 65 = yN Z 65 := funext fun q => z3 65 q (Or.inl (by decide))
  have e66 : yN Z1 66 = yN Z 66 := funext fun q => z3 66 q (Or.inl (by decide))
  have e64 : yT Z1 64 = yT Z 64 := funext fun q => z2 64 q (Or.inl (by decide))
  have hus := r_use (l := l) (D := D) (kA := kA) (b := b) hl c1 (u := s) (kk := k) (n := nw) (by rw [z1]; omega) (by rw [z1, e64]; exact hd) (by rw [z6, e65, e66]; exact hbd) (by rw [z1]; exact hs) (by rw [z1]; exact hk) (by rw [z1]; exact h11) ((z2 391 s (Or.inl (by decide))).trans g391) ((z3 646 0 (Or.inl (by decide))).trans hnw) hn9
  rw [z6, eb, e65] at hus
  refine V_aload_n C dX9_begin_16 rfl ?_
  refine V_aload_n C dX9_begin_17 rfl ?_
  refine V_getP C cl5 fX9_186 (r := some ((lA L 7 s))) k6 p320 dX9_begin_18 ?_
  refine V_aload_n C dX9_begin_21 rfl ?_
  refine V_getP C cl5 fX9_340 (r := some ((lA L 4 k))) k6 p322 dX9_begin_22 ?_
  refine V_callV C (As := [_, _]) (hus) kX9_343 k11 rfl rfl (Nat.le_of_ble_eq_true rfl) ⟨Nat.le_of_ble_eq_true rfl, Nat.le_of_ble_eq_true rfl⟩ ⟨(by first | exact Nat.le_of_ble_eq_true rfl | (dsimp only; omega)), (by first | exact Nat.le_of_ble_eq_true rfl | (dsimp only; omega))⟩ dX9_begin_25 (fun _ _ h => h.elim) (fun v25 Y25 hp => ?_)
  obtain ⟨rfl, c2⟩ := hp
  have k11b := c2.gk (c := 11) (i := 0) (by decide) (show 0 < yC Z1 11 by rw [z1]; exact h11)
  have p644b := (c2.gp (f := 644) (g := 1) (c := 11) (i := 0) (j := 4) (by decide) (show 0 < yC Z1 11 by rw [z1]; exact h11) ((z2 644 0 (Or.inl (by decide))).trans g644)).1
  have kl4 := c2.gk (c := 1) (i := 4) (by decide) (show 4 < yC Z1 1 by rw [z1]; omega)
  obtain ⟨hg4, hct⟩ := r_add (l := l) (D := D) (kA := kA) (b := b) hl c2 (j := 4) (c := 6) (i := n) (xs := yL Z 4) (show 4 < yC Z1 1 by rw [z1]; omega) rfl (show u1 (yL Z1) (6 + s) ((yL Z (6 + s)).filter (fun v => !decide ((bkZ Z v).1 = (k : Int) ∧ yN Z 65 v ≤ nw ∧ nw < yN Z 65 v + 15))) 4 = _ by rw [z6]; exact if_neg (by omega)) (show n < yC Z1 6 by rw [z1]; exact hn) hl4 (a := lA L 1 4) (v := lA L 6 n) rfl rfl
  refine V_aload_n C dX9_begin_28 rfl ?_
  refine V_getP C cl10 fX9_25 (r := some ((lA L 1 4))) k11b p644b dX9_begin_29 ?_
  refine V_aload_n C dX9_begin_32 rfl ?_
  refine V_callV C (As := [_]) (hct) kX9_50 kl4 rfl rfl (Nat.le_of_ble_eq_true rfl) ⟨Nat.le_of_ble_eq_true rfl, Nat.le_of_ble_eq_true rfl⟩ ⟨(by first | exact Nat.le_of_ble_eq_true rfl | (dsimp only; omega)), (by show _ ≤ 4200; omega)⟩ dX9_begin_33 (fun _ _ h => h.elim) (fun v33 Y33 hp => ?_)
  obtain ⟨rfl, L3, hL3, c3⟩ := hp
  have k11c := c3.gk (c := 11) (i := 0) (by decide) (show 0 < yC Z1 11 by rw [z1]; exact h11)
  have p645b := (c3.gp (f := 645) (g := 1) (c := 11) (i := 0) (j := 5) (by decide) (show 0 < yC Z1 11 by rw [z1]; exact h11) ((z2 645 0 (Or.inl (by decide))).trans g645)).1
  have kl5 := c3.gk (c := 1) (i := 5) (by decide) (show 5 < yC Z1 1 by rw [z1]; omega)
  obtain ⟨hg5, hct5⟩ := r_add (l := l) (D := D) (kA := kA) (b := b) hl c3 (j := 5) (c := 6) (i := n) (xs := yL Z 5) (show 5 < yC Z1 1 by rw [z1]; omega) rfl (show u1 (u1 (yL Z1) (6 + s) ((yL Z (6 + s)).filter (fun v => !decide ((bkZ Z v).1 = (k : Int) ∧ yN Z 65 v ≤ nw ∧ nw < yN Z 65 v + 15)))) 4 (yL Z 4 ++ [n]) 5 = _ by rw [z6]; exact if_neg (show ¬ 5 = 6 + s by omega)) (show n < yC Z1 6 by rw [z1]; exact hn) hl5 (a := lA L 1 5) (v := lA L 6 n) (by rw [hL3]) (by rw [hL3])
  rw [hL3] at k11c p645b kl5
  refine V_pop C dX9_begin_36 rfl ?_
  refine V_aload_n C dX9_begin_37 rfl ?_
  refine V_getP C cl10 fX9_28 (r := some ((lA L 1 5))) k11c p645b dX9_begin_38 ?_
  refine V_aload_n C dX9_begin_41 rfl ?_
  refine V_callV C (As := [_]) (hct5) kX9_50 kl5 rfl rfl (Nat.le_of_ble_eq_true rfl) ⟨Nat.le_of_ble_eq_true rfl, Nat.le_of_ble_eq_true rfl⟩ ⟨(by first | exact Nat.le_of_ble_eq_true rfl | (dsimp only; omega)), (by show _ ≤ 4200; omega)⟩ dX9_begin_42 (fun _ _ h => h.elim) (fun v42 Y42 hp => ?_)
  obtain ⟨rfl, L4, hL4, c4⟩ := hp
  refine V_pop C dX9_begin_45 rfl ?_
  exact V_vret C (by first | exact Nat.le_of_ble_eq_true rfl | omega) (by show _ ≤ 4200; omega) ⟨rfl, L4, _, hL4.trans hL3, c4, z1, z2, z3, z4, z5, by rw [← z6]; rfl, z7, z8⟩ hr dX9_begin_46
end REL11
