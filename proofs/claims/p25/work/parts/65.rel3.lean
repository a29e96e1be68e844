/-! the class: calls that make -/
theorem growN_in {c : Nat} (h : c ≤ 1000) : growN c ≤ 1500 := by
  unfold growN
  split
  · omega
  · split <;> omega
theorem sumF_congr {f g : Nat → Int} : ∀ n : Nat, (∀ k, k < n → f k = g k) → sumF f n = sumF g n := by
  intro n
  induction n with
  | zero => exact fun _ => rfl
  | succ n ih =>
    intro h
    show sumF f n + f n = sumF g n + g n
    rw [ih (fun k hk => h k (by omega)), h n (by omega)]
section ADD
variable {l : Launch} {D : va_G} {kA : Nat → ClassId} {b t0 ao mo : Nat} {ad : Nat → Nat} {L : Ly} {X Y : Mm} {Z : Zs} {Mr M : Mo}
/-- adding to a list -/
theorem r_add (hl : l.stackTraces = false) (h : CX t0 ao mo ad L X Z Mr) {j c i a v : Nat} {xs : List Nat} (hj : j < yC Z 1) (hc : kLs j = c) (hx : yL Z j = xs) (hi : i < yC Z c) (hn : xs.length ≤ 600) (ha : a = lA L 1 j) (hv : v = lA L c i) : growN (lC L j) ≤ 1500 ∧ Ct l D kA b t0 yJx4a65c_add_9ea2d cJx4a65c_add_9ea2d 2 (some FieldType.boolean) 6 158 [rv (some a), rv (some v)] X 1 (growN (lC L j)) (fun r Y => r = some (iv 1) ∧ ∃ L2, lA L2 = lA L ∧ CX t0 ao mo ad L2 Y (zsL Z j (xs ++ [i])) Mr) pF := by
  subst hc hx ha hv
  have hli := h.li hj rfl rfl
  have hk := kLs_in j
  have hkv := h.gk (c := kLs j) (by omega) hi
  have hdk := h.dk hj
  have h1 := h.gk (c := 1) (by decide) hj
  refine ⟨growN_in hli.2.2.2.2.2.2.1, Ct.weak (L_add hl hli (v := lA L (kLs j) i) (by unfold oK; omega) (by rw [List.length_map]; exact hn) (fun e => by rw [e] at hdk; omega)) ?_⟩
  rintro r Y ⟨hr, d2, c2, hL, hd, hF, hd2, -⟩
  refine ⟨hr, (lA L, u1 (lD L) j d2, u1 (lC L) j c2), rfl, h.lst hj (by rw [List.map_append]; exact hL) (fun u hu => ?_) (fun q hq hn => hF q hq (fun y => hn (by rcases y with y | y; exact Or.inl y; exact Or.inr y.1))) (fun h24 => ?_) (by rcases hd2 with y | y; exact Or.inl y; exact Or.inr y.1)⟩
  · rcases List.mem_append.mp hu with y | y
    · exact (h.2.2.2.2.2.2.1 j hj).2 u y
    · rw [List.mem_singleton.mp y]
      exact hi
  · have e := hF (lD L j) (by omega) (fun y => by
      rcases y with y | y
      · rw [y] at h24
        omega
      · omega)
    refine ⟨e.1.trans h24, e.2.2.2.1.trans ?_⟩
    rcases hli.2.2.2.2.1 with y | y
    · omega
    · rw [hli.2.2.2.1]
      exact y.2.2
end ADD
theorem yC_N (Z : Zs) (f i : Nat) (v : Int) : yC (zsN Z f i v) = yC Z := rfl
theorem yC_T (Z : Zs) (f i : Nat) (v : Option Nat) : yC (zsT Z f i v) = yC Z := rfl
theorem yC_L (Z : Zs) (j : Nat) (xs : List Nat) : yC (zsL Z j xs) = yC Z := rfl
theorem yC_W (Z : Zs) (c : Nat) : yC (zNew Z c) = u1 (yC Z) c (yC Z c + 1) := rfl
theorem yC_S (Z : Zs) : yC (zLst Z) = u1 (yC Z) 1 (yC Z 1 + 1) := rfl
theorem yN_N (Z : Zs) (f i : Nat) (v : Int) : yN (zsN Z f i v) = u2 (yN Z) f i v := rfl
theorem yN_T (Z : Zs) (f i : Nat) (v : Option Nat) : yN (zsT Z f i v) = yN Z := rfl
theorem yN_L (Z : Zs) (j : Nat) (xs : List Nat) : yN (zsL Z j xs) = yN Z := rfl
theorem yN_W (Z : Zs) (c : Nat) : yN (zNew Z c) = fun f i => if f / 64 + 1 = c ∧ i = yC Z c then 0 else yN Z f i := rfl
theorem yN_S (Z : Zs) : yN (zLst Z) = yN Z := rfl
theorem yT_N (Z : Zs) (f i : Nat) (v : Int) : yT (zsN Z f i v) = yT Z := rfl
theorem yT_T (Z : Zs) (f i : Nat) (v : Option Nat) : yT (zsT Z f i v) = u2 (yT Z) f i v := rfl
theorem yT_L (Z : Zs) (j : Nat) (xs : List Nat) : yT (zsL Z j xs) = yT Z := rfl
theorem yT_W (Z : Zs) (c : Nat) : yT (zNew Z c) = fun f i => if f / 64 + 1 = c ∧ i = yC Z c then none else yT Z f i := rfl
theorem yT_S (Z : Zs) : yT (zLst Z) = yT Z := rfl
theorem yL_N (Z : Zs) (f i : Nat) (v : Int) : yL (zsN Z f i v) = yL Z := rfl
theorem yL_T (Z : Zs) (f i : Nat) (v : Option Nat) : yL (zsT Z f i v) = yL Z := rfl
theorem yL_L (Z : Zs) (j : Nat) (xs : List Nat) : yL (zsL Z j xs) = u1 (yL Z) j xs := rfl
theorem yL_W (Z : Zs) (c : Nat) : yL (zNew Z c) = yL Z := rfl
theorem yL_S (Z : Zs) : yL (zLst Z) = u1 (yL Z) (yC Z 1) [] := rfl
theorem yR_N (Z : Zs) (f i : Nat) (v : Int) : yR (zsN Z f i v) = yR Z := rfl
theorem yR_T (Z : Zs) (f i : Nat) (v : Option Nat) : yR (zsT Z f i v) = yR Z := rfl
theorem yR_L (Z : Zs) (j : Nat) (xs : List Nat) : yR (zsL Z j xs) = yR Z := rfl
theorem yR_W (Z : Zs) (c : Nat) : yR (zNew Z c) = yR Z := rfl
theorem yR_S (Z : Zs) : yR (zLst Z) = yR Z := rfl
theorem yK_N (Z : Zs) (f i : Nat) (v : Int) : yK (zsN Z f i v) = yK Z := rfl
theorem yK_T (Z : Zs) (f i : Nat) (v : Option Nat) : yK (zsT Z f i v) = yK Z := rfl
theorem yK_L (Z : Zs) (j : Nat) (xs : List Nat) : yK (zsL Z j xs) = yK Z := rfl
theorem yK_W (Z : Zs) (c : Nat) : yK (zNew Z c) = yK Z := rfl
theorem yK_S (Z : Zs) : yK (zLst Z) = yK Z := rfl
theorem L_sizeN {l : Launch} {D : va_G} {kA : Nat → ClassId} {b t0 : Nat} {X : Mm} (hl : l.stackTraces = false) {a : Nat} {xs : List Nat} {d c n : Nat} (h : LI t0 X a xs d c) (e : xs.length = n) : Ct l D kA b t0 yJx4a65c_size_8abf5 cJx4a65c_size_8abf5 1 (some FieldType.int) 0 0 [rv (some a)] X 0 0 (pD (some (iv (n : Int))) X) pF := by
  subst e
  exact L_size hl h
theorem zmB_congr {Z Z2 : Zs} {M M2 : Mo} (h : zmB Z M) (h1 : yC Z2 2 = yC Z 2) (h2 : yC Z2 7 = yC Z 7) (h3 : yT Z2 64 = yT Z 64) (h4 : yN Z2 65 = yN Z 65) (h5 : yN Z2 66 = yN Z 66) (h6 : ∀ u, yL Z2 (6 + u) = yL Z (6 + u)) (h7 : ∀ u, bkL M2 u = bkL M u) : zmB Z2 M2 := by
  have e : bkZ Z2 = bkZ Z := by
    funext q
    unfold bkZ
    rw [h3, h4, h5]
  refine ⟨fun q hq => ?_, fun u hu => ?_⟩
  · rw [h3]
    exact h.1 q (h1 ▸ hq)
  · rw [h6, h7, e]
    exact h.2 u (h2 ▸ hu)
theorem zm_tariff {Z Z2 : Zs} {M : Mo} (hZ : ZM Z M) {f : Nat} (hf : f < 3) (s d n i : Int) (hC : yC Z2 = u1 (yC Z) 9 (yC Z 9 + 1)) (hT : ∀ g k, g ≠ 256 ∨ k ≠ f → g / 64 + 1 ≠ 9 → yT Z2 g k = yT Z g k) (hN : ∀ g k, (g / 64 + 1 = 9 → k ≠ yC Z 9) → yN Z2 g k = yN Z g k) (t256 : yT Z2 256 f = some (yC Z 9)) (n0 : yN Z2 512 (yC Z 9) = s) (n1 : yN Z2 513 (yC Z 9) = d) (n2 : yN Z2 514 (yC Z 9) = n) (n3 : yN Z2 515 (yC Z 9) = i) (hL : yL Z2 = yL Z) (hR : yR Z2 = yR Z) (hK : yK Z2 = yK Z) : ZM Z2 (setA (setA (setA (setA M 23 (4 * f) s) 23 (4 * f + 1) d) 23 (4 * f + 2) n) 23 (4 * f + 3) i) := by
  obtain ⟨⟨zC, zL, zY, zF, zS, zA, zD, zE, zV⟩, zT, zW, zB⟩ := hZ
  have fN : ∀ g, g / 64 + 1 ≠ 9 → yN Z2 g = yN Z g := fun g hg => funext fun k => hN g k (fun e => absurd e hg)
  have fT : ∀ g, g ≠ 256 → g / 64 + 1 ≠ 9 → yT Z2 g = yT Z g := fun g h1 hg => funext fun k => hT g k (Or.inl h1) hg
  have u9 : u1 (yC Z) 9 (yC Z 9 + 1) 9 = yC Z 9 + 1 := if_pos rfl
  have tr : ∀ p a0 a1 a2 a3, trfI Z p a0 a1 a2 a3 → trfI Z2 p a0 a1 a2 a3 := fun p a0 a1 a2 a3 ht => by
    obtain ⟨t0, t1, t2, t3, t4⟩ := ht
    have hp : p ≠ yC Z 9 := by omega
    exact ⟨by rw [hC, u9]; omega, (hN 512 p (fun _ => hp)).trans t1, (hN 513 p (fun _ => hp)).trans t2, (hN 514 p (fun _ => hp)).trans t3, (hN 515 p (fun _ => hp)).trans t4⟩
  have hT2 : zmT Z2 M := by unfold zmT; rw [fN 646 (by decide), fN 650 (by decide)]; exact zT
  have hW2 : zmW Z2 M := by unfold zmW; rw [hC, fN 576 (by decide)]; exact zW
  have q1 : zmC Z2 M := by unfold zmC; rw [hC]; exact zC
  have q2 : zmL Z2 M := by unfold zmL; rw [hC, hL]; exact zL
  have fT2 : ∀ g, (g ≠ 256 ∧ g / 64 + 1 ≠ 9) → yT Z2 g = yT Z g := fun g h => fT g h.1 h.2
  have qzmY : zmY Z2 M := by unfold zmY; rw [fT2 640 (by decide), fT2 641 (by decide), fT2 642 (by decide), fT2 643 (by decide), fT2 644 (by decide), fT2 645 (by decide), fN 647 (by decide), fN 648 (by decide), fN 649 (by decide)]; exact zY
  have qzmS : zmS Z2 M := by unfold zmS; rw [hC, fT2 385 (by decide), fT2 390 (by decide), fT2 391 (by decide), fN 384 (by decide), fN 386 (by decide), fN 387 (by decide), fN 388 (by decide), fN 389 (by decide)]; exact zS
  have qzmA : zmA Z2 M := by unfold zmA; rw [hC, fN 128 (by decide), fN 129 (by decide), fN 130 (by decide), fN 131 (by decide), fN 132 (by decide)]; exact zA
  have qzmD : zmD Z2 M := by unfold zmD; rw [hC, fT2 192 (by decide), fN 193 (by decide), fN 194 (by decide), fN 195 (by decide), fN 196 (by decide)]; exact zD
  have qzmV : zmV Z2 M := by unfold zmV tlZ; rw [hC, fT2 577 (by decide), fT2 580 (by decide), fN 578 (by decide), fN 579 (by decide), fN 576 (by decide), fN 448 (by decide), fN 449 (by decide), fN 450 (by decide), fN 451 (by decide), hR, hK]; exact zV
  refine ⟨⟨q1, q2, qzmY, fun k hk => ⟨?_, ?_⟩, qzmS, qzmA, qzmD, fun k hk => ?_, qzmV⟩, hT2, hW2, zmB_congr zB (by rw [hC]; rfl) (by rw [hC]; rfl) (fT2 64 (by decide)) (fN 65 (by decide)) (fN 66 (by decide)) (fun u => by rw [hL]) (fun _ => rfl)⟩
  · rw [fN 257 (by decide)]
    exact (zF k hk).1
  · obtain ⟨-, p, e1, e2⟩ := zF k hk
    by_cases e : k = f
    · subst e
      refine ⟨yC Z 9, t256, by rw [hC, u9]; omega, ?_, ?_, ?_, ?_⟩
      · rw [n0]; simp [setA]
      · rw [n1]; simp [setA]
      · rw [n2]; simp [setA]
      · rw [n3]; simp [setA]
    · refine ⟨p, (hT 256 k (Or.inr e) (by decide)).trans e1, ?_⟩
      have h0 : ∀ q, q ≠ 4 * f → q ≠ 4 * f + 1 → q ≠ 4 * f + 2 → q ≠ 4 * f + 3 → (setA (setA (setA (setA M 23 (4 * f) s) 23 (4 * f + 1) d) 23 (4 * f + 2) n) 23 (4 * f + 3) i).2 23 q = M.2 23 q := fun q q0 q1 q2 q3 => by
        rw [setA_far q3, setA_far q2, setA_far q1, setA_far q0]
      rw [h0 (4 * k) (by omega) (by omega) (by omega) (by omega), h0 (4 * k + 1) (by omega) (by omega) (by omega) (by omega), h0 (4 * k + 2) (by omega) (by omega) (by omega) (by omega), h0 (4 * k + 3) (by omega) (by omega) (by omega) (by omega)]
      exact tr _ _ _ _ _ e2
  · have hk : k < yC Z 6 := by rw [hC] at hk; exact hk
    obtain ⟨a1, ⟨p, e1, e2⟩, a3⟩ := zE k hk
    rw [fT2 320 (by decide), fT2 321 (by decide), fT2 322 (by decide), fT2 324 (by decide), fT2 323 (by decide), fN 325 (by decide), fN 326 (by decide), fN 329 (by decide), fN 330 (by decide), fN 331 (by decide), fN 328 (by decide), fN 327 (by decide)]
    exact ⟨a1, ⟨p, e1, tr _ _ _ _ _ e2⟩, a3⟩
theorem zm_car {Z Z2 : Zs} {M : Mo} {jj : Nat} (hZ : ZM Z M) (hI : Iv M jj) (c h w : Int) (hC : yC Z2 = u1 (yC Z) 3 (yC Z 3 + 1)) (hT : ∀ f i, (f / 64 + 1 = 3 → i ≠ yC Z 3) → yT Z2 f i = yT Z f i) (hN : ∀ f i, (f / 64 + 1 = 3 → i ≠ yC Z 3) → yN Z2 f i = yN Z f i) (n132 : yN Z2 132 (yC Z 3) = 0) (n128 : yN Z2 128 (yC Z 3) = (yC Z 3 : Int)) (n129 : yN Z2 129 (yC Z 3) = c) (n131 : yN Z2 131 (yC Z 3) = h) (n130 : yN Z2 130 (yC Z 3) = w) (hL : yL Z2 = u1 (yL Z) 2 (List.range (yC Z 3) ++ [yC Z 3])) (hR : yR Z2 = yR Z) (hK : yK Z2 = yK Z) : ZM Z2 (setS (setA (setA (setA M 14 (yC Z 3) c) 15 (yC Z 3) h) 16 (yC Z 3) w) 13 (M.1 13 + 1)) := by
  obtain ⟨⟨zC, zL, zY, zF, zS, zA, zD, zE, zV⟩, zT, zW, zB⟩ := hZ
  have fN : ∀ f, f / 64 + 1 ≠ 3 → yN Z2 f = yN Z f := fun f hf => funext fun i => hN f i (fun e => absurd e hf)
  have fT : ∀ f, f / 64 + 1 ≠ 3 → yT Z2 f = yT Z f := fun f hf => funext fun i => hT f i (fun e => absurd e hf)
  have e3 : u1 (yC Z) 3 (yC Z 3 + 1) 3 = yC Z 3 + 1 := if_pos rfl
  have hT2 : zmT Z2 (setS (setA (setA (setA M 14 (yC Z 3) c) 15 (yC Z 3) h) 16 (yC Z 3) w) 13 (M.1 13 + 1)) := by unfold zmT; rw [fN 646 (by decide), fN 650 (by decide)]; exact zT
  have hW2 : zmW Z2 (setS (setA (setA (setA M 14 (yC Z 3) c) 15 (yC Z 3) h) 16 (yC Z 3) w) 13 (M.1 13 + 1)) := by unfold zmW; rw [hC, fN 576 (by decide)]; exact zW
  have qzmY : zmY Z2 (setS (setA (setA (setA M 14 (yC Z 3) c) 15 (yC Z 3) h) 16 (yC Z 3) w) 13 (M.1 13 + 1)) := by unfold zmY; rw [fT 640 (by decide), fT 641 (by decide), fT 642 (by decide), fT 643 (by decide), fT 644 (by decide), fT 645 (by decide), fN 647 (by decide), fN 648 (by decide), fN 649 (by decide)]; exact zY
  have qzmF : zmF Z2 (setS (setA (setA (setA M 14 (yC Z 3) c) 15 (yC Z 3) h) 16 (yC Z 3) w) 13 (M.1 13 + 1)) := by unfold zmF trfI; rw [hC, fT 256 (by decide), fN 257 (by decide), fN 512 (by decide), fN 513 (by decide), fN 514 (by decide), fN 515 (by decide)]; exact zF
  have qzmS : zmS Z2 (setS (setA (setA (setA M 14 (yC Z 3) c) 15 (yC Z 3) h) 16 (yC Z 3) w) 13 (M.1 13 + 1)) := by unfold zmS; rw [hC, fT 385 (by decide), fT 390 (by decide), fT 391 (by decide), fN 384 (by decide), fN 386 (by decide), fN 387 (by decide), fN 388 (by decide), fN 389 (by decide)]; exact zS
  have qzmD : zmD Z2 (setS (setA (setA (setA M 14 (yC Z 3) c) 15 (yC Z 3) h) 16 (yC Z 3) w) 13 (M.1 13 + 1)) := by unfold zmD; rw [hC, fT 192 (by decide), fN 193 (by decide), fN 194 (by decide), fN 195 (by decide), fN 196 (by decide)]; exact zD
  have qzmE : zmE Z2 (setS (setA (setA (setA M 14 (yC Z 3) c) 15 (yC Z 3) h) 16 (yC Z 3) w) 13 (M.1 13 + 1)) := by unfold zmE trfI; rw [hC, fT 320 (by decide), fT 321 (by decide), fT 322 (by decide), fT 324 (by decide), fT 323 (by decide), fN 512 (by decide), fN 513 (by decide), fN 514 (by decide), fN 515 (by decide), fN 325 (by decide), fN 326 (by decide), fN 329 (by decide), fN 330 (by decide), fN 331 (by decide), fN 328 (by decide), fN 327 (by decide)]; exact zE
  have qzmV : zmV Z2 (setS (setA (setA (setA M 14 (yC Z 3) c) 15 (yC Z 3) h) 16 (yC Z 3) w) 13 (M.1 13 + 1)) := by unfold zmV tlZ; rw [hC, fT 577 (by decide), fT 580 (by decide), fN 578 (by decide), fN 579 (by decide), fN 576 (by decide), fN 448 (by decide), fN 449 (by decide), fN 450 (by decide), fN 451 (by decide), hR, hK]; exact zV
  obtain ⟨c1, c2, c3, c4, c5⟩ := zC
  obtain ⟨l1, l2, l3, l4⟩ := zL
  refine ⟨⟨?_, ?_, qzmY, qzmF, qzmS, fun i hi => ?_, qzmD, qzmE, qzmV⟩, hT2, hW2, zmB_congr zB (by rw [hC]; rfl) (by rw [hC]; rfl) (fT 64 (by decide)) (fN 65 (by decide)) (fN 66 (by decide)) (fun u => by rw [hL]; exact if_neg (by omega)) (fun _ => rfl)⟩
  · unfold zmC
    rw [hC]
    refine ⟨c1, c2, c3, ?_, c5⟩
    rw [e3]
    show ((yC Z 3 + 1 : Nat) : Int) = M.1 13 + 1
    omega
  · unfold zmL
    rw [hC, hL, e3, List.range_succ (n := yC Z 3)]
    exact ⟨l1, l2, if_pos rfl, l4⟩
  · rw [hC, e3] at hi
    by_cases e : i = yC Z 3
    · subst e
      have hn : ¬ awyM M (yC Z 6) (yC Z 3) := by
        rintro ⟨k, k1, k2, k3⟩
        have o := (hI.1.2.2.2.2.1 k (by have := c5.2.1; omega)).1
        unfold okSe at o
        omega
      rw [n128, n129, n130, n131, n132, hC]
      refine ⟨rfl, ?_, ?_, ?_, Or.inl rfl, fun y => absurd y (by decide), fun y => absurd y hn⟩
      · exact (if_pos rfl).symm
      · exact (if_pos rfl).symm
      · exact (if_pos rfl).symm
    · obtain ⟨a1, a2, a3, a4, a5, a6⟩ := zA i (by omega)
      rw [hN 128 i (fun _ => e), hN 129 i (fun _ => e), hN 130 i (fun _ => e), hN 131 i (fun _ => e), hN 132 i (fun _ => e), hC]
      refine ⟨a1, a2.trans ?_, a3.trans ?_, a4.trans ?_, a5, a6⟩
      · exact (if_neg e).symm
      · exact (if_neg e).symm
      · exact (if_neg e).symm
theorem zm_card {Z Z2 : Zs} {M : Mo} {jj : Nat} (hZ : ZM Z M) (hI : Iv M jj) (h12 : yC Z 4 < 12) (f w : Int) (hC : yC Z2 = u1 (yC Z) 4 (yC Z 4 + 1)) (hT : ∀ f i, (f / 64 + 1 = 4 → i ≠ yC Z 4) → yT Z2 f i = yT Z f i) (hN : ∀ f i, (f / 64 + 1 = 4 → i ≠ yC Z 4) → yN Z2 f i = yN Z f i) (t192 : yT Z2 192 (yC Z 4) = some f.toNat) (n193 : yN Z2 193 (yC Z 4) = w) (n194 : yN Z2 194 (yC Z 4) = 1) (n195 : yN Z2 195 (yC Z 4) = 0) (n196 : yN Z2 196 (yC Z 4) = 0) (hL : yL Z2 = u1 (yL Z) 3 (List.range (yC Z 4) ++ [yC Z 4])) (hR : yR Z2 = yR Z) (hK : yK Z2 = yK Z) : ZM Z2 (setS (setA (setA (setA M 18 (yC Z 4) f) 19 (yC Z 4) w) 20 (yC Z 4) 1) 17 (M.1 17 + 1)) := by
  obtain ⟨⟨zC, zL, zY, zF, zS, zA, zD, zE, zV⟩, zT, zW, zB⟩ := hZ
  have fN : ∀ f, f / 64 + 1 ≠ 4 → yN Z2 f = yN Z f := fun f hf => funext fun i => hN f i (fun e => absurd e hf)
  have fT : ∀ f, f / 64 + 1 ≠ 4 → yT Z2 f = yT Z f := fun f hf => funext fun i => hT f i (fun e => absurd e hf)
  have e4 : u1 (yC Z) 4 (yC Z 4 + 1) 4 = yC Z 4 + 1 := if_pos rfl
  have hT2 : zmT Z2 (setS (setA (setA (setA M 18 (yC Z 4) f) 19 (yC Z 4) w) 20 (yC Z 4) 1) 17 (M.1 17 + 1)) := by unfold zmT; rw [fN 646 (by decide), fN 650 (by decide)]; exact zT
  have hW2 : zmW Z2 (setS (setA (setA (setA M 18 (yC Z 4) f) 19 (yC Z 4) w) 20 (yC Z 4) 1) 17 (M.1 17 + 1)) := by unfold zmW; rw [hC, fN 576 (by decide)]; exact zW
  have qzmY : zmY Z2 (setS (setA (setA (setA M 18 (yC Z 4) f) 19 (yC Z 4) w) 20 (yC Z 4) 1) 17 (M.1 17 + 1)) := by unfold zmY; rw [fT 640 (by decide), fT 641 (by decide), fT 642 (by decide), fT 643 (by decide), fT 644 (by decide), fT 645 (by decide), fN 647 (by decide), fN 648 (by decide), fN 649 (by decide)]; exact zY
  have qzmS : zmS Z2 (setS (setA (setA (setA M 18 (yC Z 4) f) 19 (yC Z 4) w) 20 (yC Z 4) 1) 17 (M.1 17 + 1)) := by unfold zmS; rw [hC, fT 385 (by decide), fT 390 (by decide), fT 391 (by decide), fN 384 (by decide), fN 386 (by decide), fN 387 (by decide), fN 388 (by decide), fN 389 (by decide)]; exact zS
  have qzmA : zmA Z2 (setS (setA (setA (setA M 18 (yC Z 4) f) 19 (yC Z 4) w) 20 (yC Z 4) 1) 17 (M.1 17 + 1)) := by unfold zmA; rw [hC, fN 128 (by decide), fN 129 (by decide), fN 130 (by decide), fN 131 (by decide), fN 132 (by decide)]; exact zA
  have qzmE : zmE Z2 (setS (setA (setA (setA M 18 (yC Z 4) f) 19 (yC Z 4) w) 20 (yC Z 4) 1) 17 (M.1 17 + 1)) := by unfold zmE trfI; rw [hC, fT 320 (by decide), fT 321 (by decide), fT 322 (by decide), fT 324 (by decide), fT 323 (by decide), fN 512 (by decide), fN 513 (by decide), fN 514 (by decide), fN 515 (by decide), fN 325 (by decide), fN 326 (by decide), fN 329 (by decide), fN 330 (by decide), fN 331 (by decide), fN 328 (by decide), fN 327 (by decide)]; exact zE
  have qzmV : zmV Z2 (setS (setA (setA (setA M 18 (yC Z 4) f) 19 (yC Z 4) w) 20 (yC Z 4) 1) 17 (M.1 17 + 1)) := by unfold zmV tlZ; rw [hC, fT 577 (by decide), fT 580 (by decide), fN 578 (by decide), fN 579 (by decide), fN 576 (by decide), fN 448 (by decide), fN 449 (by decide), fN 450 (by decide), fN 451 (by decide), hR, hK]; exact zV
  obtain ⟨c1, c2, c3, c4, c5, c6⟩ := zC
  obtain ⟨l1, l2, l3, l4, l5⟩ := zL
  have iz := hI.2.2.2.2.2.1.2.1 (yC Z 4) (by omega) h12
  refine ⟨⟨?_, ?_, qzmY, fun i hi => ?_, qzmS, qzmA, fun i hi => ?_, qzmE, qzmV⟩, hT2, hW2, zmB_congr zB (by rw [hC]; rfl) (by rw [hC]; rfl) (fT 64 (by decide)) (fN 65 (by decide)) (fN 66 (by decide)) (fun u => by rw [hL]; exact if_neg (by omega)) (fun _ => rfl)⟩
  · unfold zmC
    rw [hC]
    refine ⟨c1, c2, c3, c4, ?_, c6⟩
    rw [e4]
    show ((yC Z 4 + 1 : Nat) : Int) = M.1 17 + 1
    omega
  · unfold zmL
    rw [hC, hL, e4, List.range_succ (n := yC Z 4)]
    exact ⟨l1, l2, l3, if_pos rfl, l5⟩
  · unfold trfI
    rw [hC, fT 256 (by decide), fN 257 (by decide), fN 512 (by decide), fN 513 (by decide), fN 514 (by decide), fN 515 (by decide)]
    refine ⟨(zF i hi).1.trans ?_, (zF i hi).2⟩
    unfold acF
    have et : (M.1 17 + 1).toNat = (M.1 17).toNat + 1 := by omega
    have en : (M.1 17).toNat = yC Z 4 := by omega
    have ec : sumF (fun k => if (if k = yC Z 4 then f else M.2 18 k) = (i : Int) then M.2 22 k else 0) (yC Z 4) = sumF (fun k => if M.2 18 k = (i : Int) then M.2 22 k else 0) (yC Z 4) := sumF_congr _ (fun k hk => by rw [if_neg (show ¬ k = yC Z 4 by omega)])
    have e0 : (if (if yC Z 4 = yC Z 4 then f else M.2 18 (yC Z 4)) = (i : Int) then M.2 22 (yC Z 4) else 0) = 0 := by rw [iz.2]; simp
    show _ = sumF (fun k => if (if k = yC Z 4 then f else M.2 18 k) = (i : Int) then M.2 22 k else 0) (M.1 17 + 1).toNat + sumF (fun k => M.2 25 (3 * k + i) - M.2 25 (3 * i + k)) 3
    rw [et, en, sumF_step _ (yC Z 4), ec, e0]
    omega
  · rw [hC, e4] at hi
    by_cases e : i = yC Z 4
    · subst e
      rw [t192, n193, n194, n195, n196]
      refine ⟨?_, ?_, ?_, iz.1.symm, iz.2.symm⟩
      · exact congrArg (fun v : Int => some v.toNat) (if_pos rfl).symm
      · exact (if_pos rfl).symm
      · exact (if_pos rfl).symm
    · obtain ⟨a1, a2, a3, a4, a5⟩ := zD i (by omega)
      rw [hT 192 i (fun _ => e), hN 193 i (fun _ => e), hN 194 i (fun _ => e), hN 195 i (fun _ => e), hN 196 i (fun _ => e)]
      refine ⟨a1.trans ?_, a2.trans ?_, a3.trans ?_, a4, a5⟩
      · exact congrArg (fun v : Int => some v.toNat) (if_neg e).symm
      · exact (if_neg e).symm
      · exact (if_neg e).symm
theorem zm_socket {Z Z2 : Zs} {M : Mo} {jj : Nat} (hZ : ZM Z M) (hI : Iv M jj) (h8 : yC Z 7 < 8) (f w : Int) (hC : yC Z2 = u1 (u1 (yC Z) 7 (yC Z 7 + 1)) 1 (yC Z 1 + 1)) (hT : ∀ f i, (f / 64 + 1 = 7 → i ≠ yC Z 7) → yT Z2 f i = yT Z f i) (hN : ∀ f i, (f / 64 + 1 = 7 → i ≠ yC Z 7) → yN Z2 f i = yN Z f i) (n384 : yN Z2 384 (yC Z 7) = (yC Z 7 : Int)) (t385 : yT Z2 385 (yC Z 7) = some f.toNat) (n386 : yN Z2 386 (yC Z 7) = w) (n387 : yN Z2 387 (yC Z 7) = 0) (n388 : yN Z2 388 (yC Z 7) = 1) (n389 : yN Z2 389 (yC Z 7) = 0) (t390 : yT Z2 390 (yC Z 7) = none) (t391 : yT Z2 391 (yC Z 7) = some (yC Z 1)) (hL : yL Z2 = u1 (u1 (yL Z) (yC Z 1) []) 1 (List.range (yC Z 7) ++ [yC Z 7])) (hR : yR Z2 = yR Z) (hK : yK Z2 = yK Z) : ZM Z2 (setS (setA (setA M 7 (yC Z 7) f) 8 (yC Z 7) w) 6 (M.1 6 + 1)) := by
  obtain ⟨⟨zC, zL, zY, zF, zS, zA, zD, zE, zV⟩, zT, zW, zB⟩ := hZ
  have fN : ∀ f, f / 64 + 1 ≠ 7 → yN Z2 f = yN Z f := fun f hf => funext fun i => hN f i (fun e => absurd e hf)
  have fT : ∀ f, f / 64 + 1 ≠ 7 → yT Z2 f = yT Z f := fun f hf => funext fun i => hT f i (fun e => absurd e hf)
  have e7 : u1 (u1 (yC Z) 7 (yC Z 7 + 1)) 1 (yC Z 1 + 1) 7 = yC Z 7 + 1 := rfl
  have e1 : u1 (u1 (yC Z) 7 (yC Z 7 + 1)) 1 (yC Z 1 + 1) 1 = yC Z 1 + 1 := rfl
  have hT2 : zmT Z2 (setS (setA (setA M 7 (yC Z 7) f) 8 (yC Z 7) w) 6 (M.1 6 + 1)) := by unfold zmT; rw [fN 646 (by decide), fN 650 (by decide)]; exact zT
  have hW2 : zmW Z2 (setS (setA (setA M 7 (yC Z 7) f) 8 (yC Z 7) w) 6 (M.1 6 + 1)) := by unfold zmW; rw [hC, fN 576 (by decide)]; exact zW
  have qzmY : zmY Z2 (setS (setA (setA M 7 (yC Z 7) f) 8 (yC Z 7) w) 6 (M.1 6 + 1)) := by unfold zmY; rw [fT 640 (by decide), fT 641 (by decide), fT 642 (by decide), fT 643 (by decide), fT 644 (by decide), fT 645 (by decide), fN 647 (by decide), fN 648 (by decide), fN 649 (by decide)]; exact zY
  have qzmF : zmF Z2 (setS (setA (setA M 7 (yC Z 7) f) 8 (yC Z 7) w) 6 (M.1 6 + 1)) := by unfold zmF trfI; rw [hC, fT 256 (by decide), fN 257 (by decide), fN 512 (by decide), fN 513 (by decide), fN 514 (by decide), fN 515 (by decide)]; exact zF
  have qzmA : zmA Z2 (setS (setA (setA M 7 (yC Z 7) f) 8 (yC Z 7) w) 6 (M.1 6 + 1)) := by unfold zmA; rw [hC, fN 128 (by decide), fN 129 (by decide), fN 130 (by decide), fN 131 (by decide), fN 132 (by decide)]; exact zA
  have qzmD : zmD Z2 (setS (setA (setA M 7 (yC Z 7) f) 8 (yC Z 7) w) 6 (M.1 6 + 1)) := by unfold zmD; rw [hC, fT 192 (by decide), fN 193 (by decide), fN 194 (by decide), fN 195 (by decide), fN 196 (by decide)]; exact zD
  have qzmE : zmE Z2 (setS (setA (setA M 7 (yC Z 7) f) 8 (yC Z 7) w) 6 (M.1 6 + 1)) := by unfold zmE trfI; rw [hC, fT 320 (by decide), fT 321 (by decide), fT 322 (by decide), fT 324 (by decide), fT 323 (by decide), fN 512 (by decide), fN 513 (by decide), fN 514 (by decide), fN 515 (by decide), fN 325 (by decide), fN 326 (by decide), fN 329 (by decide), fN 330 (by decide), fN 331 (by decide), fN 328 (by decide), fN 327 (by decide)]; exact zE
  have qzmV : zmV Z2 (setS (setA (setA M 7 (yC Z 7) f) 8 (yC Z 7) w) 6 (M.1 6 + 1)) := by unfold zmV tlZ; rw [hC, fT 577 (by decide), fT 580 (by decide), fN 578 (by decide), fN 579 (by decide), fN 576 (by decide), fN 448 (by decide), fN 449 (by decide), fN 450 (by decide), fN 451 (by decide), hR, hK]; exact zV
  obtain ⟨c1, c2, c3, c4, c5, c6, c7, c8, c9, c10⟩ := zC
  obtain ⟨l1, l2, l3, l4, l5, l6⟩ := zL
  have iz := hI.2.2.2.2.2.1.2.2 (yC Z 7) (by omega) h8
  have hyL : ∀ j, j ≠ 1 → j ≠ yC Z 1 → yL Z2 j = yL Z j := fun j h1 h2 => by
    rw [hL]
    exact (if_neg h1).trans (if_neg h2)
  refine ⟨⟨?_, ?_, qzmY, qzmF, fun i hi => ?_, qzmA, qzmD, qzmE, qzmV⟩, hT2, hW2, ⟨fun q hq => ?_, fun u hu => ?_⟩⟩
  · unfold zmC
    rw [hC]
    refine ⟨c1, c2, ?_, c4, c5, c6, c7, c8, c9, ?_⟩
    · rw [e7]
      show ((yC Z 7 + 1 : Nat) : Int) = M.1 6 + 1
      omega
    · rw [e7, e1]
      omega
  · unfold zmL
    rw [hyL 0 (by omega) (by omega), hyL 2 (by omega) (by omega), hyL 3 (by omega) (by omega), hyL 4 (by omega) (by omega), hyL 5 (by omega) (by omega), hC, e7, List.range_succ (n := yC Z 7), hL]
    exact ⟨l1, if_pos rfl, l3, l4, l5, l6⟩
  · rw [hC, e7] at hi
    by_cases e : i = yC Z 7
    · subst e
      rw [n384, t385, n386, n387, n388, n389, t390, t391]
      refine ⟨rfl, ?_, ?_, iz.1.symm, ?_, iz.2.2.1.symm, ?_, by rw [c10]⟩
      · exact congrArg (fun v : Int => some v.toNat) (if_pos rfl).symm
      · exact (if_pos rfl).symm
      · show (1 : Int) = 1 - M.2 10 (yC Z 7)
        rw [iz.2.1]
        rfl
      · exact (if_pos iz.2.2.2.1).symm
    · obtain ⟨a1, a2, a3, a4, a5, a6, a7, a8⟩ := zS i (by omega)
      rw [hN 384 i (fun _ => e), hN 386 i (fun _ => e), hN 387 i (fun _ => e), hN 388 i (fun _ => e), hN 389 i (fun _ => e), hT 385 i (fun _ => e), hT 390 i (fun _ => e), hT 391 i (fun _ => e)]
      refine ⟨a1, a2.trans ?_, a3.trans ?_, a4, a5, a6, a7, a8⟩
      · exact congrArg (fun v : Int => some v.toNat) (if_neg e).symm
      · exact (if_neg e).symm
  · rw [fT 64 (by decide)]
    exact zB.1 q (by rw [hC] at hq; exact hq)
  · rw [hC, e7] at hu
    have ebk : bkZ Z2 = bkZ Z := by
      funext q
      unfold bkZ
      rw [fT 64 (by decide), fN 65 (by decide), fN 66 (by decide)]
    rw [ebk]
    by_cases e : u = yC Z 7
    · subst e
      have e0 : bkL (setS (setA (setA M 7 (yC Z 7) f) 8 (yC Z 7) w) 6 (M.1 6 + 1)) (yC Z 7) = [] := by
        refine List.eq_nil_of_length_eq_zero ?_
        unfold bkL
        rw [blF_len]
        show (M.2 26 (yC Z 7)).toNat = 0
        rw [iz.2.2.2.2]
        rfl
      have e2 : yL Z2 (6 + yC Z 7) = [] := by
        rw [hL, ← c10]
        exact (if_neg (by omega)).trans (if_pos rfl)
      rw [e0, e2]
      rfl
    · rw [hyL (6 + u) (by omega) (by omega)]
      exact zB.2 u (by omega)
