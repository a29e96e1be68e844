/-! the class: refusing, a booking used, by numbers -/
section RU
variable {l : Launch} {D : va_G} {kA : Nat → ClassId} {b t0 ao mo jj : Nat} {ad : Nat → Nat} {L : Ly} {X Y : Mm} {Z : Zs} {Mr M : Mo}
theorem bk_hol (h : CX t0 ao mo ad L X Z Mr) {u : Nat} (h6 : 6 + u < yC Z 1) (hd : ∀ q, q < yC Z 2 → ∃ k, yT Z 64 q = some k) : (∀ v ∈ yL Z (6 + u), v < yC Z 2) ∧ ∀ v ∈ yL Z (6 + u), gI X 65 (lA L 2 v) = yN Z 65 v ∧ gI X 66 (lA L 2 v) = yN Z 66 v ∧ gK X (lA L 2 v) = 2 ∧ gP X 64 (lA L 2 v) = some ((gP X 64 (lA L 2 v)).getD 0) ∧ ∀ kk, kk < yC Z 4 → ((gP X 64 (lA L 2 v)).getD 0 = lA L 4 kk ↔ (bkZ Z v).1 = (kk : Int)) := by
  have hm : ∀ v ∈ yL Z (6 + u), v < yC Z 2 := fun v hv => by
    have h9 := (h.2.2.2.2.2.2.1 (6 + u) h6).2 v hv
    rw [kLs6 u] at h9
    exact h9
  refine ⟨hm, fun v hv => ?_⟩
  obtain ⟨k, hk⟩ := hd v (hm v hv)
  have hp := h.gp (f := 64) (g := 4) (c := 2) (by decide) (hm v hv) hk
  have e1 : (bkZ Z v).1 = (k : Int) := by
    unfold bkZ
    rw [hk]
    rfl
  refine ⟨h.gi (f := 65) (c := 2) (by decide) (hm v hv) rfl, h.gi (f := 66) (c := 2) (by decide) (hm v hv) rfl, h.gk (c := 2) (by decide) (hm v hv), ?_, fun kk hkk => ?_⟩
  · rw [hp.1]
    rfl
  · rw [hp.1, e1]
    show lA L 4 k = lA L 4 kk ↔ _
    exact ⟨fun e => by have h2 := h.inj hp.2 hkk e; omega, fun e => by have h2 : k = kk := (by omega); rw [h2]⟩
theorem r_use (hl : l.stackTraces = false) (h : CX t0 ao mo ad L X Z Mr) {u kk : Nat} {n : Int} (h6 : 6 + u < yC Z 1) (hd : ∀ q, q < yC Z 2 → ∃ k, yT Z 64 q = some k) (hbd : ∀ v ∈ yL Z (6 + u), (0 ≤ yN Z 65 v ∧ yN Z 65 v ≤ 20000) ∧ (0 ≤ yN Z 66 v ∧ yN Z 66 v ≤ 20600)) (hu : u < yC Z 7) (hkk : kk < yC Z 4) (h11 : 0 < yC Z 11) (h391 : yT Z 391 u = some (6 + u)) (hn : yN Z 646 0 = n) (hn9 : 0 ≤ n ∧ n ≤ 20000) : Ct l D kA b t0 yX9_useBooking cX9_useBooking 5 none 3 94 [rv (some (lA L 11 0)), rv (some (lA L 7 u)), rv (some (lA L 4 kk))] X 0 0 (fun v Y => v = none ∧ CX t0 ao mo ad L Y (zsL Z (6 + u) ((yL Z (6 + u)).filter (fun v => !decide ((bkZ Z v).1 = (kk : Int) ∧ yN Z 65 v ≤ n ∧ n < yN Z 65 v + 15)))) Mr) pF := by
  obtain ⟨hm, hb⟩ := bk_hol h h6 hd
  have hli := h.li (j := 6 + u) (c := 2) h6 (kLs6 u) rfl
  have hdk := h.dk h6
  have hk1 := h.gk (c := 1) (by decide) h6
  have hbi : bkI X ((yL Z (6 + u)).map (lA L 2)) (fun q => (gP X 64 q).getD 0) (gI X 65) (gI X 66) := by
    show (yL Z (6 + u)).map (lA L 2) = []
    rw [h.nob h6]
    rfl
  refine Ct.weak (c_X9_useBooking hl (h.gk (c := 11) (by decide) h11) (h.gk (c := 7) (by decide) hu) (h.gp (f := 391) (g := 1) (c := 7) (by decide) hu h391).1 hli hbi (h.gi (f := 646) (c := 11) (i := 0) (by decide) h11 hn) hn9 (fun e => by rw [e] at hdk; omega)) ?_
  rintro v Y ⟨rfl, hL, hK, hF⟩
  refine ⟨rfl, ?_⟩
  have e : ((yL Z (6 + u)).map (lA L 2)).filter (fun v => !useP (fun q => (gP X 64 q).getD 0) (gI X 65) (lA L 4 kk) n v) = ((yL Z (6 + u)).filter (fun v => !decide ((bkZ Z v).1 = (kk : Int) ∧ yN Z 65 v ≤ n ∧ n < yN Z 65 v + 15))).map (lA L 2) := by
    rw [List.filter_map]
    refine congrArg (List.map (lA L 2)) (List.filter_congr (fun v hv => ?_))
    obtain ⟨b1, b2, b3, b4, b5⟩ := hb v hv
    show (!decide ((gP X 64 (lA L 2 v)).getD 0 = lA L 4 kk ∧ gI X 65 (lA L 2 v) ≤ n ∧ n < gI X 65 (lA L 2 v) + 15)) = _
    rw [b1]
    exact congrArg (fun y => !y) (decide_eq_decide.mpr (and_congr (b5 kk hkk) Iff.rfl))
  rw [e] at hL
  have hc := h.lst (j := 6 + u) h6 (Y := Y) (xs := (yL Z (6 + u)).filter (fun v => !decide ((bkZ Z v).1 = (kk : Int) ∧ yN Z 65 v ≤ n ∧ n < yN Z 65 v + 15))) (by rw [kLs6 u]; exact hL) (fun v hv => by rw [kLs6 u]; exact hm v (List.mem_filter.mp hv).1) hF (fun h24 => by
    have e1 : gK Y (lD L (6 + u)) = 24 := by rw [hK]; exact h24
    refine ⟨e1, ?_⟩
    rcases hL.2.2.2.2.1 with y | y
    · omega
    · rw [hL.2.2.2.1]
      exact y.2.2) (Or.inl rfl)
  rw [u1_self, u1_self] at hc
  exact hc
theorem r_refuse (hl : l.stackTraces = false) (h : CX t0 ao mo ad L X Z Mr) (hZ : ZM Z M) (hI : Iv M jj) {u cc kk : Nat} (hu : u < yC Z 7) (hc : cc < yC Z 3) (hkk : kk < yC Z 4) {hb : Int} (hh : hldM M u hb) : Ct l D kA b t0 yX9_refusalOf cX9_refusalOf 4 (some FieldType.int) 4 88 [rv (some (lA L 11 0)), rv (some (lA L 7 u)), rv (some (lA L 3 cc)), rv (some (lA L 4 kk))] X 0 0 (fun v Y => Y = X ∧ ∃ z : Int, v = some (iv z) ∧ ((z = -1 ∧ M.2 9 u = 1) ∨ (M.2 9 u = 0 ∧ ((z = -2 ∧ M.2 12 u ≠ -1) ∨ (M.2 12 u = -1 ∧ ((z = -3 ∧ (M.2 20 kk = 0 ∨ (M.2 10 u = 1 ∧ M.2 21 kk = 0))) ∨ (¬ (M.2 20 kk = 0 ∨ (M.2 10 u = 1 ∧ M.2 21 kk = 0)) ∧ ((z = -4 ∧ (hb ≠ -1 ∧ M.2 27 (1500 * u + hb.toNat) ≠ (kk : Int))) ∨ (¬ (hb ≠ -1 ∧ M.2 27 (1500 * u + hb.toNat) ≠ (kk : Int)) ∧ ((z = -5 ∧ awyM M (yC Z 6) (cc : Int)) ∨ (z = 0 ∧ ¬ awyM M (yC Z 6) (cc : Int)))))))))))) pF := by
  obtain ⟨⟨zC, zL, zY, zF, zS, zA, zD, zE, zV⟩, zT, zW, zB⟩ := id hZ
  have h6 : 6 + u < yC Z 1 := by have := zC.2.2.2.2.2.2.2.2.2; omega
  have h11 : 0 < yC Z 11 := by rw [zC.1]; omega
  have c7 := zC.2.2.1
  have c4 := zC.2.2.2.2.1
  obtain ⟨hm, hbi⟩ := bk_I h hZ hI hu
  obtain ⟨-, hbh⟩ := bk_hol h h6 zB.1
  obtain ⟨s1, s2, s3, s4, s5, s6, s7, s8⟩ := zS u hu
  obtain ⟨d1, d2, d3, d4, d5⟩ := zD kk hkk
  obtain ⟨a1, a2, a3, a4, a5, a6⟩ := zA cc hc
  have o7 := hI.1.2.1 u (by omega)
  have o4 := hI.1.2.2.2.1 kk (by omega)
  have o0 := hI.1.1
  unfold okSo at o7
  unfold okCd at o4
  unfold okSc at o0
  have eo : (∃ q ∈ (yL Z (6 + u)).map (lA L 2), (gP X 64 q).getD 0 ≠ lA L 4 kk ∧ gI X 65 q ≤ M.1 1 ∧ M.1 1 < gI X 65 q + 15) ↔ (hb ≠ -1 ∧ M.2 27 (1500 * u + hb.toNat) ≠ (kk : Int)) := by
    refine Iff.trans ?_ ((bk_ex zB hu (fun y => y.1 ≠ (kk : Int) ∧ y.2.1 ≤ M.1 1 ∧ M.1 1 < y.2.1 + 15)).trans (hld_other hI.2.2.2.2.2.2 (by omega) hh))
    constructor
    · rintro ⟨q, hq, h1, h2⟩
      obtain ⟨v, hv, rfl⟩ := List.mem_map.mp hq
      obtain ⟨b1, -, -, -, b5⟩ := hbh v hv
      rw [b1] at h2
      exact ⟨v, hv, fun e => h1 ((b5 kk hkk).mpr e), h2⟩
    · rintro ⟨v, hv, h1, h2⟩
      obtain ⟨b1, -, -, -, b5⟩ := hbh v hv
      exact ⟨lA L 2 v, List.mem_map.mpr ⟨v, hv, rfl⟩, fun e => h1 ((b5 kk hkk).mp e), by rw [b1]; exact h2⟩
  have hse : gP X 390 (lA L 7 u) = (if M.2 12 u = -1 then none else some (lA L 6 (M.2 12 u).toNat)) := by
    by_cases e : M.2 12 u = -1
    · rw [if_pos e]
      rw [if_pos e] at s7
      have y9 := (h.2.2.2.2.2.1 390 u (by decide) (by decide) hu rfl).1
      rw [s7] at y9
      exact y9
    · rw [if_neg e]
      rw [if_neg e] at s7
      exact (h.gp (f := 390) (g := 6) (c := 7) (by decide) hu s7).1
  refine Ct.weak (c_X9_refusalOf hl (h.gk (c := 11) (by decide) h11) (h.gk (c := 7) (by decide) hu) (h.gk (c := 3) (by decide) hc) (h.gk (c := 4) (by decide) hkk) (h.gp (f := 391) (g := 1) (c := 7) (by decide) hu s8).1 (h.li (j := 6 + u) (c := 2) h6 (kLs6 u) rfl) hbi (h.gi (f := 646) (c := 11) (i := 0) (by decide) h11 zT.1) (by omega) hse (h.gi (f := 387) (c := 7) (by decide) hu s4) (h.gi (f := 194) (c := 4) (by decide) hkk d3) (h.gi (f := 388) (c := 7) (by decide) hu s5) (h.gi (f := 195) (c := 4) (by decide) hkk d4) (h.gi (f := 132) (c := 3) (by decide) hc rfl) (by omega) (by omega) (by omega) (by omega) a5) ?_
  rintro v Y ⟨hY, z, hv, hz⟩
  refine ⟨hY, z, hv, ?_⟩
  rw [eo] at hz
  have e12 : ((if M.2 12 u = -1 then none else some (lA L 6 (M.2 12 u).toNat) : Option Nat) ≠ none) ↔ M.2 12 u ≠ -1 := by
    by_cases e : M.2 12 u = -1
    · rw [if_pos e]
      exact ⟨fun y => absurd rfl y, fun y => absurd e y⟩
    · rw [if_neg e]
      exact ⟨fun _ => e, fun _ y => by cases y⟩
  have e12b : ((if M.2 12 u = -1 then none else some (lA L 6 (M.2 12 u).toNat) : Option Nat) = none) ↔ M.2 12 u = -1 := by
    by_cases e : M.2 12 u = -1
    · rw [if_pos e]
      exact ⟨fun _ => e, fun _ => rfl⟩
    · rw [if_neg e]
      exact ⟨fun y => (by cases y), fun y => absurd y e⟩
  rw [e12, e12b] at hz
  have e10 : (M.2 20 kk = 0 ∨ (1 - M.2 10 u = 0 ∧ M.2 21 kk = 0)) ↔ (M.2 20 kk = 0 ∨ (M.2 10 u = 1 ∧ M.2 21 kk = 0)) := by omega
  rw [e10] at hz
  rcases hz with y | ⟨y1, y | ⟨y2, y | ⟨y3, y | ⟨y4, y | y⟩⟩⟩⟩
  · exact Or.inl y
  · exact Or.inr ⟨y1, Or.inl y⟩
  · exact Or.inr ⟨y1, Or.inr ⟨y2, Or.inl y⟩⟩
  · exact Or.inr ⟨y1, Or.inr ⟨y2, Or.inr ⟨y3, Or.inl y⟩⟩⟩
  · exact Or.inr ⟨y1, Or.inr ⟨y2, Or.inr ⟨y3, Or.inr ⟨y4, Or.inl ⟨y.1, a6.mp y.2⟩⟩⟩⟩⟩
  · exact Or.inr ⟨y1, Or.inr ⟨y2, Or.inr ⟨y3, Or.inr ⟨y4, Or.inr ⟨y.1, fun e => by have := a6.mpr e; omega⟩⟩⟩⟩⟩
end RU
