/-! the class's memory as numbers: lists, new cells, rows that grow -/
section CXT
variable {t0 ao mo : Nat} {ad : Nat → Nat} {L : Ly} {X Y : Mm} {Z : Zs} {Mr M2 : Mo}
/-- a list anew -/
theorem CX.lst (h : CX t0 ao mo ad L X Z Mr) {j : Nat} {xs : List Nat} {d c : Nat} (hj : j < yC Z 1) (hL : LI t0 Y (lA L 1 j) (xs.map (lA L (kLs j))) d c) (hxs : ∀ v ∈ xs, v < yC Z (kLs j)) (hF : Fr X Y (fun q => q = lA L 1 j ∨ q = lD L j)) (h24 : gK X (lD L j) = 24 → gK Y (lD L j) = 24 ∧ gN Y (lD L j) = 0) (hd : d = lD L j ∨ gK X d = 0) : CX t0 ao mo ad (lA L, u1 (lD L) j d, u1 (lC L) j c) Y (zsL Z j xs) Mr := by
  have hdk := fun j hj => h.dk (j := j) hj
  obtain ⟨h1, h2, h3, h4, h5, h6, h7, h8, h9, hO⟩ := h
  have hk1 := fun j hj => h3 1 j (by omega) (by omega) hj
  have hn : ∀ q, gK X q ≠ 0 → gK X q ≠ 1 → gK X q ≠ 23 → gK X q ≠ 24 → eqc X Y q := fun q g0 g1 g2 g3 => hF q g0 (fun z => by
    have := hk1 j hj
    have := hdk j hj
    rcases z with rfl | rfl <;> omega)
  have ho : ∀ c i, 2 ≤ c → c ≤ 11 → i < yC Z c → eqc X Y (lA L c i) := fun c i c1 c2 hi => by
    have := h3 c i (by omega) c2 hi
    exact hn _ (by omega) (by omega) (by omega) (by omega)
  have hD0 : ∀ i, i < yC Z 1 → lD L i ≠ lD L j → eqc X Y (lD L i) := fun i hi he => hF _ (by have := hdk i hi; omega) (fun z => by
    rcases z with z | z
    · have := hdk i hi
      have := hk1 j hj
      rw [z] at *
      omega
    · exact he z)
  have h1a : ∀ i, i < yC Z 1 → i ≠ j → eqc X Y (lA L 1 i) := fun i hi he => hF _ (by have := hk1 i hi; omega) (fun z => by
    rcases z with z | z
    · exact he (h4 1 _ _ hi hj z)
    · have := hdk j hj
      have := hk1 i hi
      rw [z] at *
      omega)
  have h0 : ∀ i, i < yC Z 1 → i ≠ j → lD L i = lD L j → gK X (lD L j) = 24 := fun i hi he e => by
    rcases hdk i hi with z | z
    · exact absurd (h8 i j hi hj z e) he
    · rw [← e]
      exact z
  have hT : gK Y t0 = 24 ∧ gN Y t0 = 0 := by
    by_cases e : lD L j = t0
    · rw [← e]
      exact h24 (by rw [e]; exact h2.1)
    · have := hF t0 (by omega) (fun z => by
        rcases z with z | z
        · have := hk1 j hj
          rw [← z] at this
          omega
        · exact e z.symm)
      exact ⟨this.1.trans h2.1, this.2.2.2.1.trans h2.2⟩
  refine ⟨h1.kept (fun a ha => by rcases h1.kind ha with z | z | z <;> exact hn a (by omega) (by omega) (by omega) (by omega)), hT, fun c i c1 c2 hi => ?_, h4, fun f i f1 f2 hi => ((ho _ i (by omega) (by omega) hi).2.1 f).trans (h5 f i f1 f2 hi), fun f i f1 f2 hi hp => ⟨((ho _ i (by omega) (by omega) hi).2.2.1 f).trans (h6 f i f1 f2 hi hp).1, (h6 f i f1 f2 hi hp).2⟩, fun i hi => ?_, fun i k hi hk hg e => ?_, fun k hk => ?_, ?_⟩
  · by_cases e : c = 1
    · subst e
      by_cases e2 : i = j
      · subst e2
        exact hL.1
      · exact (h1a i hi e2).1.trans (hk1 i hi)
    · exact (ho c i (by omega) c2 hi).1.trans (h3 c i c1 c2 hi)
  · by_cases e : i = j
    · subst e
      show LI t0 Y (lA L 1 i) ((u1 (yL Z) i xs i).map _) (u1 (lD L) i d i) (u1 (lC L) i c i) ∧ ∀ v ∈ u1 (yL Z) i xs i, _
      simp only [u1, if_pos]
      exact ⟨hL, hxs⟩
    · show LI t0 Y (lA L 1 i) ((u1 (yL Z) j xs i).map _) (u1 (lD L) j d i) (u1 (lC L) j c i) ∧ ∀ v ∈ u1 (yL Z) j xs i, _
      simp only [u1, if_neg e]
      refine ⟨?_, (h7 i hi).2⟩
      by_cases e2 : lD L i = lD L j
      · have e3 := h0 i hi e e2
        obtain ⟨g1, g2, g3, g4, g5, g6, g7, g8⟩ := (h7 i hi).1
        have ea := h1a i hi e
        have e5 : gK Y (lD L i) = 24 ∧ gN Y (lD L i) = 0 := by rw [e2]; exact h24 e3
        rcases g5 with g5 | g5
        · rw [e2] at g5
          omega
        · refine ⟨ea.1.trans g1, (ea.2.1 2).trans g2, (ea.2.2.1 1).trans g3, by rw [e5.2, g5.2.2], Or.inr ⟨g5.1, e5.1, g5.2.2⟩, g6, g7, fun x v hv => ?_⟩
          have := (List.getElem?_eq_some_iff.mp hv).1
          exact absurd (Nat.lt_of_lt_of_le this g6) (by rw [g5.2.2]; exact Nat.not_lt_zero _)
      · refine (h7 i hi).1.kept (h1a i hi e) (hD0 i hi e2) (fun v hv => ?_)
        obtain ⟨u, hu, rfl⟩ := List.mem_map.mp hv
        have := kLs_in i
        exact ho _ u (by omega) (by omega) ((h7 i hi).2 u hu)
  · have key : ∀ i, i < yC Z 1 → i ≠ j → gK Y (lD L i) = 23 → lD L i ≠ lD L j := fun i hi he hg z => by
      have := h24 (h0 i hi he z)
      rw [z] at hg
      omega
    have key2 : ∀ i, i < yC Z 1 → i ≠ j → gK Y (lD L i) = 23 → d ≠ lD L i := fun i hi he hg z => by
      rcases hd with z2 | z2
      · exact key i hi he hg (z.symm.trans z2)
      · rw [z] at z2
        have := hdk i hi
        omega
    change gK Y (u1 (lD L) j d i) = 23 at hg
    change u1 (lD L) j d i = u1 (lD L) j d k at e
    by_cases e1 : i = j <;> by_cases e2 : k = j
    · exact e1.trans e2.symm
    · simp only [u1, if_pos e1, if_neg e2] at hg e
      exact absurd e (key2 k hk e2 (by rw [← e]; exact hg))
    · simp only [u1, if_pos e2, if_neg e1] at hg e
      exact absurd e.symm (key2 i hi e1 hg)
    · simp only [u1, if_neg e1, if_neg e2] at hg e
      have := key i hi e1 hg
      exact h8 i k hi hk ((hD0 i hi this).1.symm.trans hg) e
  · obtain ⟨g1, g2, g3, g4⟩ := h9 k hk
    have e := hn (lA L 20 k) (by omega) (by omega) (by omega) (by omega)
    exact ⟨e.1.trans g1, e.2.2.2.1.trans g2, fun i => (e.2.2.2.2.1 i).trans (g3 i), g4⟩
  · exact hO
/-- a new object -/
theorem CX.newO (h : CX t0 ao mo ad L X Z Mr) {c a : Nat} (h2 : 3 ≤ c) (h3 : c ≤ 11) (ha : gK X a = 0) : CX t0 ao mo ad (u2 (lA L) c (yC Z c) a, lD L, lC L) (alO X a c) (zNew Z c) Mr := by
  have hdk := fun j hj => h.dk (j := j) hj
  have hq : ∀ q, gK X q ≠ 0 → eqc X (alO X a c) q := fun q hq => eqc_alO (fun e => hq (e ▸ ha))
  have hK := h.kept hq
  have hold : ∀ c i, 1 ≤ c → c ≤ 20 → c ≤ 11 ∨ c = 20 → i < yC Z c → gK X (lA L c i) ≠ 0 := fun c i c1 c2 c3 hi => by
    rcases c3 with c3 | rfl
    · have := h.2.2.1 c i c1 c3 hi
      omega
    · have := (h.2.2.2.2.2.2.2.2.1 i hi).1
      omega
  have hAo : ∀ c1 i, i < yC Z c1 → u2 (lA L) c (yC Z c) a c1 i = lA L c1 i := fun c1 i hi => if_neg (fun z => by
    have := z.2
    rw [z.1] at hi
    omega)
  have hct : ∀ c1 i, i < u1 (yC Z) c (yC Z c + 1) c1 → i < yC Z c1 ∨ (c1 = c ∧ i = yC Z c) := fun c1 i hi => by
    unfold u1 at hi
    split at hi
    · rename_i e
      subst e
      omega
    · exact Or.inl hi
  have hnew : u2 (lA L) c (yC Z c) a c (yC Z c) = a := if_pos ⟨rfl, rfl⟩
  obtain ⟨k1, k2, k3, k4, k5, k6, k7, k8, k9, hO⟩ := hK
  have hp9 : ∀ f (o : Option Nat), (∀ j, o = some j → j < yC Z (tgF f)) → o.map (u2 (lA L) c (yC Z c) a (tgF f)) = o.map (lA L (tgF f)) := fun f o ho => by
    cases o with
    | none => rfl
    | some j => exact congrArg some (hAo _ j (ho j rfl))
  have hup : ∀ c1, yC Z c1 ≤ u1 (yC Z) c (yC Z c + 1) c1 := fun c1 => by
    unfold u1
    split
    · rename_i e
      subst e
      omega
    · exact Nat.le_refl _
  have h1c : u1 (yC Z) c (yC Z c + 1) 1 = yC Z 1 := if_neg (by omega)
  have h20 : u1 (yC Z) c (yC Z c + 1) 20 = yC Z 20 := if_neg (by omega)
  refine ⟨k1, k2, fun c1 i c2 c3 hi => ?_, fun c1 i j hi hj e => ?_, fun f i f1 f2 hi => ?_, fun f i f1 f2 hi fp => ?_, fun j hj => ?_, fun i j hi hj => k8 i j (h1c ▸ hi) (h1c ▸ hj), fun k hk => ?_, (if_neg (by omega)).trans hO⟩
  · rcases hct c1 i hi with z | ⟨rfl, rfl⟩
    · show gK _ (u2 (lA L) c (yC Z c) a c1 i) = c1
      rw [hAo c1 i z]
      exact k3 c1 i c2 c3 z
    · show gK _ (u2 (lA L) c1 (yC Z c1) a c1 (yC Z c1)) = c1
      rw [hnew]
      exact if_pos rfl
  · change u2 (lA L) c (yC Z c) a c1 i = u2 (lA L) c (yC Z c) a c1 j at e
    rcases hct c1 i hi with z | ⟨e1, e2⟩ <;> rcases hct c1 j hj with z2 | ⟨e3, e4⟩
    · rw [hAo c1 i z, hAo c1 j z2] at e
      exact k4 c1 i j z z2 e
    · subst e3
      rw [hAo c1 i z, e4, hnew] at e
      exact absurd (e ▸ ha) (hold c1 i (by omega) (by omega) (Or.inl h3) z)
    · subst e1
      rw [hAo c1 j z2, e2, hnew] at e
      exact absurd (e ▸ ha) (hold c1 j (by omega) (by omega) (Or.inl h3) z2)
    · omega
  · show gI _ f (u2 (lA L) c (yC Z c) a (f / 64 + 1) i) = if f / 64 + 1 = c ∧ i = yC Z c then 0 else yN Z f i
    rcases hct _ i hi with z | ⟨e1, rfl⟩
    · rw [hAo _ i z, if_neg (fun y => by have := y.2; rw [y.1] at z; omega)]
      exact k5 f i f1 f2 z
    · rw [if_pos ⟨e1, rfl⟩, e1, hnew]
      exact if_pos rfl
  · show gP _ f (u2 (lA L) c (yC Z c) a (f / 64 + 1) i) = (if f / 64 + 1 = c ∧ i = yC Z c then none else yT Z f i).map (u2 (lA L) c (yC Z c) a (tgF f)) ∧ ∀ j, (if f / 64 + 1 = c ∧ i = yC Z c then none else yT Z f i) = some j → j < u1 (yC Z) c (yC Z c + 1) (tgF f)
    rcases hct _ i hi with z | ⟨e1, rfl⟩
    · rw [hAo _ i z, if_neg (fun y => by have := y.2; rw [y.1] at z; omega)]
      have := k6 f i f1 f2 z fp
      exact ⟨this.1.trans (hp9 f _ this.2).symm, fun j hj => Nat.lt_of_lt_of_le (this.2 j hj) (hup _)⟩
    · rw [if_pos ⟨e1, rfl⟩, e1, hnew]
      exact ⟨if_pos rfl, fun j hj => by cases hj⟩
  · have hj : j < yC Z 1 := h1c ▸ hj
    obtain ⟨g1, g2⟩ := k7 j hj
    refine ⟨?_, fun v hv => Nat.lt_of_lt_of_le (g2 v hv) (hup _)⟩
    show LI t0 _ (u2 (lA L) c (yC Z c) a 1 j) ((yL Z j).map (u2 (lA L) c (yC Z c) a (kLs j))) (lD L j) (lC L j)
    rw [hAo 1 j hj, List.map_congr_left (fun v hv => hAo (kLs j) v (g2 v hv))]
    exact g1
  · have hk : k < yC Z 20 := h20 ▸ hk
    show gK _ (u2 (lA L) c (yC Z c) a 20 k) = 20 ∧ gN _ (u2 (lA L) c (yC Z c) a 20 k) = yK Z k ∧ (∀ i, gA _ (u2 (lA L) c (yC Z c) a 20 k) i = yR Z k i) ∧ ∀ j, adK j ≠ 0 → u2 (lA L) c (yC Z c) a 20 k ≠ ad j
    rw [hAo 20 k hk]
    exact k9 k hk
/-- a new list -/
theorem CX.newL (h : CX t0 ao mo ad L X Z Mr) {a : Nat} (ha : gK X a = 0) : CX t0 ao mo ad (u2 (lA L) 1 (yC Z 1) a, u1 (lD L) (yC Z 1) t0, u1 (lC L) (yC Z 1) 0) (sP (sI (alO X a 1) 0 a 0) 1 a (some t0)) (zLst Z) Mr := by
  have hdk := fun j hj => h.dk (j := j) hj
  have hne : ∀ q, gK X q ≠ 0 → q ≠ a := fun q hq e => hq (e ▸ ha)
  have hq : ∀ q, gK X q ≠ 0 → eqc X (sP (sI (alO X a 1) 0 a 0) 1 a (some t0)) q := fun q hq => ((eqc_alO (hne q hq)).tr (eqc_sI (hne q hq))).tr (eqc_sP (hne q hq))
  have hK := h.kept hq
  have hold : ∀ c i, 1 ≤ c → c ≤ 11 → i < yC Z c → gK X (lA L c i) ≠ 0 := fun c i c1 c3 hi => by
    have := h.2.2.1 c i c1 c3 hi
    omega
  have hAo : ∀ c1 i, i < yC Z c1 → u2 (lA L) 1 (yC Z 1) a c1 i = lA L c1 i := fun c1 i hi => if_neg (fun z => by
    have := z.2
    rw [z.1] at hi
    omega)
  have hct : ∀ c1 i, i < u1 (yC Z) 1 (yC Z 1 + 1) c1 → i < yC Z c1 ∨ (c1 = 1 ∧ i = yC Z 1) := fun c1 i hi => by
    unfold u1 at hi
    split at hi
    · rename_i e
      subst e
      omega
    · exact Or.inl hi
  have hnew : u2 (lA L) 1 (yC Z 1) a 1 (yC Z 1) = a := if_pos ⟨rfl, rfl⟩
  obtain ⟨k1, k2, k3, k4, k5, k6, k7, k8, k9, hO⟩ := hK
  have hoc : ∀ c1, c1 ≠ 1 → u1 (yC Z) 1 (yC Z 1 + 1) c1 = yC Z c1 := fun c1 hc => if_neg hc
  have hup : ∀ c1, yC Z c1 ≤ u1 (yC Z) 1 (yC Z 1 + 1) c1 := fun c1 => by
    unfold u1
    split
    · rename_i e
      subst e
      omega
    · exact Nat.le_refl _
  have hp9 : ∀ f (o : Option Nat), (∀ j, o = some j → j < yC Z (tgF f)) → o.map (u2 (lA L) 1 (yC Z 1) a (tgF f)) = o.map (lA L (tgF f)) := fun f o ho => by
    cases o with
    | none => rfl
    | some j => exact congrArg some (hAo _ j (ho j rfl))
  have hDo : ∀ j, j < yC Z 1 → u1 (lD L) (yC Z 1) t0 j = lD L j := fun j hj => if_neg (by omega)
  refine ⟨k1, k2, fun c1 i c2 c3 hi => ?_, fun c1 i j hi hj e => ?_, fun f i f1 f2 hi => ?_, fun f i f1 f2 hi fp => ?_, fun j hj => ?_, fun i j hi hj hg e => ?_, fun k hk => ?_, (hoc 2 (by omega)).trans hO⟩
  · rcases hct c1 i hi with z | ⟨rfl, rfl⟩
    · show gK _ (u2 (lA L) 1 (yC Z 1) a c1 i) = c1
      rw [hAo c1 i z]
      exact k3 c1 i c2 c3 z
    · show gK _ (u2 (lA L) 1 (yC Z 1) a 1 (yC Z 1)) = 1
      rw [hnew]
      exact if_pos rfl
  · change u2 (lA L) 1 (yC Z 1) a c1 i = u2 (lA L) 1 (yC Z 1) a c1 j at e
    rcases hct c1 i hi with z | ⟨e1, e2⟩ <;> rcases hct c1 j hj with z2 | ⟨e3, e4⟩
    · rw [hAo c1 i z, hAo c1 j z2] at e
      exact k4 c1 i j z z2 e
    · subst e3
      rw [hAo _ i z, e4, hnew] at e
      exact absurd (e ▸ ha) (hold 1 i (by omega) (by omega) z)
    · subst e1
      rw [hAo _ j z2, e2, hnew] at e
      exact absurd (e ▸ ha) (hold 1 j (by omega) (by omega) z2)
    · omega
  · have hi : i < yC Z (f / 64 + 1) := hoc (f / 64 + 1) (by omega) ▸ hi
    show gI _ f (u2 (lA L) 1 (yC Z 1) a (f / 64 + 1) i) = yN Z f i
    rw [hAo _ i hi]
    exact k5 f i f1 f2 hi
  · have hi : i < yC Z (f / 64 + 1) := hoc (f / 64 + 1) (by omega) ▸ hi
    show gP _ f (u2 (lA L) 1 (yC Z 1) a (f / 64 + 1) i) = (yT Z f i).map (u2 (lA L) 1 (yC Z 1) a (tgF f)) ∧ ∀ j, yT Z f i = some j → j < u1 (yC Z) 1 (yC Z 1 + 1) (tgF f)
    rw [hAo _ i hi]
    have := k6 f i f1 f2 hi fp
    exact ⟨this.1.trans (hp9 f _ this.2).symm, fun j hj => Nat.lt_of_lt_of_le (this.2 j hj) (hup _)⟩
  · show LI t0 _ (u2 (lA L) 1 (yC Z 1) a 1 j) ((u1 (yL Z) (yC Z 1) [] j).map (u2 (lA L) 1 (yC Z 1) a (kLs j))) (u1 (lD L) (yC Z 1) t0 j) (u1 (lC L) (yC Z 1) 0 j) ∧ ∀ v ∈ u1 (yL Z) (yC Z 1) [] j, v < u1 (yC Z) 1 (yC Z 1 + 1) (kLs j)
    rcases hct 1 j hj with z | ⟨-, rfl⟩
    · obtain ⟨g1, g2⟩ := k7 j z
      have e1 : u1 (yL Z) (yC Z 1) [] j = yL Z j := if_neg (by omega)
      have e2 : u1 (lC L) (yC Z 1) 0 j = lC L j := if_neg (by omega)
      rw [hAo 1 j z, hDo j z, e1, e2, List.map_congr_left (fun v hv => hAo (kLs j) v (g2 v hv))]
      exact ⟨g1, fun v hv => Nat.lt_of_lt_of_le (g2 v hv) (hup _)⟩
    · have e1 : u1 (yL Z) (yC Z 1) [] (yC Z 1) = [] := if_pos rfl
      have e2 : u1 (lC L) (yC Z 1) 0 (yC Z 1) = 0 := if_pos rfl
      have e3 : u1 (lD L) (yC Z 1) t0 (yC Z 1) = t0 := if_pos rfl
      rw [hnew, e1, e2, e3]
      refine ⟨⟨if_pos rfl, ?_, if_pos ⟨rfl, rfl⟩, k2.2, Or.inr ⟨rfl, k2.1, rfl⟩, Nat.zero_le _, by omega, fun i v hv => by simp at hv⟩, fun v hv => by cases hv⟩
      show (if 2 = 0 ∧ a = a then (0 : Int) else if a = a then 0 else gI X 2 a) = _
      rw [if_neg (fun z => by have := z.1; omega), if_pos rfl]
      rfl
  · have key : ∀ j, j < yC Z 1 + 1 → gK (sP (sI (alO X a 1) 0 a 0) 1 a (some t0)) (u1 (lD L) (yC Z 1) t0 j) = 23 → j < yC Z 1 := fun j hj hg => by
      rcases Nat.lt_succ_iff_lt_or_eq.mp hj with z | rfl
      · exact z
      · have e3 : u1 (lD L) (yC Z 1) t0 (yC Z 1) = t0 := if_pos rfl
        rw [e3] at hg
        have := k2.1
        omega
    change u1 (lD L) (yC Z 1) t0 i = u1 (lD L) (yC Z 1) t0 j at e
    have hc1 : u1 (yC Z) 1 (yC Z 1 + 1) 1 = yC Z 1 + 1 := if_pos rfl
    have hi : i < yC Z 1 + 1 := hc1 ▸ hi
    have hj : j < yC Z 1 + 1 := hc1 ▸ hj
    have i1 := key i hi hg
    have j1 := key j hj (by rw [← e]; exact hg)
    change gK _ (u1 (lD L) (yC Z 1) t0 i) = 23 at hg
    rw [hDo i i1] at e hg
    rw [hDo j j1] at e
    exact k8 i j i1 j1 hg e
  · have hk : k < yC Z 20 := hoc 20 (by omega) ▸ hk
    show gK _ (u2 (lA L) 1 (yC Z 1) a 20 k) = 20 ∧ gN _ (u2 (lA L) 1 (yC Z 1) a 20 k) = yK Z k ∧ (∀ i, gA _ (u2 (lA L) 1 (yC Z 1) a 20 k) i = yR Z k i) ∧ ∀ j, adK j ≠ 0 → u2 (lA L) 1 (yC Z 1) a 20 k ≠ ad j
    rw [hAo 20 k hk]
    exact k9 k hk
/-- a new row -/
theorem CX.newR (h : CX t0 ao mo ad L X Z Mr) {a n : Nat} (ha : gK X a = 0) : CX t0 ao mo ad (u2 (lA L) 20 (yC Z 20) a, lD L, lC L) (alA X a 20 n) (zRow Z n) Mr := by
  have hne : ∀ q, gK X q ≠ 0 → q ≠ a := fun q hq e => hq (e ▸ ha)
  have hK := h.kept (fun q hq => eqc_alA (t := 20) (n := n) (hne q hq))
  have hAo : ∀ c1 i, i < yC Z c1 → u2 (lA L) 20 (yC Z 20) a c1 i = lA L c1 i := fun c1 i hi => if_neg (fun z => by
    have := z.2
    rw [z.1] at hi
    omega)
  have hct : ∀ c1 i, i < u1 (yC Z) 20 (yC Z 20 + 1) c1 → i < yC Z c1 ∨ (c1 = 20 ∧ i = yC Z 20) := fun c1 i hi => by
    unfold u1 at hi
    split at hi
    · rename_i e
      subst e
      omega
    · exact Or.inl hi
  have hnew : u2 (lA L) 20 (yC Z 20) a 20 (yC Z 20) = a := if_pos ⟨rfl, rfl⟩
  have hoc : ∀ c1, c1 ≠ 20 → u1 (yC Z) 20 (yC Z 20 + 1) c1 = yC Z c1 := fun c1 hc => if_neg hc
  have hup : ∀ c1, yC Z c1 ≤ u1 (yC Z) 20 (yC Z 20 + 1) c1 := fun c1 => by
    unfold u1
    split
    · rename_i e
      subst e
      omega
    · exact Nat.le_refl _
  have hp9 : ∀ f (o : Option Nat), (∀ j, o = some j → j < yC Z (tgF f)) → o.map (u2 (lA L) 20 (yC Z 20) a (tgF f)) = o.map (lA L (tgF f)) := fun f o ho => by
    cases o with
    | none => rfl
    | some j => exact congrArg some (hAo _ j (ho j rfl))
  have h20k := h.2.2.2.2.2.2.2.2.1
  obtain ⟨k1, k2, k3, k4, k5, k6, k7, k8, k9, hO⟩ := hK
  refine ⟨k1, k2, fun c1 i c2 c3 hi => ?_, fun c1 i j hi hj e => ?_, fun f i f1 f2 hi => ?_, fun f i f1 f2 hi fp => ?_, fun j hj => ?_, fun i j hi hj => k8 i j (hoc 1 (by omega) ▸ hi) (hoc 1 (by omega) ▸ hj), fun k hk => ?_, (hoc 2 (by omega)).trans hO⟩
  · have hi : i < yC Z c1 := hoc c1 (by omega) ▸ hi
    show gK _ (u2 (lA L) 20 (yC Z 20) a c1 i) = c1
    rw [hAo c1 i hi]
    exact k3 c1 i c2 c3 hi
  · change u2 (lA L) 20 (yC Z 20) a c1 i = u2 (lA L) 20 (yC Z 20) a c1 j at e
    rcases hct c1 i hi with z | ⟨e1, e2⟩ <;> rcases hct c1 j hj with z2 | ⟨e3, e4⟩
    · rw [hAo c1 i z, hAo c1 j z2] at e
      exact k4 c1 i j z z2 e
    · subst e3
      rw [hAo _ i z, e4, hnew] at e
      have := (h20k i z).1
      rw [e] at this
      omega
    · subst e1
      rw [hAo _ j z2, e2, hnew] at e
      have := (h20k j z2).1
      rw [← e] at this
      omega
    · omega
  · have hi : i < yC Z (f / 64 + 1) := hoc (f / 64 + 1) (by omega) ▸ hi
    show gI _ f (u2 (lA L) 20 (yC Z 20) a (f / 64 + 1) i) = yN Z f i
    rw [hAo _ i hi]
    exact k5 f i f1 f2 hi
  · have hi : i < yC Z (f / 64 + 1) := hoc (f / 64 + 1) (by omega) ▸ hi
    show gP _ f (u2 (lA L) 20 (yC Z 20) a (f / 64 + 1) i) = (yT Z f i).map (u2 (lA L) 20 (yC Z 20) a (tgF f)) ∧ ∀ j, yT Z f i = some j → j < u1 (yC Z) 20 (yC Z 20 + 1) (tgF f)
    rw [hAo _ i hi]
    have := k6 f i f1 f2 hi fp
    exact ⟨this.1.trans (hp9 f _ this.2).symm, fun j hj => Nat.lt_of_lt_of_le (this.2 j hj) (hup _)⟩
  · have hj : j < yC Z 1 := hoc 1 (by omega) ▸ hj
    obtain ⟨g1, g2⟩ := k7 j hj
    refine ⟨?_, fun v hv => Nat.lt_of_lt_of_le (g2 v hv) (hup _)⟩
    show LI t0 _ (u2 (lA L) 20 (yC Z 20) a 1 j) ((yL Z j).map (u2 (lA L) 20 (yC Z 20) a (kLs j))) (lD L j) (lC L j)
    rw [hAo 1 j hj, List.map_congr_left (fun v hv => hAo (kLs j) v (g2 v hv))]
    exact g1
  · show gK _ (u2 (lA L) 20 (yC Z 20) a 20 k) = 20 ∧ gN _ (u2 (lA L) 20 (yC Z 20) a 20 k) = u1 (yK Z) (yC Z 20) n k ∧ (∀ i, gA _ (u2 (lA L) 20 (yC Z 20) a 20 k) i = u1 (yR Z) (yC Z 20) (fun _ => 0) k i) ∧ ∀ j, adK j ≠ 0 → u2 (lA L) 20 (yC Z 20) a 20 k ≠ ad j
    rcases hct 20 k hk with z | ⟨-, rfl⟩
    · have e1 : u1 (yK Z) (yC Z 20) n k = yK Z k := if_neg (by omega)
      have e2 : u1 (yR Z) (yC Z 20) (fun _ => 0) k = yR Z k := if_neg (by omega)
      rw [hAo 20 k z, e1, e2]
      exact k9 k z
    · have e1 : u1 (yK Z) (yC Z 20) n (yC Z 20) = n := if_pos rfl
      have e2 : u1 (yR Z) (yC Z 20) (fun _ => 0) (yC Z 20) = fun _ => 0 := if_pos rfl
      rw [hnew, e1, e2]
      refine ⟨if_pos rfl, if_pos rfl, fun i => if_pos rfl, fun j hj e => ?_⟩
      have := h.1.kind (⟨j, hj, rfl⟩ : inR mo ad (ad j))
      rw [← e] at this
      omega
/-- a row that grows -/
theorem CX.grow (h : CX t0 ao mo ad L X Z Mr) {a v k n w : Nat} {r : Nat → Int} (ha : gK X a = 0) (hk : k < yC Z 20) (hv : v < yC Z 10) (hw : w = lA L 10 v) (h1 : ∀ u, u < yC Z 10 → (yT Z 577 u = some k ↔ u = v)) : CX t0 ao mo ad (u2 (lA L) 20 k a, lD L, lC L) (sP (sAr (alA X a 20 n) a r) 577 w (some a)) (zGrw Z k n r) Mr := by
  subst hw
  have hne : ∀ q, gK X q ≠ 0 → q ≠ a := fun q hq e => hq (e ▸ ha)
  have h20k := h.2.2.2.2.2.2.2.2.1
  have hdk := fun j hj => h.dk (j := j) hj
  obtain ⟨k1, k2, k3, k4, k5, k6, k7, k8, k9, hO⟩ := h
  have hkv := k3 10 v (by omega) (by omega) hv
  have hq : ∀ q, gK X q ≠ 0 → q ≠ lA L 10 v → eqc X (sP (sAr (alA X a 20 n) a r) 577 (lA L 10 v) (some a)) q := fun q hq hv => by
    have m1 : eqc (alA X a 20 n) (sAr (alA X a 20 n) a r) q := ⟨rfl, fun _ => rfl, fun _ => rfl, rfl, fun i => (by show (if q = a then r else gA (alA X a 20 n) q) i = _; rw [if_neg (hne q hq)]), fun _ => rfl⟩
    exact ((eqc_alA (t := 20) (n := n) (hne q hq)).tr m1).tr (eqc_sP hv)
  have ho : ∀ c i, 1 ≤ c → c ≤ 11 → c ≠ 10 → i < yC Z c → eqc X (sP (sAr (alA X a 20 n) a r) 577 (lA L 10 v) (some a)) (lA L c i) := fun c i c1 c2 c3 hi => by
    have := k3 c i c1 c2 hi
    refine hq _ (by omega) (fun e => ?_)
    rw [e] at this
    omega
  have hAo : ∀ c1 i, c1 ≠ 20 → u2 (lA L) 20 k a c1 i = lA L c1 i := fun c1 i hi => if_neg (fun z => hi z.1)
  have hKK : ∀ q, gK X q ≠ 0 → gK (sP (sAr (alA X a 20 n) a r) 577 (lA L 10 v) (some a)) q = gK X q := fun q hq => if_neg (hne q hq)
  refine ⟨k1.kept (fun q hq2 => hq q (by rcases k1.kind hq2 with z | z | z <;> omega) (fun e => by subst e; rcases k1.kind hq2 with z | z | z <;> omega)), ⟨(hKK t0 (by omega)).trans k2.1, ?_⟩, fun c1 i c2 c3 hi => ?_, fun c1 i j hi hj e => ?_, fun f i f1 f2 hi => ?_, fun f i f1 f2 hi fp => ?_, fun j hj => ?_, fun i j hi hj hg => k8 i j hi hj ((hKK _ (by rcases hdk i hi with z | z <;> omega)).symm.trans hg), fun k3' hk3 => ?_, hO⟩
  · exact (if_neg (hne t0 (by omega))).trans k2.2
  · show gK _ (u2 (lA L) 20 k a c1 i) = c1
    rw [hAo c1 i (by omega)]
    have := k3 c1 i c2 c3 hi
    exact (hKK _ (by omega)).trans this
  · change u2 (lA L) 20 k a c1 i = u2 (lA L) 20 k a c1 j at e
    by_cases ec : c1 = 20
    · subst ec
      by_cases e1 : i = k <;> by_cases e2 : j = k
      · exact e1.trans e2.symm
      · simp only [u2, e1, e2, and_self, and_false, if_true, if_false] at e
        have := (h20k j hj).1
        rw [← e] at this
        omega
      · simp only [u2, e1, e2, and_self, and_false, if_true, if_false] at e
        have := (h20k i hi).1
        rw [e] at this
        omega
      · simp only [u2, e1, e2, and_false, if_false] at e
        exact k4 20 i j hi hj e
    · rw [hAo c1 i ec, hAo c1 j ec] at e
      exact k4 c1 i j hi hj e
  · show gI _ f (u2 (lA L) 20 k a (f / 64 + 1) i) = yN Z f i
    rw [hAo _ i (by omega)]
    refine Eq.trans ?_ (k5 f i f1 f2 hi)
    rfl
  · show gP _ f (u2 (lA L) 20 k a (f / 64 + 1) i) = (yT Z f i).map (u2 (lA L) 20 k a (tgF f)) ∧ ∀ j, yT Z f i = some j → j < yC Z (tgF f)
    rw [hAo _ i (by omega)]
    have hp := k6 f i f1 f2 hi fp
    refine ⟨?_, hp.2⟩
    show (if f = 577 ∧ lA L (f / 64 + 1) i = lA L 10 v then some a else gP X f (lA L (f / 64 + 1) i)) = _
    by_cases e : f = 577
    · subst e
      by_cases e2 : i = v
      · subst e2
        rw [if_pos ⟨rfl, rfl⟩, (h1 i hv).mpr rfl]
        exact (congrArg some (if_pos ⟨rfl, rfl⟩)).symm
      · rw [if_neg (fun z => e2 (k4 10 _ _ hi hv z.2)), hp.1]
        have e3 : yT Z 577 i ≠ some k := fun z => e2 ((h1 i hi).mp z)
        cases e4 : yT Z 577 i with
        | none => rfl
        | some u => exact congrArg some (if_neg (fun z => e3 (by rw [e4, z.2]))).symm
    · rw [if_neg (fun z => e z.1), hp.1]
      have ht : tgF f ≠ 20 := by
        unfold tgF
        repeat' split
        all_goals omega
      cases yT Z f i with
      | none => rfl
      | some u => exact congrArg some (hAo _ u ht).symm
  · obtain ⟨g1, g2⟩ := k7 j hj
    have hki := kLs_in j
    refine ⟨?_, g2⟩
    show LI t0 _ (u2 (lA L) 20 k a 1 j) ((yL Z j).map (u2 (lA L) 20 k a (kLs j))) (lD L j) (lC L j)
    rw [hAo 1 j (by omega), List.map_congr_left (fun v hv => hAo (kLs j) v (by omega))]
    have hd := hdk j hj
    refine g1.kept (ho 1 j (by omega) (by omega) (by omega) hj) (hq _ (by omega) (fun e => by rw [e] at hd; omega)) (fun u hu => ?_)
    obtain ⟨x, hx, rfl⟩ := List.mem_map.mp hu
    exact ho _ x (by omega) (by omega) (by omega) (g2 x hx)
  · show gK _ (u2 (lA L) 20 k a 20 k3') = 20 ∧ gN _ (u2 (lA L) 20 k a 20 k3') = u1 (yK Z) k n k3' ∧ (∀ i, gA _ (u2 (lA L) 20 k a 20 k3') i = u1 (yR Z) k r k3' i) ∧ ∀ j, adK j ≠ 0 → u2 (lA L) 20 k a 20 k3' ≠ ad j
    by_cases e : k3' = k
    · subst e
      have e1 : u2 (lA L) 20 k3' a 20 k3' = a := if_pos ⟨rfl, rfl⟩
      have e2 : u1 (yK Z) k3' n k3' = n := if_pos rfl
      have e3 : u1 (yR Z) k3' r k3' = r := if_pos rfl
      rw [e1, e2, e3]
      refine ⟨if_pos rfl, if_pos rfl, fun i => congrFun (if_pos rfl) i, fun j hj e => ?_⟩
      have := k1.kind (⟨j, hj, rfl⟩ : inR mo ad (ad j))
      rw [← e] at this
      omega
    · have e1 : u2 (lA L) 20 k a 20 k3' = lA L 20 k3' := if_neg (fun z => e z.2)
      have e2 : u1 (yK Z) k n k3' = yK Z k3' := if_neg e
      have e3 : u1 (yR Z) k r k3' = yR Z k3' := if_neg e
      obtain ⟨g1, g2, g3, g4⟩ := k9 k3' hk3
      rw [e1, e2, e3]
      have eq := hq (lA L 20 k3') (by omega) (fun z => by rw [z] at g1; omega)
      exact ⟨eq.1.trans g1, eq.2.2.2.1.trans g2, fun i => (eq.2.2.2.2.1 i).trans (g3 i), g4⟩
/-- no bookings here -/
theorem CX.nob (h : CX t0 ao mo ad L X Z Mr) {u : Nat} (h6 : 6 + u < yC Z 1) : yL Z (6 + u) = [] := by
  have h0 : yC Z 2 = 0 := h.2.2.2.2.2.2.2.2.2
  refine List.eq_nil_iff_forall_not_mem.mpr (fun q hq => ?_)
  have h1 := (h.2.2.2.2.2.2.1 (6 + u) h6).2 q hq
  have h2 : kLs (6 + u) = 2 := by
    unfold kLs
    rw [if_neg (by omega), if_neg (by omega), if_neg (by omega), if_neg (by omega), if_neg (by omega), if_neg (by omega)]
  rw [h2] at h1
  omega
end CXT
