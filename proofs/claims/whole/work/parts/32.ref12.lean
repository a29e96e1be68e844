/-! the reference: booking, plugging in, passing -/
section VR2
variable {p : Program} {l : Launch} {e : Env} {R : Room} {s : State} {m : MethodId} {args : Array Value} {below : List Frame} {meth : Method} {c : Code}
variable {D : va_G} {kA : Nat → ClassId} {b t0 nL cells slots : Nat} {Q : State → Prop} {own nm : String} {cc : ByteArray} {X : Mm} {pc pc' tgt : Nat} {lv : List (Option Value)} {st : List Value}
variable {mo : Nat} {ad : Nat → Nat} {X0 : Mm} {M : Mo}
theorem R_joinM (C : Cx p l s m args meth c D kA b t0 nL own nm cc) {P : Mo → Prop} {pcm : Nat} (k1 : (∀ M1 : Mo, P M1 → VR p l e R s m args below meth c D kA b nL (cells) (slots) (Q) mo ad X0 M1 (pcm) (lv) (st)) → VR p l e R s m args below meth c D kA b nL (cells) (slots) (Q) mo ad X0 M (pc) (lv) (st)) (k2 : ∀ M1 : Mo, P M1 → VR p l e R s m args below meth c D kA b nL (cells) (slots) (Q) mo ad X0 M1 (pcm) (lv) (st)) : VR p l e R s m args below meth c D kA b nL (cells) (slots) (Q) mo ad X0 M (pc) (lv) (st) := k1 k2
end VR2
/-- what a booking's numbers are -/
def okBx (M : Mo) : Prop := (∀ u, u < 8 → 0 ≤ M.2 26 u ∧ M.2 26 u ≤ 512) ∧ ∀ u i : Nat, (u : Int) < M.1 6 → (i : Int) < M.2 26 u → (0 ≤ M.2 27 (1500 * u + i) ∧ M.2 27 (1500 * u + i) < M.1 17) ∧ (0 ≤ M.2 28 (1500 * u + i) ∧ M.2 28 (1500 * u + i) ≤ 20000) ∧ (0 ≤ M.2 29 (1500 * u + i) ∧ M.2 29 (1500 * u + i) ≤ 20600)
theorem canM_step (M : Mo) (s c : Nat) (f mi : Int) (k : Nat) : canM M s c f mi (k + 1) ↔ canM M s c f mi k ∧ (M.2 29 (1500 * s + k) ≤ f ∨ f + mi ≤ M.2 28 (1500 * s + k)) := by
  refine ⟨fun h => ⟨⟨h.1, fun i hi => h.2 i (Nat.lt_succ_of_lt hi)⟩, h.2 k (Nat.lt_succ_self k)⟩, fun h => ⟨h.1.1, fun i hi => ?_⟩⟩
  rcases Nat.lt_succ_iff_lt_or_eq.mp hi with e | rfl
  · exact h.1.2 i e
  · exact h.2
/-- the tariff goes to the session -/
def cpT (M : Mo) (s n : Nat) : Nat → Mo → Mo
  | 0, X => X
  | j + 1, X => setA (cpT M s n j X) 24 (4 * n + j) (M.2 23 (4 * (M.2 7 s).toNat + j))
theorem cpT_st (M : Mo) (s n : Nat) (X : Mo) (j : Nat) : (cpT M s n j X).1 = X.1 ∧ ∀ q, q ≠ 24 → (cpT M s n j X).2 q = X.2 q := by
  induction j with
  | zero => exact ⟨rfl, fun _ _ => rfl⟩
  | succ j ih =>
    refine ⟨ih.1, fun q hq => ?_⟩
    rw [← ih.2 q hq]
    funext x
    exact if_neg hq
def sesM (M1 : Mo) (n s c k : Nat) : Mo := setA (setA (setA (setA (setA M1 31 n s) 32 n c) 33 n k) 34 n 1) 45 n 1400
def newM (M M1 : Mo) (n s c k : Nat) : Mo := setS (setA (cpT M s n 4 (sesM M1 n s c k)) 12 s (M.1 30)) 30 (M.1 30 + 1)
def goB (M : Mo) (s h : Nat) : Mo := bkM (setS M 0 0) (goC (M.2 26) s) (goA (M.2 26) (M.2 27) s h) (goA (M.2 26) (M.2 28) s h) (goA (M.2 26) (M.2 29) s h)
def bkdM (M : Mo) (s : Nat) (h : Int) : Mo := if h = -1 then setS M 0 0 else goB M s h.toNat
def pluP (M : Mo) (n : Nat) (z c k : Int) (M2 : Mo) (r : Int) : Prop :=
  (¬ ((0 ≤ z ∧ z < M.1 6) ∧ (0 ≤ c ∧ c < M.1 13) ∧ (0 ≤ k ∧ k < M.1 17)) ∧ M2 = stp M 1 ∧ r = 0) ∨
  (((0 ≤ z ∧ z < M.1 6) ∧ (0 ≤ c ∧ c < M.1 13) ∧ (0 ≤ k ∧ k < M.1 17)) ∧ (
    (M.1 30 = 40 ∧ M2 = stp M 2 ∧ r = 0) ∨
    (M.1 30 < 40 ∧ M2 = setS M 0 0 ∧ M.2 9 z.toNat = 1 ∧ r = -1) ∨
    (M.1 30 < 40 ∧ M2 = setS M 0 0 ∧ M.2 9 z.toNat = 0 ∧ M.2 12 z.toNat ≠ -1 ∧ r = -2) ∨
    (M.1 30 < 40 ∧ M2 = setS M 0 0 ∧ M.2 9 z.toNat = 0 ∧ M.2 12 z.toNat = -1 ∧ (M.2 20 k.toNat = 0 ∨ (M.2 10 z.toNat = 1 ∧ M.2 21 k.toNat = 0)) ∧ r = -3) ∨
    (M.1 30 < 40 ∧ M.2 9 z.toNat = 0 ∧ M.2 12 z.toNat = -1 ∧ ¬ (M.2 20 k.toNat = 0 ∨ (M.2 10 z.toNat = 1 ∧ M.2 21 k.toNat = 0)) ∧ ∃ h, hldM M z.toNat h ∧ (
      (M2 = setS M 0 0 ∧ h ≠ -1 ∧ M.2 27 (1500 * z.toNat + h.toNat) ≠ k ∧ r = -4) ∨
      (M2 = setS M 0 0 ∧ ¬ (h ≠ -1 ∧ M.2 27 (1500 * z.toNat + h.toNat) ≠ k) ∧ awyM M n c ∧ r = -5) ∨
      (¬ (h ≠ -1 ∧ M.2 27 (1500 * z.toNat + h.toNat) ≠ k) ∧ ¬ awyM M n c ∧ M2 = newM M (bkdM M z.toNat h) n z.toNat c.toNat k.toNat ∧ r = M.1 30 + 1 - 1)))))
/-- what passing does -/
def pasP (M : Mo) (n : Nat) (z : Int) (M2 : Mo) (r : Int) : Prop :=
  (¬ (1 ≤ z ∧ z ≤ 120) ∧ M2 = stp M 1 ∧ r = 0) ∨ ((1 ≤ z ∧ z ≤ 120) ∧ 20000 < M.1 1 + z ∧ M2 = stp M 2 ∧ r = 0) ∨ ((1 ≤ z ∧ z ≤ 120) ∧ M.1 1 + z ≤ 20000 ∧ passN n z.toNat (setS M 0 0) M2 ∧ r = M2.1 1)
section REF12
variable {l : Launch} {D : va_G} {kA : Nat → ClassId} {b t0 mo : Nat} {ad : Nat → Nat} {M : Mo}

set_option maxRecDepth 20000 in
theorem c_X10_book (hl : l.stackTraces = false) {z q f g : Int} (hz : rng z) (hq : rng q) (hf : rng f) (hg : rng g) (hO : OkM M) (hB : okBx M) : Cr l D kA b t0 mo ad yX10_book cX10_book 7 (some FieldType.int) 2 43 [rv (some mo), iv z, iv q, iv f, iv g] M (fun v M2 => ∃ r, v = some (iv r) ∧ booP M z q f g M2 r) := by
  refine Cr_mk hl (by decide) (Nat.le_of_ble_eq_true rfl) rfl ?_
  intro X0 p e s m args below meth c C hr
  have h0 := hO.1
  unfold okSc at h0
  refine R_aload_n C dX10_book_0 rfl ?_
  refine R_iconst C dX10_book_1 ?_
  refine R_putS C cl11 fX10_138 rfl (by decide) rfl dX10_book_2 ?_
  refine R_aload_n C dX10_book_5 rfl ?_
  refine R_iload_n C dX10_book_6 rfl ?_
  refine R_callVz C (As := [_]) (Cd := 0 ≤ z ∧ z < M.1 6) (c_X10_isSocket hl (M := setS M 0 0) hz (show 0 ≤ M.1 6 ∧ M.1 6 ≤ 40 by omega)) kX10_178 rfl rfl (Nat.le_of_ble_eq_true rfl) ⟨by decide, by decide⟩ ⟨Nat.le_refl _, Nat.le_refl _⟩ dX10_book_7 (fun z7 hz7 => ?_)
  refine R_if_eq C dX10_book_10 (by omega) (fun h10 => ?_) (fun h10 => ?_)
  · refine R_aload_n C dX10_book_21 rfl ?_
    refine R_iconst C dX10_book_22 ?_
    refine R_callVi C (As := [_]) (c_X10_stop hl) kX10_158 rfl rfl (Nat.le_of_ble_eq_true rfl) ⟨by decide, by decide⟩ ⟨Nat.le_refl _, Nat.le_refl _⟩ dX10_book_23 ?_
    exact R_iret C ⟨0, rfl, Or.inl ⟨by omega, rfl, rfl⟩⟩ hr dX10_book_26
  · refine R_aload_n C dX10_book_13 rfl ?_
    refine R_iload_n C dX10_book_14 rfl ?_
    refine R_callVz C (As := [_]) (Cd := 0 ≤ q ∧ q < M.1 17) (c_X10_isCard hl (M := setS M 0 0) hq (show 0 ≤ M.1 17 ∧ M.1 17 ≤ 40 by omega)) kX10_167 rfl rfl (Nat.le_of_ble_eq_true rfl) ⟨by decide, by decide⟩ ⟨Nat.le_refl _, Nat.le_refl _⟩ dX10_book_15 (fun z15 hz15 => ?_)
    refine R_if_ne C dX10_book_18 (by omega) (fun h18 => ?_) (fun h18 => ?_)
    · refine R_iload_n C dX10_book_27 rfl ?_
      refine R_aload_n C dX10_book_28 rfl ?_
      refine R_getS C cl11 fX10_188 (x := M.1 1) rfl (by decide) dX10_book_29 ?_
      refine R_sipush C dX10_book_32 (by decide) ?_
      refine R_callSz C (As := [_, _, _]) (c_X10_in hl (a := M.1 1) (c := 20000) hf (by omega) (by omega)) kX10_141 rfl rfl (Nat.le_of_ble_eq_true rfl) ⟨by decide, by decide⟩ ⟨Nat.le_refl _, Nat.le_refl _⟩ dX10_book_35 (fun z35 hz35 => ?_)
      refine R_if_eq C dX10_book_38 (by omega) (fun h38 => ?_) (fun h38 => ?_)
      · refine R_aload_n C dX10_book_54 rfl ?_
        refine R_iconst C dX10_book_55 ?_
        refine R_callVi C (As := [_]) (c_X10_stop hl) kX10_158 rfl rfl (Nat.le_of_ble_eq_true rfl) ⟨by decide, by decide⟩ ⟨Nat.le_refl _, Nat.le_refl _⟩ dX10_book_56 ?_
        exact R_iret C ⟨0, rfl, Or.inr (Or.inl ⟨by omega, by omega, rfl, rfl⟩)⟩ hr dX10_book_59
      · refine R_iload C dX10_book_41 rfl ?_
        refine R_bipush C dX10_book_43 (by decide) ?_
        refine R_sipush C dX10_book_45 (by decide) ?_
        refine R_callSz C (As := [_, _, _]) (c_X10_in hl (a := 15) (c := 600) hg (by omega) (by omega)) kX10_141 rfl rfl (Nat.le_of_ble_eq_true rfl) ⟨by decide, by decide⟩ ⟨Nat.le_refl _, Nat.le_refl _⟩ dX10_book_48 (fun z48 hz48 => ?_)
        refine R_if_ne C dX10_book_51 (by omega) (fun h51 => ?_) (fun h51 => ?_)
        · refine R_aload_n C dX10_book_60 rfl ?_
          have h9' := hO.2.2.2.1 q.toNat (by omega)
          unfold okCd at h9'
          refine R_getA C cl11 fX10_51 (by decide) dX10_book_61 ?_
          refine R_iload_n C dX10_book_64 rfl ?_
          refine R_zald C (j := q.toNat) (kf := 20) rfl (show q.toNat < 12 by omega) (by omega) (x := M.2 20 (q.toNat)) rfl dX10_book_65 ?_
          refine R_istore C dX10_book_66 (by decide) rfl ?_
          refine R_sipush C dX10_book_68 (by decide) ?_
          refine R_iload_n C dX10_book_71 rfl ?_
          refine R_imul C dX10_book_72 ?_
          refine R_istore C dX10_book_73 (by decide) rfl ?_
          obtain ⟨s, rfl⟩ : ∃ s : Nat, z = (s : Int) := ⟨z.toNat, by omega⟩
          have hc8 := hB.1 s (by omega)
          have h9 := hO.2.2.2.1 q.toNat (by omega)
          unfold okCd at h9
          refine R_while C (St := Nat × Int) (f := fun _ => setS M 0 0) (g := fun x => [some (rv (some mo)), some (iv (s : Int)), some (iv q), some (iv f), some (iv g), some (iv x.2), some (iv (x.1 : Int))]) (μ := fun x => 12000 - x.1) (I := fun x => ∃ k, x.1 = 1500 * s + k ∧ (k : Int) ≤ M.2 26 s ∧ ((x.2 = 1 ∧ canM M s q.toNat f g k) ∨ (x.2 = 0 ∧ ¬ canM M s q.toNat f g k))) (x0 := (1500 * s, M.2 20 q.toNat)) rfl rfl ⟨0, rfl, by omega, ?_⟩ ?_
          · show (M.2 20 q.toNat = 1 ∧ _) ∨ (M.2 20 q.toNat = 0 ∧ _)
            rcases (by omega : M.2 20 q.toNat = 1 ∨ M.2 20 q.toNat = 0) with e | e
            · exact Or.inl ⟨e, e, fun i hi => absurd hi (Nat.not_lt_zero i)⟩
            · exact Or.inr ⟨e, fun h => by have := h.1; omega⟩
          rintro ⟨_, y⟩ ⟨k, rfl, hk, hy⟩ ih
          dsimp only at hk hy ih ⊢
          refine R_iload C dX10_book_75 rfl ?_
          refine R_sipush C dX10_book_77 (by decide) ?_
          refine R_iload_n C dX10_book_80 rfl ?_
          refine R_imul C dX10_book_81 ?_
          refine R_aload_n C dX10_book_82 rfl ?_
          refine R_getA C cl11 fX10_69 (by decide) dX10_book_83 ?_
          refine R_iload_n C dX10_book_86 rfl ?_
          refine R_iald C (j := s) (kf := 26) rfl (show s < 8 by omega) rfl (x := M.2 26 s) rfl dX10_book_87 ?_
          refine R_iadd C dX10_book_88 ?_
          refine R_icmp_ge C dX10_book_89 (by omega) (by omega) (fun h89 => ?_) (fun h89 => ?_)
          · have ek : k = (M.2 26 s).toNat := by omega
            subst ek
            refine R_iload C dX10_book_135 rfl ?_
            refine R_if_ne C dX10_book_137 (by omega) (fun h137 => ?_) (fun h137 => ?_)
            · refine R_sipush C dX10_book_146 (by decide) ?_
              refine R_iload_n C dX10_book_149 rfl ?_
              refine R_imul C dX10_book_150 ?_
              refine R_aload_n C dX10_book_151 rfl ?_
              refine R_getA C cl11 fX10_69 (by decide) dX10_book_152 ?_
              refine R_iload_n C dX10_book_155 rfl ?_
              refine R_iald C (j := s) (kf := 26) rfl (show s < 8 by omega) rfl (x := M.2 26 s) rfl dX10_book_156 ?_
              refine R_iadd C dX10_book_157 ?_
              refine R_istore C dX10_book_158 (by decide) rfl ?_
              refine R_aload_n C dX10_book_160 rfl ?_
              refine R_getA C cl11 fX10_72 (by decide) dX10_book_161 ?_
              refine R_iload C dX10_book_164 rfl ?_
              refine R_iload_n C dX10_book_166 rfl ?_
              refine R_iast C (j := ((1500 * s) + (M.2 26 s).toNat)) (kf := 27) rfl (show ((1500 * s) + (M.2 26 s).toNat) < 12000 by omega) (by omega) dX10_book_167 ?_
              refine R_aload_n C dX10_book_168 rfl ?_
              refine R_getA C cl11 fX10_75 (by decide) dX10_book_169 ?_
              refine R_iload C dX10_book_172 rfl ?_
              refine R_iload_n C dX10_book_174 rfl ?_
              refine R_iast C (j := ((1500 * s) + (M.2 26 s).toNat)) (kf := 28) rfl (show ((1500 * s) + (M.2 26 s).toNat) < 12000 by omega) (by omega) dX10_book_175 ?_
              refine R_aload_n C dX10_book_176 rfl ?_
              refine R_getA C cl11 fX10_78 (by decide) dX10_book_177 ?_
              refine R_iload C dX10_book_180 rfl ?_
              refine R_iload_n C dX10_book_182 rfl ?_
              refine R_iload C dX10_book_183 rfl ?_
              refine R_iadd C dX10_book_185 ?_
              refine R_iast C (j := ((1500 * s) + (M.2 26 s).toNat)) (kf := 29) rfl (show ((1500 * s) + (M.2 26 s).toNat) < 12000 by omega) (by omega) dX10_book_186 ?_
              refine R_aload_n C dX10_book_187 rfl ?_
              refine R_getA C cl11 fX10_69 (by decide) dX10_book_188 ?_
              refine R_iload_n C dX10_book_191 rfl ?_
              refine R_dup2 C dX10_book_192 rfl rfl ?_
              refine R_iald C (j := s) (kf := 26) rfl (show s < 8 by omega) rfl (x := M.2 26 s) rfl dX10_book_193 ?_
              refine R_iconst C dX10_book_194 ?_
              refine R_iadd C dX10_book_195 ?_
              refine R_iast C (j := s) (kf := 26) rfl (show s < 8 by omega) rfl dX10_book_196 ?_
              refine R_aload_n C dX10_book_197 rfl ?_
              refine R_getA C cl11 fX10_69 (by decide) dX10_book_198 ?_
              refine R_iload_n C dX10_book_201 rfl ?_
              refine R_iald C (j := s) (kf := 26) rfl (show s < 8 by omega) rfl (x := M.2 26 s + 1) (by simp [setA]) dX10_book_202 ?_
              exact R_iret C ⟨_, rfl, Or.inr (Or.inr (Or.inr ⟨by omega, by omega, by rcases hy with ⟨e, h⟩ | ⟨e, h⟩; exact h; omega, rfl, rfl⟩))⟩ hr dX10_book_203
            · refine R_aload_n C dX10_book_140 rfl ?_
              refine R_iconst C dX10_book_141 ?_
              refine R_callVi C (As := [_]) (c_X10_stop hl) kX10_158 rfl rfl (Nat.le_of_ble_eq_true rfl) ⟨by decide, by decide⟩ ⟨Nat.le_refl _, Nat.le_refl _⟩ dX10_book_142 ?_
              exact R_iret C ⟨0, rfl, Or.inr (Or.inr (Or.inl ⟨by omega, by omega, by rcases hy with ⟨e, h⟩ | ⟨e, h⟩; omega; exact h, rfl, rfl⟩))⟩ hr dX10_book_145
          · have hb := hB.2 s k (by omega) (by omega)
            refine R_join C (pcm := 127) (P := fun z => (z = 1 ∧ (y = 1 ∧ (M.2 29 (1500 * s + k) ≤ f ∨ f + g ≤ M.2 28 (1500 * s + k)))) ∨ (z = 0 ∧ ¬ (y = 1 ∧ (M.2 29 (1500 * s + k) ≤ f ∨ f + g ≤ M.2 28 (1500 * s + k))))) (fun hj => ?_) (fun z1 hz1 => ?_)
            · refine R_iload C dX10_book_92 rfl ?_
              refine R_if_eq C dX10_book_94 (by omega) (fun h94 => ?_) (fun h94 => ?_)
              · refine R_iconst C dX10_book_126 ?_
                exact hj _ (by omega)
              · refine R_iload_n C dX10_book_97 rfl ?_
                refine R_aload_n C dX10_book_98 rfl ?_
                refine R_getA C cl11 fX10_78 (by decide) dX10_book_99 ?_
                refine R_iload C dX10_book_102 rfl ?_
                refine R_iald C (j := (1500 * s + k)) (kf := 29) rfl (show (1500 * s + k) < 12000 by omega) (by omega) (x := M.2 29 (1500 * s + k)) rfl dX10_book_104 ?_
                refine R_icmp_ge C dX10_book_105 hf (by omega) (fun h105 => ?_) (fun h105 => ?_)
                · refine R_iconst C dX10_book_122 ?_
                  refine R_goto C dX10_book_123 ?_
                  exact hj _ (by omega)
                · refine R_iload_n C dX10_book_108 rfl ?_
                  refine R_iload C dX10_book_109 rfl ?_
                  refine R_iadd C dX10_book_111 ?_
                  refine R_aload_n C dX10_book_112 rfl ?_
                  refine R_getA C cl11 fX10_75 (by decide) dX10_book_113 ?_
                  refine R_iload C dX10_book_116 rfl ?_
                  refine R_iald C (j := (1500 * s + k)) (kf := 28) rfl (show (1500 * s + k) < 12000 by omega) (by omega) (x := M.2 28 (1500 * s + k)) rfl dX10_book_118 ?_
                  refine R_icmp_gt C dX10_book_119 (by omega) (by omega) (fun h119 => ?_) (fun h119 => ?_)
                  · refine R_iconst C dX10_book_126 ?_
                    exact hj _ (by omega)
                  · refine R_iconst C dX10_book_122 ?_
                    refine R_goto C dX10_book_123 ?_
                    exact hj _ (by omega)
            refine R_istore C dX10_book_127 (by decide) rfl ?_
            refine R_iinc C dX10_book_129 (by decide) rfl rfl ?_
            refine R_goto C dX10_book_132 ?_
            refine ih (1500 * s + k + 1, z1) ⟨k + 1, rfl, by omega, ?_⟩ (by show 12000 - (1500 * s + k + 1) < 12000 - (1500 * s + k); omega)
            rw [canM_step]
            rcases hy with ⟨hy1, hy2⟩ | ⟨hy1, hy2⟩ <;> rcases hz1 with ⟨h3, h4⟩ | ⟨h3, h4⟩
            · exact Or.inl ⟨h3, hy2, h4.2⟩
            · exact Or.inr ⟨h3, fun h => h4 ⟨hy1, h.2⟩⟩
            · omega
            · exact Or.inr ⟨h3, fun h => hy2 h.1⟩
        · refine R_aload_n C dX10_book_54 rfl ?_
          refine R_iconst C dX10_book_55 ?_
          refine R_callVi C (As := [_]) (c_X10_stop hl) kX10_158 rfl rfl (Nat.le_of_ble_eq_true rfl) ⟨by decide, by decide⟩ ⟨Nat.le_refl _, Nat.le_refl _⟩ dX10_book_56 ?_
          exact R_iret C ⟨0, rfl, Or.inr (Or.inl ⟨by omega, by omega, rfl, rfl⟩)⟩ hr dX10_book_59
    · refine R_aload_n C dX10_book_21 rfl ?_
      refine R_iconst C dX10_book_22 ?_
      refine R_callVi C (As := [_]) (c_X10_stop hl) kX10_158 rfl rfl (Nat.le_of_ble_eq_true rfl) ⟨by decide, by decide⟩ ⟨Nat.le_refl _, Nat.le_refl _⟩ dX10_book_23 ?_
      exact R_iret C ⟨0, rfl, Or.inl ⟨by omega, rfl, rfl⟩⟩ hr dX10_book_26
set_option maxRecDepth 20000 in
theorem c_X10_pass (hl : l.stackTraces = false) {n : Nat} {z : Int} {J : Nat → Mo → Prop} (hz : rng z) (hO : OkM M) (hJ0 : J 0 (setS M 0 0)) (hJ9 : ∀ k M9, J k M9 → OkM M9 ∧ okBk M9 ∧ (n : Int) = M9.1 30 ∧ M9.1 1 = M.1 1 + k ∧ True) (hJS : ∀ k M9 M2, J k M9 → (k : Int) + M.1 1 < 20000 → pass1 M9 n M2 → J (k + 1) M2) : Cr l D kA b t0 mo ad yX10_pass cX10_pass 3 (some FieldType.int) 5 120 [rv (some mo), iv z] M (fun v M2 => ∃ r, v = some (iv r) ∧ pasP M n z M2 r) := by
  refine Cr_mk hl (by decide) (Nat.le_of_ble_eq_true rfl) rfl ?_
  intro X0 p e s m args below meth c C hr
  have h0 := hO.1
  unfold okSc at h0
  refine R_aload_n C dX10_pass_0 rfl ?_
  refine R_iconst C dX10_pass_1 ?_
  refine R_putS C cl11 fX10_138 rfl (by decide) rfl dX10_pass_2 ?_
  refine R_iload_n C dX10_pass_5 rfl ?_
  refine R_iconst C dX10_pass_6 ?_
  refine R_bipush C dX10_pass_7 (by decide) ?_
  refine R_callSz C (As := [_, _, _]) (c_X10_in hl (a := 1) (c := 120) hz (by omega) (by omega)) kX10_141 rfl rfl (Nat.le_of_ble_eq_true rfl) ⟨by decide, by decide⟩ ⟨Nat.le_refl _, Nat.le_refl _⟩ dX10_pass_9 (fun z9 hz9 => ?_)
  refine R_if_ne C dX10_pass_12 (by omega) (fun h12 => ?_) (fun h12 => ?_)
  · refine R_aload_n C dX10_pass_21 rfl ?_
    refine R_getS C cl11 fX10_188 (x := M.1 1) rfl (by decide) dX10_pass_22 ?_
    refine R_iload_n C dX10_pass_25 rfl ?_
    refine R_iadd C dX10_pass_26 ?_
    refine R_sipush C dX10_pass_27 (by decide) ?_
    refine R_icmp_le C dX10_pass_30 (by omega) (by decide) (fun h30 => ?_) (fun h30 => ?_)
    · refine R_iconst C dX10_pass_39 ?_
      refine R_istore_n C dX10_pass_40 (by decide) rfl ?_
      refine R_while C (St := Nat × Mo) (f := fun x => x.2) (g := fun x => [some (rv (some mo)), some (iv z), some (iv (x.1 : Int))]) (μ := fun x => 121 - x.1) (I := fun x => (x.1 : Int) ≤ z ∧ J x.1 x.2 ∧ passN n x.1 (setS M 0 0) x.2) (x0 := (0, setS M 0 0)) rfl rfl ⟨by show (0 : Int) ≤ z; omega, hJ0, rfl⟩ ?_
      rintro ⟨k, M9⟩ ⟨hk, hJ, hp⟩ ih
      dsimp only at hk hJ hp ih ⊢
      obtain ⟨hO9, hBk9, hn9, h19, hn19⟩ := hJ9 k M9 hJ
      have h09 := hO9.1
      unfold okSc at h09
      refine R_iload_n C dX10_pass_41 rfl ?_
      refine R_iload_n C dX10_pass_42 rfl ?_
      refine R_icmp_ge C dX10_pass_43 (by omega) hz (fun h43 => ?_) (fun h43 => ?_)
      · refine R_aload_n C dX10_pass_56 rfl ?_
        refine R_getS C cl11 fX10_188 (x := M9.1 1) rfl (by decide) dX10_pass_57 ?_
        exact R_iret C ⟨_, rfl, Or.inr (Or.inr ⟨by omega, by omega, by rw [show z.toNat = k by omega]; exact hp, rfl⟩)⟩ hr dX10_pass_60
      · refine R_aload_n C dX10_pass_46 rfl ?_
        refine R_callV C (As := []) (c_X10_passOne hl (M := M9) (n := n) hO9 hn9 hBk9 (by omega)) kX10_258 rfl rfl (Nat.le_of_ble_eq_true rfl) ⟨by decide, by decide⟩ ⟨Nat.le_refl _, Nat.le_refl _⟩ dX10_pass_47 (fun v M2 hp2 => ?_)
        obtain ⟨rfl, hp1⟩ := hp2
        refine R_iinc C dX10_pass_50 (by decide) rfl rfl ?_
        refine R_goto C dX10_pass_53 ?_
        exact ih (k + 1, M2) ⟨by show ((k : Int) + 1) ≤ z; omega, hJS k M9 M2 hJ (by omega) hp1, M9, hp, hp1⟩ (by show 121 - (k + 1) < 121 - k; omega)
    · refine R_aload_n C dX10_pass_33 rfl ?_
      refine R_iconst C dX10_pass_34 ?_
      refine R_callVi C (As := [_]) (c_X10_stop hl) kX10_158 rfl rfl (Nat.le_of_ble_eq_true rfl) ⟨by decide, by decide⟩ ⟨Nat.le_refl _, Nat.le_refl _⟩ dX10_pass_35 ?_
      exact R_iret C ⟨0, rfl, Or.inr (Or.inl ⟨by omega, by omega, rfl, rfl⟩)⟩ hr dX10_pass_38
  · refine R_aload_n C dX10_pass_15 rfl ?_
    refine R_iconst C dX10_pass_16 ?_
    refine R_callVi C (As := [_]) (c_X10_stop hl) kX10_158 rfl rfl (Nat.le_of_ble_eq_true rfl) ⟨by decide, by decide⟩ ⟨Nat.le_refl _, Nat.le_refl _⟩ dX10_pass_17 ?_
    exact R_iret C ⟨0, rfl, Or.inl ⟨by omega, rfl, rfl⟩⟩ hr dX10_pass_20
theorem aw1 {z : Int} {P : Prop} (h : (z = 1 ∧ P) ∨ (z = 0 ∧ ¬ P)) (hz : z ≠ 0) : P := by
  rcases h with h | h
  · exact h.2
  · exact absurd h.1 hz
theorem aw0 {z : Int} {P : Prop} (h : (z = 1 ∧ P) ∨ (z = 0 ∧ ¬ P)) (hz : z = 0) : ¬ P := by
  rcases h with h | h
  · omega
  · exact h.2

set_option maxRecDepth 20000 in
theorem c_X10_plug (hl : l.stackTraces = false) {n : Nat} {z q k : Int} (hz : rng z) (hq : rng q) (hk : rng k) (hO : OkM M) (hB : okBx M) (hn : (n : Int) = M.1 30) : Cr l D kA b t0 mo ad yX10_plug cX10_plug 6 (some FieldType.int) 2 43 [rv (some mo), iv z, iv q, iv k] M (fun v M2 => ∃ r, v = some (iv r) ∧ pluP M n z q k M2 r) := by
  refine Cr_mk hl (by decide) (Nat.le_of_ble_eq_true rfl) rfl ?_
  intro X0 p e s m args below meth c C hr
  have h0 := hO.1
  unfold okSc at h0
  refine R_aload_n C dX10_plug_0 rfl ?_
  refine R_iconst C dX10_plug_1 ?_
  refine R_putS C cl11 fX10_138 rfl (by decide) rfl dX10_plug_2 ?_
  refine R_aload_n C dX10_plug_5 rfl ?_
  refine R_iload_n C dX10_plug_6 rfl ?_
  refine R_callVz C (As := [_]) (Cd := 0 ≤ z ∧ z < M.1 6) (c_X10_isSocket hl (M := setS M 0 0) hz (show 0 ≤ M.1 6 ∧ M.1 6 ≤ 40 by omega)) kX10_178 rfl rfl (Nat.le_of_ble_eq_true rfl) ⟨by decide, by decide⟩ ⟨Nat.le_refl _, Nat.le_refl _⟩ dX10_plug_7 (fun z7 hz7 => ?_)
  refine R_if_eq C dX10_plug_10 (by omega) (fun h10 => ?_) (fun h10 => ?_)
  · refine R_aload_n C dX10_plug_35 rfl ?_
    refine R_iconst C dX10_plug_36 ?_
    refine R_callVi C (As := [_]) (c_X10_stop hl) kX10_158 rfl rfl (Nat.le_of_ble_eq_true rfl) ⟨by decide, by decide⟩ ⟨Nat.le_refl _, Nat.le_refl _⟩ dX10_plug_37 ?_
    exact R_iret C ⟨0, rfl, Or.inl ⟨by omega, rfl, rfl⟩⟩ hr dX10_plug_40
  · refine R_iload_n C dX10_plug_13 rfl ?_
    refine R_iconst C dX10_plug_14 ?_
    refine R_aload_n C dX10_plug_15 rfl ?_
    refine R_getS C cl11 fX10_164 (x := M.1 13) rfl (by decide) dX10_plug_16 ?_
    refine R_iconst C dX10_plug_19 ?_
    refine R_isub C dX10_plug_20 ?_
    refine R_callSz C (As := [_, _, _]) (c_X10_in hl (a := 0) (c := M.1 13 - 1) hq (by omega) (by omega)) kX10_141 rfl rfl (Nat.le_of_ble_eq_true rfl) ⟨by decide, by decide⟩ ⟨Nat.le_refl _, Nat.le_refl _⟩ dX10_plug_21 (fun z21 hz21 => ?_)
    refine R_if_eq C dX10_plug_24 (by omega) (fun h24 => ?_) (fun h24 => ?_)
    · refine R_aload_n C dX10_plug_35 rfl ?_
      refine R_iconst C dX10_plug_36 ?_
      refine R_callVi C (As := [_]) (c_X10_stop hl) kX10_158 rfl rfl (Nat.le_of_ble_eq_true rfl) ⟨by decide, by decide⟩ ⟨Nat.le_refl _, Nat.le_refl _⟩ dX10_plug_37 ?_
      exact R_iret C ⟨0, rfl, Or.inl ⟨by omega, rfl, rfl⟩⟩ hr dX10_plug_40
    · refine R_aload_n C dX10_plug_27 rfl ?_
      refine R_iload_n C dX10_plug_28 rfl ?_
      refine R_callVz C (As := [_]) (Cd := 0 ≤ k ∧ k < M.1 17) (c_X10_isCard hl (M := setS M 0 0) hk (show 0 ≤ M.1 17 ∧ M.1 17 ≤ 40 by omega)) kX10_167 rfl rfl (Nat.le_of_ble_eq_true rfl) ⟨by decide, by decide⟩ ⟨Nat.le_refl _, Nat.le_refl _⟩ dX10_plug_29 (fun z29 hz29 => ?_)
      refine R_if_ne C dX10_plug_32 (by omega) (fun h32 => ?_) (fun h32 => ?_)
      · refine R_aload_n C dX10_plug_41 rfl ?_
        refine R_getS C cl11 fX10_151 (x := M.1 30) rfl (by decide) dX10_plug_42 ?_
        refine R_bipush C dX10_plug_45 (by decide) ?_
        refine R_icmp_ne C dX10_plug_47 (by omega) (by decide) (fun h47 => ?_) (fun h47 => ?_)
        · obtain ⟨s, rfl⟩ : ∃ s : Nat, z = (s : Int) := ⟨z.toNat, by omega⟩
          have hs2 := hO.2.1 s (by omega)
          unfold okSo at hs2
          have h9 := hO.2.2.2.1 k.toNat (by omega)
          unfold okCd at h9
          have hc8 := hB.1 s (by omega)
          refine R_aload_n C dX10_plug_56 rfl ?_
          refine R_getA C cl11 fX10_23 (by decide) dX10_plug_57 ?_
          refine R_iload_n C dX10_plug_60 rfl ?_
          refine R_zald C (j := s) (kf := 9) rfl (show s < 8 by omega) rfl (x := M.2 9 s) rfl dX10_plug_61 ?_
          refine R_if_eq C dX10_plug_62 (by omega) (fun h62 => ?_) (fun h62 => ?_)
          · refine R_aload_n C dX10_plug_67 rfl ?_
            refine R_getA C cl11 fX10_33 (by decide) dX10_plug_68 ?_
            refine R_iload_n C dX10_plug_71 rfl ?_
            refine R_iald C (j := s) (kf := 12) rfl (show s < 8 by omega) rfl (x := M.2 12 s) rfl dX10_plug_72 ?_
            refine R_iconst C dX10_plug_73 ?_
            refine R_icmp_eq C dX10_plug_74 (by omega) (by decide) (fun h74 => ?_) (fun h74 => ?_)
            · refine R_aload_n C dX10_plug_80 rfl ?_
              refine R_getA C cl11 fX10_51 (by decide) dX10_plug_81 ?_
              refine R_iload_n C dX10_plug_84 rfl ?_
              refine R_zald C (j := k.toNat) (kf := 20) rfl (show k.toNat < 12 by omega) (by omega) (x := M.2 20 (k.toNat)) rfl dX10_plug_85 ?_
              refine R_if_eq C dX10_plug_86 (by omega) (fun h86 => ?_) (fun h86 => ?_)
              · refine R_bipush C dX10_plug_107 (by decide) ?_
                exact R_iret C ⟨_, rfl, Or.inr ⟨by omega, Or.inr (Or.inr (Or.inr (Or.inl ⟨by omega, rfl, show M.2 9 s = 0 by omega, show M.2 12 s = -1 by omega, show M.2 20 k.toNat = 0 ∨ (M.2 10 s = 1 ∧ M.2 21 k.toNat = 0) by omega, rfl⟩)))⟩⟩ hr dX10_plug_109
              · refine R_aload_n C dX10_plug_89 rfl ?_
                refine R_getA C cl11 fX10_27 (by decide) dX10_plug_90 ?_
                refine R_iload_n C dX10_plug_93 rfl ?_
                refine R_zald C (j := s) (kf := 10) rfl (show s < 8 by omega) rfl (x := M.2 10 s) rfl dX10_plug_94 ?_
                refine R_if_eq C dX10_plug_95 (by omega) (fun h95 => ?_) (fun h95 => ?_)
                · refine R_aload_n C dX10_plug_110 rfl ?_
                  refine R_iload_n C dX10_plug_111 rfl ?_
                  refine R_callV C (As := [_]) (c_X10_holding hl (M := setS M 0 0) (u := s) (by omega) rfl hc8 (fun i hi => by show rng (M.2 28 (1500 * s + i)); have := (hB.2 s i (by omega) hi).2.1; omega) (show rng (M.1 1) by omega)) kX10_195 rfl rfl (Nat.le_of_ble_eq_true rfl) ⟨by decide, by decide⟩ ⟨Nat.le_refl _, Nat.le_refl _⟩ dX10_plug_112 (fun v M2 hp2 => ?_)
                  obtain ⟨rfl, h, rfl, hh⟩ := hp2
                  have hh' : hldM M s h := hh
                  have hhb : h = -1 ∨ (0 ≤ h ∧ h < M.2 26 s) := by
                    rcases hh with ⟨e, _⟩ | ⟨e1, e2, _⟩
                    · exact Or.inl e
                    · exact Or.inr ⟨e1, e2⟩
                  refine R_istore C dX10_plug_115 (by decide) rfl ?_
                  refine R_iload C dX10_plug_117 rfl ?_
                  refine R_iconst C dX10_plug_119 ?_
                  refine R_icmp_eq C dX10_plug_120 (by omega) (by decide) (fun h120 => ?_) (fun h120 => ?_)
                  · refine R_aload_n C dX10_plug_143 rfl ?_
                    refine R_iload_n C dX10_plug_144 rfl ?_
                    refine R_callVz C (As := [_]) (Cd := awyM M n q) (c_X10_isAway hl (M := setS M 0 0) (n := n) (show OkM (setS M 0 0) from hO) hn hq) kX10_198 rfl rfl (Nat.le_of_ble_eq_true rfl) ⟨by decide, by decide⟩ ⟨Nat.le_refl _, Nat.le_refl _⟩ dX10_plug_145 (fun z145 hz145 => ?_)
                    refine R_if_eq C dX10_plug_148 (by omega) (fun h148 => ?_) (fun h148 => ?_)
                    · refine R_joinM C (pcm := 167) (P := fun M1 => M1 = bkdM M s h) (fun hj => ?_) (fun M1 hM1 => ?_)
                      · refine R_iload C dX10_plug_154 rfl ?_
                        refine R_iconst C dX10_plug_156 ?_
                        refine R_icmp_eq C dX10_plug_157 (by omega) (by decide) (fun h157 => ?_) (fun h157 => ?_)
                        · first | (exfalso; omega) | exact hj _ (by unfold bkdM; rw [if_pos (by omega)]) | exact hj _ (by unfold bkdM; rw [if_neg (by omega)]; rfl)
                        · refine R_aload_n C dX10_plug_160 rfl ?_
                          refine R_iload_n C dX10_plug_161 rfl ?_
                          refine R_iload C dX10_plug_162 rfl ?_
                          rw [← bkM_self (setS M 0 0)]
                          refine R_callVv C (As := [_, _]) (c_X10_goes hl (M := setS M 0 0) (c := M.2 26) (a := M.2 27) (f := M.2 28) (t := M.2 29) (s := s) (pl := h.toNat) (by omega) (by omega) (by omega) rfl (by omega)) kX10_191 rfl rfl (Nat.le_of_ble_eq_true rfl) ⟨by decide, by decide⟩ ⟨Nat.le_refl _, Nat.le_refl _⟩ dX10_plug_164 ?_
                          first | (exfalso; omega) | exact hj _ (by unfold bkdM; rw [if_pos (by omega)]) | exact hj _ (by unfold bkdM; rw [if_neg (by omega)]; rfl)
                      have e30 : M1.1 30 = M.1 30 := by rw [hM1]; unfold bkdM; split <;> rfl
                      have e7 : M1.2 7 = M.2 7 := by rw [hM1]; unfold bkdM; split <;> rfl
                      have e23 : M1.2 23 = M.2 23 := by rw [hM1]; unfold bkdM; split <;> rfl
                      refine R_aload_n C dX10_plug_167 rfl ?_
                      refine R_getA C cl11 fX10_81 (by decide) dX10_plug_168 ?_
                      refine R_aload_n C dX10_plug_171 rfl ?_
                      refine R_getS C cl11 fX10_151 (x := M.1 30) e30 (by decide) dX10_plug_172 ?_
                      refine R_iload_n C dX10_plug_175 rfl ?_
                      refine R_iast C (j := n) (kf := 31) rfl (show n < 40 by omega) (by omega) dX10_plug_176 ?_
                      refine R_aload_n C dX10_plug_177 rfl ?_
                      refine R_getA C cl11 fX10_84 (by decide) dX10_plug_178 ?_
                      refine R_aload_n C dX10_plug_181 rfl ?_
                      refine R_getS C cl11 fX10_151 (x := M.1 30) e30 (by decide) dX10_plug_182 ?_
                      refine R_iload_n C dX10_plug_185 rfl ?_
                      refine R_iast C (j := n) (kf := 32) rfl (show n < 40 by omega) (by omega) dX10_plug_186 ?_
                      refine R_aload_n C dX10_plug_187 rfl ?_
                      refine R_getA C cl11 fX10_87 (by decide) dX10_plug_188 ?_
                      refine R_aload_n C dX10_plug_191 rfl ?_
                      refine R_getS C cl11 fX10_151 (x := M.1 30) e30 (by decide) dX10_plug_192 ?_
                      refine R_iload_n C dX10_plug_195 rfl ?_
                      refine R_iast C (j := n) (kf := 33) rfl (show n < 40 by omega) (by omega) dX10_plug_196 ?_
                      refine R_aload_n C dX10_plug_197 rfl ?_
                      refine R_getA C cl11 fX10_90 (by decide) dX10_plug_198 ?_
                      refine R_aload_n C dX10_plug_201 rfl ?_
                      refine R_getS C cl11 fX10_151 (x := M.1 30) e30 (by decide) dX10_plug_202 ?_
                      refine R_iconst C dX10_plug_205 ?_
                      refine R_iast C (j := n) (kf := 34) rfl (show n < 40 by omega) (by omega) dX10_plug_206 ?_
                      refine R_aload_n C dX10_plug_207 rfl ?_
                      refine R_getA C cl11 fX10_123 (by decide) dX10_plug_208 ?_
                      refine R_aload_n C dX10_plug_211 rfl ?_
                      refine R_getS C cl11 fX10_151 (x := M.1 30) e30 (by decide) dX10_plug_212 ?_
                      refine R_sipush C dX10_plug_215 (by decide) ?_
                      refine R_iast C (j := n) (kf := 45) rfl (show n < 40 by omega) (by omega) dX10_plug_218 ?_
                      refine R_iconst C dX10_plug_219 ?_
                      refine R_istore C dX10_plug_220 (by decide) rfl ?_
                      refine R_while C (St := Nat) (f := fun j => cpT M s n j (sesM M1 n s q.toNat k.toNat)) (g := fun j => [some (rv (some mo)), some (iv (s : Int)), some (iv q), some (iv k), some (iv h), some (iv (j : Int))]) (μ := fun j => 5 - j) (I := fun j => j ≤ 4) (x0 := 0) ?_ rfl (by omega) ?_
                      · unfold sesM; show setA (setA (setA (setA (setA M1 31 n (s : Int)) 32 n (q.toNat : Int)) 33 n (k.toNat : Int)) 34 n 1) 45 n 1400 = _
                        rw [show (q.toNat : Int) = q by omega, show (k.toNat : Int) = k by omega]
                      intro j hj ih
                      try dsimp only at ih ⊢
                      obtain ⟨g1, g2⟩ := cpT_st M s n (sesM M1 n s q.toNat k.toNat) j
                      refine R_iload C dX10_plug_222 rfl ?_
                      refine R_iconst C dX10_plug_224 ?_
                      refine R_icmp_ge C dX10_plug_225 (by omega) (by decide) (fun h225 => ?_) (fun h225 => ?_)
                      · obtain rfl : j = 4 := by omega
                        refine R_aload_n C dX10_plug_264 rfl ?_
                        refine R_getA C cl11 fX10_33 (by decide) dX10_plug_265 ?_
                        refine R_iload_n C dX10_plug_268 rfl ?_
                        refine R_aload_n C dX10_plug_269 rfl ?_
                        refine R_getS C cl11 fX10_151 (x := M.1 30) ((congrFun g1 30).trans e30) (by decide) dX10_plug_270 ?_
                        refine R_iast C (j := s) (kf := 12) rfl (show s < 8 by omega) rfl dX10_plug_273 ?_
                        refine R_aload_n C dX10_plug_274 rfl ?_
                        refine R_dup C dX10_plug_275 rfl ?_
                        refine R_getS C cl11 fX10_151 (x := M.1 30) ((congrFun g1 30).trans e30) (by decide) dX10_plug_276 ?_
                        refine R_iconst C dX10_plug_279 ?_
                        refine R_iadd C dX10_plug_280 ?_
                        refine R_putS C cl11 fX10_151 rfl (by decide) rfl dX10_plug_281 ?_
                        refine R_aload_n C dX10_plug_284 rfl ?_
                        refine R_getS C cl11 fX10_151 (x := M.1 30 + 1) rfl (by decide) dX10_plug_285 ?_
                        refine R_iconst C dX10_plug_288 ?_
                        refine R_isub C dX10_plug_289 ?_
                        exact R_iret C ⟨_, rfl, Or.inr ⟨by omega, Or.inr (Or.inr (Or.inr (Or.inr ⟨by omega, show M.2 9 s = 0 by omega, show M.2 12 s = -1 by omega, show ¬ (M.2 20 k.toNat = 0 ∨ (M.2 10 s = 1 ∧ M.2 21 k.toNat = 0)) by omega, h, hh', Or.inr (Or.inr ⟨show ¬ (h ≠ -1 ∧ M.2 27 (1500 * s + h.toNat) ≠ k) by omega, aw0 hz145 (by omega), by rw [hM1]; rfl, rfl⟩)⟩)))⟩⟩ hr dX10_plug_290
                      · refine R_aload_n C dX10_plug_228 rfl ?_
                        refine R_getA C cl11 fX10_63 (by decide) dX10_plug_229 ?_
                        refine R_iconst C dX10_plug_232 ?_
                        refine R_aload_n C dX10_plug_233 rfl ?_
                        refine R_getS C cl11 fX10_151 (x := M.1 30) ((congrFun g1 30).trans e30) (by decide) dX10_plug_234 ?_
                        refine R_imul C dX10_plug_237 ?_
                        refine R_iload C dX10_plug_238 rfl ?_
                        refine R_iadd C dX10_plug_240 ?_
                        refine R_aload_n C dX10_plug_241 rfl ?_
                        refine R_getA C cl11 fX10_60 (by decide) dX10_plug_242 ?_
                        refine R_iconst C dX10_plug_245 ?_
                        refine R_aload_n C dX10_plug_246 rfl ?_
                        refine R_getA C cl11 fX10_16 (by decide) dX10_plug_247 ?_
                        refine R_iload_n C dX10_plug_250 rfl ?_
                        refine R_iald C (j := s) (kf := 7) rfl (show s < 8 by omega) rfl (x := M.2 7 s) (((congrFun (g2 7 (by decide)) _)).trans (congrFun e7 _)) dX10_plug_251 ?_
                        refine R_imul C dX10_plug_252 ?_
                        refine R_iload C dX10_plug_253 rfl ?_
                        refine R_iadd C dX10_plug_255 ?_
                        refine R_iald C (j := ((4 * (M.2 7 s).toNat) + j)) (kf := 23) rfl (show ((4 * (M.2 7 s).toNat) + j) < 12 by omega) (by omega) (x := M.2 23 ((4 * (M.2 7 s).toNat) + j)) (((congrFun (g2 23 (by decide)) _)).trans (congrFun e23 _)) dX10_plug_256 ?_
                        refine R_iast C (j := ((4 * n) + j)) (kf := 24) rfl (show ((4 * n) + j) < 160 by omega) (by omega) dX10_plug_257 ?_
                        refine R_iinc C dX10_plug_258 (by decide) rfl rfl ?_
                        refine R_goto C dX10_plug_261 ?_
                        exact ih (j + 1) (by omega) (by omega)
                    · refine R_bipush C dX10_plug_151 (by decide) ?_
                      exact R_iret C ⟨_, rfl, Or.inr ⟨by omega, Or.inr (Or.inr (Or.inr (Or.inr ⟨by omega, show M.2 9 s = 0 by omega, show M.2 12 s = -1 by omega, show ¬ (M.2 20 k.toNat = 0 ∨ (M.2 10 s = 1 ∧ M.2 21 k.toNat = 0)) by omega, h, hh', Or.inr (Or.inl ⟨rfl, show ¬ (h ≠ -1 ∧ M.2 27 (1500 * s + h.toNat) ≠ k) by omega, aw1 hz145 (by omega), rfl⟩)⟩)))⟩⟩ hr dX10_plug_153
                  · refine R_aload_n C dX10_plug_123 rfl ?_
                    have hb := hB.2 s h.toNat (by omega) (by omega)
                    refine R_getA C cl11 fX10_72 (by decide) dX10_plug_124 ?_
                    refine R_sipush C dX10_plug_127 (by decide) ?_
                    refine R_iload_n C dX10_plug_130 rfl ?_
                    refine R_imul C dX10_plug_131 ?_
                    refine R_iload C dX10_plug_132 rfl ?_
                    refine R_iadd C dX10_plug_134 ?_
                    refine R_iald C (j := ((1500 * s) + h.toNat)) (kf := 27) rfl (show ((1500 * s) + h.toNat) < 12000 by omega) (by omega) (x := M.2 27 (((1500 * s) + h.toNat))) rfl dX10_plug_135 ?_
                    refine R_iload_n C dX10_plug_136 rfl ?_
                    refine R_icmp_eq C dX10_plug_137 (by omega) hk (fun h137 => ?_) (fun h137 => ?_)
                    · refine R_aload_n C dX10_plug_143 rfl ?_
                      refine R_iload_n C dX10_plug_144 rfl ?_
                      refine R_callVz C (As := [_]) (Cd := awyM M n q) (c_X10_isAway hl (M := setS M 0 0) (n := n) (show OkM (setS M 0 0) from hO) hn hq) kX10_198 rfl rfl (Nat.le_of_ble_eq_true rfl) ⟨by decide, by decide⟩ ⟨Nat.le_refl _, Nat.le_refl _⟩ dX10_plug_145 (fun z145 hz145 => ?_)
                      refine R_if_eq C dX10_plug_148 (by omega) (fun h148 => ?_) (fun h148 => ?_)
                      · refine R_joinM C (pcm := 167) (P := fun M1 => M1 = bkdM M s h) (fun hj => ?_) (fun M1 hM1 => ?_)
                        · refine R_iload C dX10_plug_154 rfl ?_
                          refine R_iconst C dX10_plug_156 ?_
                          refine R_icmp_eq C dX10_plug_157 (by omega) (by decide) (fun h157 => ?_) (fun h157 => ?_)
                          · first | (exfalso; omega) | exact hj _ (by unfold bkdM; rw [if_pos (by omega)]) | exact hj _ (by unfold bkdM; rw [if_neg (by omega)]; rfl)
                          · refine R_aload_n C dX10_plug_160 rfl ?_
                            refine R_iload_n C dX10_plug_161 rfl ?_
                            refine R_iload C dX10_plug_162 rfl ?_
                            rw [← bkM_self (setS M 0 0)]
                            refine R_callVv C (As := [_, _]) (c_X10_goes hl (M := setS M 0 0) (c := M.2 26) (a := M.2 27) (f := M.2 28) (t := M.2 29) (s := s) (pl := h.toNat) (by omega) (by omega) (by omega) rfl (by omega)) kX10_191 rfl rfl (Nat.le_of_ble_eq_true rfl) ⟨by decide, by decide⟩ ⟨Nat.le_refl _, Nat.le_refl _⟩ dX10_plug_164 ?_
                            first | (exfalso; omega) | exact hj _ (by unfold bkdM; rw [if_pos (by omega)]) | exact hj _ (by unfold bkdM; rw [if_neg (by omega)]; rfl)
                        have e30 : M1.1 30 = M.1 30 := by rw [hM1]; unfold bkdM; split <;> rfl
                        have e7 : M1.2 7 = M.2 7 := by rw [hM1]; unfold bkdM; split <;> rfl
                        have e23 : M1.2 23 = M.2 23 := by rw [hM1]; unfold bkdM; split <;> rfl
                        refine R_aload_n C dX10_plug_167 rfl ?_
                        refine R_getA C cl11 fX10_81 (by decide) dX10_plug_168 ?_
                        refine R_aload_n C dX10_plug_171 rfl ?_
                        refine R_getS C cl11 fX10_151 (x := M.1 30) e30 (by decide) dX10_plug_172 ?_
                        refine R_iload_n C dX10_plug_175 rfl ?_
                        refine R_iast C (j := n) (kf := 31) rfl (show n < 40 by omega) (by omega) dX10_plug_176 ?_
                        refine R_aload_n C dX10_plug_177 rfl ?_
                        refine R_getA C cl11 fX10_84 (by decide) dX10_plug_178 ?_
                        refine R_aload_n C dX10_plug_181 rfl ?_
                        refine R_getS C cl11 fX10_151 (x := M.1 30) e30 (by decide) dX10_plug_182 ?_
                        refine R_iload_n C dX10_plug_185 rfl ?_
                        refine R_iast C (j := n) (kf := 32) rfl (show n < 40 by omega) (by omega) dX10_plug_186 ?_
                        refine R_aload_n C dX10_plug_187 rfl ?_
                        refine R_getA C cl11 fX10_87 (by decide) dX10_plug_188 ?_
                        refine R_aload_n C dX10_plug_191 rfl ?_
                        refine R_getS C cl11 fX10_151 (x := M.1 30) e30 (by decide) dX10_plug_192 ?_
                        refine R_iload_n C dX10_plug_195 rfl ?_
                        refine R_iast C (j := n) (kf := 33) rfl (show n < 40 by omega) (by omega) dX10_plug_196 ?_
                        refine R_aload_n C dX10_plug_197 rfl ?_
                        refine R_getA C cl11 fX10_90 (by decide) dX10_plug_198 ?_
                        refine R_aload_n C dX10_plug_201 rfl ?_
                        refine R_getS C cl11 fX10_151 (x := M.1 30) e30 (by decide) dX10_plug_202 ?_
                        refine R_iconst C dX10_plug_205 ?_
                        refine R_iast C (j := n) (kf := 34) rfl (show n < 40 by omega) (by omega) dX10_plug_206 ?_
                        refine R_aload_n C dX10_plug_207 rfl ?_
                        refine R_getA C cl11 fX10_123 (by decide) dX10_plug_208 ?_
                        refine R_aload_n C dX10_plug_211 rfl ?_
                        refine R_getS C cl11 fX10_151 (x := M.1 30) e30 (by decide) dX10_plug_212 ?_
                        refine R_sipush C dX10_plug_215 (by decide) ?_
                        refine R_iast C (j := n) (kf := 45) rfl (show n < 40 by omega) (by omega) dX10_plug_218 ?_
                        refine R_iconst C dX10_plug_219 ?_
                        refine R_istore C dX10_plug_220 (by decide) rfl ?_
                        refine R_while C (St := Nat) (f := fun j => cpT M s n j (sesM M1 n s q.toNat k.toNat)) (g := fun j => [some (rv (some mo)), some (iv (s : Int)), some (iv q), some (iv k), some (iv h), some (iv (j : Int))]) (μ := fun j => 5 - j) (I := fun j => j ≤ 4) (x0 := 0) ?_ rfl (by omega) ?_
                        · unfold sesM; show setA (setA (setA (setA (setA M1 31 n (s : Int)) 32 n (q.toNat : Int)) 33 n (k.toNat : Int)) 34 n 1) 45 n 1400 = _
                          rw [show (q.toNat : Int) = q by omega, show (k.toNat : Int) = k by omega]
                        intro j hj ih
                        try dsimp only at ih ⊢
                        obtain ⟨g1, g2⟩ := cpT_st M s n (sesM M1 n s q.toNat k.toNat) j
                        refine R_iload C dX10_plug_222 rfl ?_
                        refine R_iconst C dX10_plug_224 ?_
                        refine R_icmp_ge C dX10_plug_225 (by omega) (by decide) (fun h225 => ?_) (fun h225 => ?_)
                        · obtain rfl : j = 4 := by omega
                          refine R_aload_n C dX10_plug_264 rfl ?_
                          refine R_getA C cl11 fX10_33 (by decide) dX10_plug_265 ?_
                          refine R_iload_n C dX10_plug_268 rfl ?_
                          refine R_aload_n C dX10_plug_269 rfl ?_
                          refine R_getS C cl11 fX10_151 (x := M.1 30) ((congrFun g1 30).trans e30) (by decide) dX10_plug_270 ?_
                          refine R_iast C (j := s) (kf := 12) rfl (show s < 8 by omega) rfl dX10_plug_273 ?_
                          refine R_aload_n C dX10_plug_274 rfl ?_
                          refine R_dup C dX10_plug_275 rfl ?_
                          refine R_getS C cl11 fX10_151 (x := M.1 30) ((congrFun g1 30).trans e30) (by decide) dX10_plug_276 ?_
                          refine R_iconst C dX10_plug_279 ?_
                          refine R_iadd C dX10_plug_280 ?_
                          refine R_putS C cl11 fX10_151 rfl (by decide) rfl dX10_plug_281 ?_
                          refine R_aload_n C dX10_plug_284 rfl ?_
                          refine R_getS C cl11 fX10_151 (x := M.1 30 + 1) rfl (by decide) dX10_plug_285 ?_
                          refine R_iconst C dX10_plug_288 ?_
                          refine R_isub C dX10_plug_289 ?_
                          exact R_iret C ⟨_, rfl, Or.inr ⟨by omega, Or.inr (Or.inr (Or.inr (Or.inr ⟨by omega, show M.2 9 s = 0 by omega, show M.2 12 s = -1 by omega, show ¬ (M.2 20 k.toNat = 0 ∨ (M.2 10 s = 1 ∧ M.2 21 k.toNat = 0)) by omega, h, hh', Or.inr (Or.inr ⟨show ¬ (h ≠ -1 ∧ M.2 27 (1500 * s + h.toNat) ≠ k) by omega, aw0 hz145 (by omega), by rw [hM1]; rfl, rfl⟩)⟩)))⟩⟩ hr dX10_plug_290
                        · refine R_aload_n C dX10_plug_228 rfl ?_
                          refine R_getA C cl11 fX10_63 (by decide) dX10_plug_229 ?_
                          refine R_iconst C dX10_plug_232 ?_
                          refine R_aload_n C dX10_plug_233 rfl ?_
                          refine R_getS C cl11 fX10_151 (x := M.1 30) ((congrFun g1 30).trans e30) (by decide) dX10_plug_234 ?_
                          refine R_imul C dX10_plug_237 ?_
                          refine R_iload C dX10_plug_238 rfl ?_
                          refine R_iadd C dX10_plug_240 ?_
                          refine R_aload_n C dX10_plug_241 rfl ?_
                          refine R_getA C cl11 fX10_60 (by decide) dX10_plug_242 ?_
                          refine R_iconst C dX10_plug_245 ?_
                          refine R_aload_n C dX10_plug_246 rfl ?_
                          refine R_getA C cl11 fX10_16 (by decide) dX10_plug_247 ?_
                          refine R_iload_n C dX10_plug_250 rfl ?_
                          refine R_iald C (j := s) (kf := 7) rfl (show s < 8 by omega) rfl (x := M.2 7 s) (((congrFun (g2 7 (by decide)) _)).trans (congrFun e7 _)) dX10_plug_251 ?_
                          refine R_imul C dX10_plug_252 ?_
                          refine R_iload C dX10_plug_253 rfl ?_
                          refine R_iadd C dX10_plug_255 ?_
                          refine R_iald C (j := ((4 * (M.2 7 s).toNat) + j)) (kf := 23) rfl (show ((4 * (M.2 7 s).toNat) + j) < 12 by omega) (by omega) (x := M.2 23 ((4 * (M.2 7 s).toNat) + j)) (((congrFun (g2 23 (by decide)) _)).trans (congrFun e23 _)) dX10_plug_256 ?_
                          refine R_iast C (j := ((4 * n) + j)) (kf := 24) rfl (show ((4 * n) + j) < 160 by omega) (by omega) dX10_plug_257 ?_
                          refine R_iinc C dX10_plug_258 (by decide) rfl rfl ?_
                          refine R_goto C dX10_plug_261 ?_
                          exact ih (j + 1) (by omega) (by omega)
                      · refine R_bipush C dX10_plug_151 (by decide) ?_
                        exact R_iret C ⟨_, rfl, Or.inr ⟨by omega, Or.inr (Or.inr (Or.inr (Or.inr ⟨by omega, show M.2 9 s = 0 by omega, show M.2 12 s = -1 by omega, show ¬ (M.2 20 k.toNat = 0 ∨ (M.2 10 s = 1 ∧ M.2 21 k.toNat = 0)) by omega, h, hh', Or.inr (Or.inl ⟨rfl, show ¬ (h ≠ -1 ∧ M.2 27 (1500 * s + h.toNat) ≠ k) by omega, aw1 hz145 (by omega), rfl⟩)⟩)))⟩⟩ hr dX10_plug_153
                    · refine R_bipush C dX10_plug_140 (by decide) ?_
                      exact R_iret C ⟨_, rfl, Or.inr ⟨by omega, Or.inr (Or.inr (Or.inr (Or.inr ⟨by omega, show M.2 9 s = 0 by omega, show M.2 12 s = -1 by omega, show ¬ (M.2 20 k.toNat = 0 ∨ (M.2 10 s = 1 ∧ M.2 21 k.toNat = 0)) by omega, h, hh', Or.inl ⟨rfl, by omega, show M.2 27 (1500 * s + h.toNat) ≠ k by omega, rfl⟩⟩)))⟩⟩ hr dX10_plug_142
                · refine R_aload_n C dX10_plug_98 rfl ?_
                  refine R_getA C cl11 fX10_54 (by decide) dX10_plug_99 ?_
                  refine R_iload_n C dX10_plug_102 rfl ?_
                  refine R_zald C (j := k.toNat) (kf := 21) rfl (show k.toNat < 12 by omega) (by omega) (x := M.2 21 (k.toNat)) rfl dX10_plug_103 ?_
                  refine R_if_ne C dX10_plug_104 (by omega) (fun h104 => ?_) (fun h104 => ?_)
                  · refine R_aload_n C dX10_plug_110 rfl ?_
                    refine R_iload_n C dX10_plug_111 rfl ?_
                    refine R_callV C (As := [_]) (c_X10_holding hl (M := setS M 0 0) (u := s) (by omega) rfl hc8 (fun i hi => by show rng (M.2 28 (1500 * s + i)); have := (hB.2 s i (by omega) hi).2.1; omega) (show rng (M.1 1) by omega)) kX10_195 rfl rfl (Nat.le_of_ble_eq_true rfl) ⟨by decide, by decide⟩ ⟨Nat.le_refl _, Nat.le_refl _⟩ dX10_plug_112 (fun v M2 hp2 => ?_)
                    obtain ⟨rfl, h, rfl, hh⟩ := hp2
                    have hh' : hldM M s h := hh
                    have hhb : h = -1 ∨ (0 ≤ h ∧ h < M.2 26 s) := by
                      rcases hh with ⟨e, _⟩ | ⟨e1, e2, _⟩
                      · exact Or.inl e
                      · exact Or.inr ⟨e1, e2⟩
                    refine R_istore C dX10_plug_115 (by decide) rfl ?_
                    refine R_iload C dX10_plug_117 rfl ?_
                    refine R_iconst C dX10_plug_119 ?_
                    refine R_icmp_eq C dX10_plug_120 (by omega) (by decide) (fun h120 => ?_) (fun h120 => ?_)
                    · refine R_aload_n C dX10_plug_143 rfl ?_
                      refine R_iload_n C dX10_plug_144 rfl ?_
                      refine R_callVz C (As := [_]) (Cd := awyM M n q) (c_X10_isAway hl (M := setS M 0 0) (n := n) (show OkM (setS M 0 0) from hO) hn hq) kX10_198 rfl rfl (Nat.le_of_ble_eq_true rfl) ⟨by decide, by decide⟩ ⟨Nat.le_refl _, Nat.le_refl _⟩ dX10_plug_145 (fun z145 hz145 => ?_)
                      refine R_if_eq C dX10_plug_148 (by omega) (fun h148 => ?_) (fun h148 => ?_)
                      · refine R_joinM C (pcm := 167) (P := fun M1 => M1 = bkdM M s h) (fun hj => ?_) (fun M1 hM1 => ?_)
                        · refine R_iload C dX10_plug_154 rfl ?_
                          refine R_iconst C dX10_plug_156 ?_
                          refine R_icmp_eq C dX10_plug_157 (by omega) (by decide) (fun h157 => ?_) (fun h157 => ?_)
                          · first | (exfalso; omega) | exact hj _ (by unfold bkdM; rw [if_pos (by omega)]) | exact hj _ (by unfold bkdM; rw [if_neg (by omega)]; rfl)
                          · refine R_aload_n C dX10_plug_160 rfl ?_
                            refine R_iload_n C dX10_plug_161 rfl ?_
                            refine R_iload C dX10_plug_162 rfl ?_
                            rw [← bkM_self (setS M 0 0)]
                            refine R_callVv C (As := [_, _]) (c_X10_goes hl (M := setS M 0 0) (c := M.2 26) (a := M.2 27) (f := M.2 28) (t := M.2 29) (s := s) (pl := h.toNat) (by omega) (by omega) (by omega) rfl (by omega)) kX10_191 rfl rfl (Nat.le_of_ble_eq_true rfl) ⟨by decide, by decide⟩ ⟨Nat.le_refl _, Nat.le_refl _⟩ dX10_plug_164 ?_
                            first | (exfalso; omega) | exact hj _ (by unfold bkdM; rw [if_pos (by omega)]) | exact hj _ (by unfold bkdM; rw [if_neg (by omega)]; rfl)
                        have e30 : M1.1 30 = M.1 30 := by rw [hM1]; unfold bkdM; split <;> rfl
                        have e7 : M1.2 7 = M.2 7 := by rw [hM1]; unfold bkdM; split <;> rfl
                        have e23 : M1.2 23 = M.2 23 := by rw [hM1]; unfold bkdM; split <;> rfl
                        refine R_aload_n C dX10_plug_167 rfl ?_
                        refine R_getA C cl11 fX10_81 (by decide) dX10_plug_168 ?_
                        refine R_aload_n C dX10_plug_171 rfl ?_
                        refine R_getS C cl11 fX10_151 (x := M.1 30) e30 (by decide) dX10_plug_172 ?_
                        refine R_iload_n C dX10_plug_175 rfl ?_
                        refine R_iast C (j := n) (kf := 31) rfl (show n < 40 by omega) (by omega) dX10_plug_176 ?_
                        refine R_aload_n C dX10_plug_177 rfl ?_
                        refine R_getA C cl11 fX10_84 (by decide) dX10_plug_178 ?_
                        refine R_aload_n C dX10_plug_181 rfl ?_
                        refine R_getS C cl11 fX10_151 (x := M.1 30) e30 (by decide) dX10_plug_182 ?_
                        refine R_iload_n C dX10_plug_185 rfl ?_
                        refine R_iast C (j := n) (kf := 32) rfl (show n < 40 by omega) (by omega) dX10_plug_186 ?_
                        refine R_aload_n C dX10_plug_187 rfl ?_
                        refine R_getA C cl11 fX10_87 (by decide) dX10_plug_188 ?_
                        refine R_aload_n C dX10_plug_191 rfl ?_
                        refine R_getS C cl11 fX10_151 (x := M.1 30) e30 (by decide) dX10_plug_192 ?_
                        refine R_iload_n C dX10_plug_195 rfl ?_
                        refine R_iast C (j := n) (kf := 33) rfl (show n < 40 by omega) (by omega) dX10_plug_196 ?_
                        refine R_aload_n C dX10_plug_197 rfl ?_
                        refine R_getA C cl11 fX10_90 (by decide) dX10_plug_198 ?_
                        refine R_aload_n C dX10_plug_201 rfl ?_
                        refine R_getS C cl11 fX10_151 (x := M.1 30) e30 (by decide) dX10_plug_202 ?_
                        refine R_iconst C dX10_plug_205 ?_
                        refine R_iast C (j := n) (kf := 34) rfl (show n < 40 by omega) (by omega) dX10_plug_206 ?_
                        refine R_aload_n C dX10_plug_207 rfl ?_
                        refine R_getA C cl11 fX10_123 (by decide) dX10_plug_208 ?_
                        refine R_aload_n C dX10_plug_211 rfl ?_
                        refine R_getS C cl11 fX10_151 (x := M.1 30) e30 (by decide) dX10_plug_212 ?_
                        refine R_sipush C dX10_plug_215 (by decide) ?_
                        refine R_iast C (j := n) (kf := 45) rfl (show n < 40 by omega) (by omega) dX10_plug_218 ?_
                        refine R_iconst C dX10_plug_219 ?_
                        refine R_istore C dX10_plug_220 (by decide) rfl ?_
                        refine R_while C (St := Nat) (f := fun j => cpT M s n j (sesM M1 n s q.toNat k.toNat)) (g := fun j => [some (rv (some mo)), some (iv (s : Int)), some (iv q), some (iv k), some (iv h), some (iv (j : Int))]) (μ := fun j => 5 - j) (I := fun j => j ≤ 4) (x0 := 0) ?_ rfl (by omega) ?_
                        · unfold sesM; show setA (setA (setA (setA (setA M1 31 n (s : Int)) 32 n (q.toNat : Int)) 33 n (k.toNat : Int)) 34 n 1) 45 n 1400 = _
                          rw [show (q.toNat : Int) = q by omega, show (k.toNat : Int) = k by omega]
                        intro j hj ih
                        try dsimp only at ih ⊢
                        obtain ⟨g1, g2⟩ := cpT_st M s n (sesM M1 n s q.toNat k.toNat) j
                        refine R_iload C dX10_plug_222 rfl ?_
                        refine R_iconst C dX10_plug_224 ?_
                        refine R_icmp_ge C dX10_plug_225 (by omega) (by decide) (fun h225 => ?_) (fun h225 => ?_)
                        · obtain rfl : j = 4 := by omega
                          refine R_aload_n C dX10_plug_264 rfl ?_
                          refine R_getA C cl11 fX10_33 (by decide) dX10_plug_265 ?_
                          refine R_iload_n C dX10_plug_268 rfl ?_
                          refine R_aload_n C dX10_plug_269 rfl ?_
                          refine R_getS C cl11 fX10_151 (x := M.1 30) ((congrFun g1 30).trans e30) (by decide) dX10_plug_270 ?_
                          refine R_iast C (j := s) (kf := 12) rfl (show s < 8 by omega) rfl dX10_plug_273 ?_
                          refine R_aload_n C dX10_plug_274 rfl ?_
                          refine R_dup C dX10_plug_275 rfl ?_
                          refine R_getS C cl11 fX10_151 (x := M.1 30) ((congrFun g1 30).trans e30) (by decide) dX10_plug_276 ?_
                          refine R_iconst C dX10_plug_279 ?_
                          refine R_iadd C dX10_plug_280 ?_
                          refine R_putS C cl11 fX10_151 rfl (by decide) rfl dX10_plug_281 ?_
                          refine R_aload_n C dX10_plug_284 rfl ?_
                          refine R_getS C cl11 fX10_151 (x := M.1 30 + 1) rfl (by decide) dX10_plug_285 ?_
                          refine R_iconst C dX10_plug_288 ?_
                          refine R_isub C dX10_plug_289 ?_
                          exact R_iret C ⟨_, rfl, Or.inr ⟨by omega, Or.inr (Or.inr (Or.inr (Or.inr ⟨by omega, show M.2 9 s = 0 by omega, show M.2 12 s = -1 by omega, show ¬ (M.2 20 k.toNat = 0 ∨ (M.2 10 s = 1 ∧ M.2 21 k.toNat = 0)) by omega, h, hh', Or.inr (Or.inr ⟨show ¬ (h ≠ -1 ∧ M.2 27 (1500 * s + h.toNat) ≠ k) by omega, aw0 hz145 (by omega), by rw [hM1]; rfl, rfl⟩)⟩)))⟩⟩ hr dX10_plug_290
                        · refine R_aload_n C dX10_plug_228 rfl ?_
                          refine R_getA C cl11 fX10_63 (by decide) dX10_plug_229 ?_
                          refine R_iconst C dX10_plug_232 ?_
                          refine R_aload_n C dX10_plug_233 rfl ?_
                          refine R_getS C cl11 fX10_151 (x := M.1 30) ((congrFun g1 30).trans e30) (by decide) dX10_plug_234 ?_
                          refine R_imul C dX10_plug_237 ?_
                          refine R_iload C dX10_plug_238 rfl ?_
                          refine R_iadd C dX10_plug_240 ?_
                          refine R_aload_n C dX10_plug_241 rfl ?_
                          refine R_getA C cl11 fX10_60 (by decide) dX10_plug_242 ?_
                          refine R_iconst C dX10_plug_245 ?_
                          refine R_aload_n C dX10_plug_246 rfl ?_
                          refine R_getA C cl11 fX10_16 (by decide) dX10_plug_247 ?_
                          refine R_iload_n C dX10_plug_250 rfl ?_
                          refine R_iald C (j := s) (kf := 7) rfl (show s < 8 by omega) rfl (x := M.2 7 s) (((congrFun (g2 7 (by decide)) _)).trans (congrFun e7 _)) dX10_plug_251 ?_
                          refine R_imul C dX10_plug_252 ?_
                          refine R_iload C dX10_plug_253 rfl ?_
                          refine R_iadd C dX10_plug_255 ?_
                          refine R_iald C (j := ((4 * (M.2 7 s).toNat) + j)) (kf := 23) rfl (show ((4 * (M.2 7 s).toNat) + j) < 12 by omega) (by omega) (x := M.2 23 ((4 * (M.2 7 s).toNat) + j)) (((congrFun (g2 23 (by decide)) _)).trans (congrFun e23 _)) dX10_plug_256 ?_
                          refine R_iast C (j := ((4 * n) + j)) (kf := 24) rfl (show ((4 * n) + j) < 160 by omega) (by omega) dX10_plug_257 ?_
                          refine R_iinc C dX10_plug_258 (by decide) rfl rfl ?_
                          refine R_goto C dX10_plug_261 ?_
                          exact ih (j + 1) (by omega) (by omega)
                      · refine R_bipush C dX10_plug_151 (by decide) ?_
                        exact R_iret C ⟨_, rfl, Or.inr ⟨by omega, Or.inr (Or.inr (Or.inr (Or.inr ⟨by omega, show M.2 9 s = 0 by omega, show M.2 12 s = -1 by omega, show ¬ (M.2 20 k.toNat = 0 ∨ (M.2 10 s = 1 ∧ M.2 21 k.toNat = 0)) by omega, h, hh', Or.inr (Or.inl ⟨rfl, show ¬ (h ≠ -1 ∧ M.2 27 (1500 * s + h.toNat) ≠ k) by omega, aw1 hz145 (by omega), rfl⟩)⟩)))⟩⟩ hr dX10_plug_153
                    · refine R_aload_n C dX10_plug_123 rfl ?_
                      have hb := hB.2 s h.toNat (by omega) (by omega)
                      refine R_getA C cl11 fX10_72 (by decide) dX10_plug_124 ?_
                      refine R_sipush C dX10_plug_127 (by decide) ?_
                      refine R_iload_n C dX10_plug_130 rfl ?_
                      refine R_imul C dX10_plug_131 ?_
                      refine R_iload C dX10_plug_132 rfl ?_
                      refine R_iadd C dX10_plug_134 ?_
                      refine R_iald C (j := ((1500 * s) + h.toNat)) (kf := 27) rfl (show ((1500 * s) + h.toNat) < 12000 by omega) (by omega) (x := M.2 27 (((1500 * s) + h.toNat))) rfl dX10_plug_135 ?_
                      refine R_iload_n C dX10_plug_136 rfl ?_
                      refine R_icmp_eq C dX10_plug_137 (by omega) hk (fun h137 => ?_) (fun h137 => ?_)
                      · refine R_aload_n C dX10_plug_143 rfl ?_
                        refine R_iload_n C dX10_plug_144 rfl ?_
                        refine R_callVz C (As := [_]) (Cd := awyM M n q) (c_X10_isAway hl (M := setS M 0 0) (n := n) (show OkM (setS M 0 0) from hO) hn hq) kX10_198 rfl rfl (Nat.le_of_ble_eq_true rfl) ⟨by decide, by decide⟩ ⟨Nat.le_refl _, Nat.le_refl _⟩ dX10_plug_145 (fun z145 hz145 => ?_)
                        refine R_if_eq C dX10_plug_148 (by omega) (fun h148 => ?_) (fun h148 => ?_)
                        · refine R_joinM C (pcm := 167) (P := fun M1 => M1 = bkdM M s h) (fun hj => ?_) (fun M1 hM1 => ?_)
                          · refine R_iload C dX10_plug_154 rfl ?_
                            refine R_iconst C dX10_plug_156 ?_
                            refine R_icmp_eq C dX10_plug_157 (by omega) (by decide) (fun h157 => ?_) (fun h157 => ?_)
                            · first | (exfalso; omega) | exact hj _ (by unfold bkdM; rw [if_pos (by omega)]) | exact hj _ (by unfold bkdM; rw [if_neg (by omega)]; rfl)
                            · refine R_aload_n C dX10_plug_160 rfl ?_
                              refine R_iload_n C dX10_plug_161 rfl ?_
                              refine R_iload C dX10_plug_162 rfl ?_
                              rw [← bkM_self (setS M 0 0)]
                              refine R_callVv C (As := [_, _]) (c_X10_goes hl (M := setS M 0 0) (c := M.2 26) (a := M.2 27) (f := M.2 28) (t := M.2 29) (s := s) (pl := h.toNat) (by omega) (by omega) (by omega) rfl (by omega)) kX10_191 rfl rfl (Nat.le_of_ble_eq_true rfl) ⟨by decide, by decide⟩ ⟨Nat.le_refl _, Nat.le_refl _⟩ dX10_plug_164 ?_
                              first | (exfalso; omega) | exact hj _ (by unfold bkdM; rw [if_pos (by omega)]) | exact hj _ (by unfold bkdM; rw [if_neg (by omega)]; rfl)
                          have e30 : M1.1 30 = M.1 30 := by rw [hM1]; unfold bkdM; split <;> rfl
                          have e7 : M1.2 7 = M.2 7 := by rw [hM1]; unfold bkdM; split <;> rfl
                          have e23 : M1.2 23 = M.2 23 := by rw [hM1]; unfold bkdM; split <;> rfl
                          refine R_aload_n C dX10_plug_167 rfl ?_
                          refine R_getA C cl11 fX10_81 (by decide) dX10_plug_168 ?_
                          refine R_aload_n C dX10_plug_171 rfl ?_
                          refine R_getS C cl11 fX10_151 (x := M.1 30) e30 (by decide) dX10_plug_172 ?_
                          refine R_iload_n C dX10_plug_175 rfl ?_
                          refine R_iast C (j := n) (kf := 31) rfl (show n < 40 by omega) (by omega) dX10_plug_176 ?_
                          refine R_aload_n C dX10_plug_177 rfl ?_
                          refine R_getA C cl11 fX10_84 (by decide) dX10_plug_178 ?_
                          refine R_aload_n C dX10_plug_181 rfl ?_
                          refine R_getS C cl11 fX10_151 (x := M.1 30) e30 (by decide) dX10_plug_182 ?_
                          refine R_iload_n C dX10_plug_185 rfl ?_
                          refine R_iast C (j := n) (kf := 32) rfl (show n < 40 by omega) (by omega) dX10_plug_186 ?_
                          refine R_aload_n C dX10_plug_187 rfl ?_
                          refine R_getA C cl11 fX10_87 (by decide) dX10_plug_188 ?_
                          refine R_aload_n C dX10_plug_191 rfl ?_
                          refine R_getS C cl11 fX10_151 (x := M.1 30) e30 (by decide) dX10_plug_192 ?_
                          refine R_iload_n C dX10_plug_195 rfl ?_
                          refine R_iast C (j := n) (kf := 33) rfl (show n < 40 by omega) (by omega) dX10_plug_196 ?_
                          refine R_aload_n C dX10_plug_197 rfl ?_
                          refine R_getA C cl11 fX10_90 (by decide) dX10_plug_198 ?_
                          refine R_aload_n C dX10_plug_201 rfl ?_
                          refine R_getS C cl11 fX10_151 (x := M.1 30) e30 (by decide) dX10_plug_202 ?_
                          refine R_iconst C dX10_plug_205 ?_
                          refine R_iast C (j := n) (kf := 34) rfl (show n < 40 by omega) (by omega) dX10_plug_206 ?_
                          refine R_aload_n C dX10_plug_207 rfl ?_
                          refine R_getA C cl11 fX10_123 (by decide) dX10_plug_208 ?_
                          refine R_aload_n C dX10_plug_211 rfl ?_
                          refine R_getS C cl11 fX10_151 (x := M.1 30) e30 (by decide) dX10_plug_212 ?_
                          refine R_sipush C dX10_plug_215 (by decide) ?_
                          refine R_iast C (j := n) (kf := 45) rfl (show n < 40 by omega) (by omega) dX10_plug_218 ?_
                          refine R_iconst C dX10_plug_219 ?_
                          refine R_istore C dX10_plug_220 (by decide) rfl ?_
                          refine R_while C (St := Nat) (f := fun j => cpT M s n j (sesM M1 n s q.toNat k.toNat)) (g := fun j => [some (rv (some mo)), some (iv (s : Int)), some (iv q), some (iv k), some (iv h), some (iv (j : Int))]) (μ := fun j => 5 - j) (I := fun j => j ≤ 4) (x0 := 0) ?_ rfl (by omega) ?_
                          · unfold sesM; show setA (setA (setA (setA (setA M1 31 n (s : Int)) 32 n (q.toNat : Int)) 33 n (k.toNat : Int)) 34 n 1) 45 n 1400 = _
                            rw [show (q.toNat : Int) = q by omega, show (k.toNat : Int) = k by omega]
                          intro j hj ih
                          try dsimp only at ih ⊢
                          obtain ⟨g1, g2⟩ := cpT_st M s n (sesM M1 n s q.toNat k.toNat) j
                          refine R_iload C dX10_plug_222 rfl ?_
                          refine R_iconst C dX10_plug_224 ?_
                          refine R_icmp_ge C dX10_plug_225 (by omega) (by decide) (fun h225 => ?_) (fun h225 => ?_)
                          · obtain rfl : j = 4 := by omega
                            refine R_aload_n C dX10_plug_264 rfl ?_
                            refine R_getA C cl11 fX10_33 (by decide) dX10_plug_265 ?_
                            refine R_iload_n C dX10_plug_268 rfl ?_
                            refine R_aload_n C dX10_plug_269 rfl ?_
                            refine R_getS C cl11 fX10_151 (x := M.1 30) ((congrFun g1 30).trans e30) (by decide) dX10_plug_270 ?_
                            refine R_iast C (j := s) (kf := 12) rfl (show s < 8 by omega) rfl dX10_plug_273 ?_
                            refine R_aload_n C dX10_plug_274 rfl ?_
                            refine R_dup C dX10_plug_275 rfl ?_
                            refine R_getS C cl11 fX10_151 (x := M.1 30) ((congrFun g1 30).trans e30) (by decide) dX10_plug_276 ?_
                            refine R_iconst C dX10_plug_279 ?_
                            refine R_iadd C dX10_plug_280 ?_
                            refine R_putS C cl11 fX10_151 rfl (by decide) rfl dX10_plug_281 ?_
                            refine R_aload_n C dX10_plug_284 rfl ?_
                            refine R_getS C cl11 fX10_151 (x := M.1 30 + 1) rfl (by decide) dX10_plug_285 ?_
                            refine R_iconst C dX10_plug_288 ?_
                            refine R_isub C dX10_plug_289 ?_
                            exact R_iret C ⟨_, rfl, Or.inr ⟨by omega, Or.inr (Or.inr (Or.inr (Or.inr ⟨by omega, show M.2 9 s = 0 by omega, show M.2 12 s = -1 by omega, show ¬ (M.2 20 k.toNat = 0 ∨ (M.2 10 s = 1 ∧ M.2 21 k.toNat = 0)) by omega, h, hh', Or.inr (Or.inr ⟨show ¬ (h ≠ -1 ∧ M.2 27 (1500 * s + h.toNat) ≠ k) by omega, aw0 hz145 (by omega), by rw [hM1]; rfl, rfl⟩)⟩)))⟩⟩ hr dX10_plug_290
                          · refine R_aload_n C dX10_plug_228 rfl ?_
                            refine R_getA C cl11 fX10_63 (by decide) dX10_plug_229 ?_
                            refine R_iconst C dX10_plug_232 ?_
                            refine R_aload_n C dX10_plug_233 rfl ?_
                            refine R_getS C cl11 fX10_151 (x := M.1 30) ((congrFun g1 30).trans e30) (by decide) dX10_plug_234 ?_
                            refine R_imul C dX10_plug_237 ?_
                            refine R_iload C dX10_plug_238 rfl ?_
                            refine R_iadd C dX10_plug_240 ?_
                            refine R_aload_n C dX10_plug_241 rfl ?_
                            refine R_getA C cl11 fX10_60 (by decide) dX10_plug_242 ?_
                            refine R_iconst C dX10_plug_245 ?_
                            refine R_aload_n C dX10_plug_246 rfl ?_
                            refine R_getA C cl11 fX10_16 (by decide) dX10_plug_247 ?_
                            refine R_iload_n C dX10_plug_250 rfl ?_
                            refine R_iald C (j := s) (kf := 7) rfl (show s < 8 by omega) rfl (x := M.2 7 s) (((congrFun (g2 7 (by decide)) _)).trans (congrFun e7 _)) dX10_plug_251 ?_
                            refine R_imul C dX10_plug_252 ?_
                            refine R_iload C dX10_plug_253 rfl ?_
                            refine R_iadd C dX10_plug_255 ?_
                            refine R_iald C (j := ((4 * (M.2 7 s).toNat) + j)) (kf := 23) rfl (show ((4 * (M.2 7 s).toNat) + j) < 12 by omega) (by omega) (x := M.2 23 ((4 * (M.2 7 s).toNat) + j)) (((congrFun (g2 23 (by decide)) _)).trans (congrFun e23 _)) dX10_plug_256 ?_
                            refine R_iast C (j := ((4 * n) + j)) (kf := 24) rfl (show ((4 * n) + j) < 160 by omega) (by omega) dX10_plug_257 ?_
                            refine R_iinc C dX10_plug_258 (by decide) rfl rfl ?_
                            refine R_goto C dX10_plug_261 ?_
                            exact ih (j + 1) (by omega) (by omega)
                        · refine R_bipush C dX10_plug_151 (by decide) ?_
                          exact R_iret C ⟨_, rfl, Or.inr ⟨by omega, Or.inr (Or.inr (Or.inr (Or.inr ⟨by omega, show M.2 9 s = 0 by omega, show M.2 12 s = -1 by omega, show ¬ (M.2 20 k.toNat = 0 ∨ (M.2 10 s = 1 ∧ M.2 21 k.toNat = 0)) by omega, h, hh', Or.inr (Or.inl ⟨rfl, show ¬ (h ≠ -1 ∧ M.2 27 (1500 * s + h.toNat) ≠ k) by omega, aw1 hz145 (by omega), rfl⟩)⟩)))⟩⟩ hr dX10_plug_153
                      · refine R_bipush C dX10_plug_140 (by decide) ?_
                        exact R_iret C ⟨_, rfl, Or.inr ⟨by omega, Or.inr (Or.inr (Or.inr (Or.inr ⟨by omega, show M.2 9 s = 0 by omega, show M.2 12 s = -1 by omega, show ¬ (M.2 20 k.toNat = 0 ∨ (M.2 10 s = 1 ∧ M.2 21 k.toNat = 0)) by omega, h, hh', Or.inl ⟨rfl, by omega, show M.2 27 (1500 * s + h.toNat) ≠ k by omega, rfl⟩⟩)))⟩⟩ hr dX10_plug_142
                  · refine R_bipush C dX10_plug_107 (by decide) ?_
                    exact R_iret C ⟨_, rfl, Or.inr ⟨by omega, Or.inr (Or.inr (Or.inr (Or.inl ⟨by omega, rfl, show M.2 9 s = 0 by omega, show M.2 12 s = -1 by omega, show M.2 20 k.toNat = 0 ∨ (M.2 10 s = 1 ∧ M.2 21 k.toNat = 0) by omega, rfl⟩)))⟩⟩ hr dX10_plug_109
            · refine R_bipush C dX10_plug_77 (by decide) ?_
              exact R_iret C ⟨_, rfl, Or.inr ⟨by omega, Or.inr (Or.inr (Or.inl ⟨by omega, rfl, show M.2 9 s = 0 by omega, show M.2 12 s ≠ -1 by omega, rfl⟩))⟩⟩ hr dX10_plug_79
          · refine R_iconst C dX10_plug_65 ?_
            exact R_iret C ⟨_, rfl, Or.inr ⟨by omega, Or.inr (Or.inl ⟨by omega, rfl, show M.2 9 s = 1 by omega, rfl⟩)⟩⟩ hr dX10_plug_66
        · refine R_aload_n C dX10_plug_50 rfl ?_
          refine R_iconst C dX10_plug_51 ?_
          refine R_callVi C (As := [_]) (c_X10_stop hl) kX10_158 rfl rfl (Nat.le_of_ble_eq_true rfl) ⟨by decide, by decide⟩ ⟨Nat.le_refl _, Nat.le_refl _⟩ dX10_plug_52 ?_
          exact R_iret C ⟨0, rfl, Or.inr ⟨by omega, Or.inl ⟨by omega, rfl, rfl⟩⟩⟩ hr dX10_plug_55
      · refine R_aload_n C dX10_plug_35 rfl ?_
        refine R_iconst C dX10_plug_36 ?_
        refine R_callVi C (As := [_]) (c_X10_stop hl) kX10_158 rfl rfl (Nat.le_of_ble_eq_true rfl) ⟨by decide, by decide⟩ ⟨Nat.le_refl _, Nat.le_refl _⟩ dX10_plug_37 ?_
        exact R_iret C ⟨0, rfl, Or.inl ⟨by omega, rfl, rfl⟩⟩ hr dX10_plug_40
end REF12
