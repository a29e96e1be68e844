/-! the library's methods: growing, adding, removing, copies -/
/-- an object of a class that a list may hold -/
def oK (X : Mm) (v : Nat) : Prop := gK X v = 2 ∨ gK X v = 3 ∨ gK X v = 4 ∨ gK X v = 5 ∨ gK X v = 6 ∨ gK X v = 7
/-- the cells that lie, but those of P, are as they were -/
def Fr (X Y : Mm) (P : Nat → Prop) : Prop := ∀ q, gK X q ≠ 0 → ¬ P q → eqc X Y q
theorem gA_sAr (X : Mm) (a : Nat) (f : Nat → Int) (x : Nat) : gA (sAr X a f) x = if x = a then f else gA X x := rfl
theorem gO_sOr (X : Mm) (a : Nat) (f : Nat → Option Nat) (x : Nat) : gO (sOr X a f) x = if x = a then f else gO X x := rfl
section VO
variable {p : Program} {l : Launch} {e : Env} {R : Room} {s : State} {m : MethodId} {args : Array Value} {below : List Frame} {meth : Method} {c : Code}
variable {D : va_G} {kA : Nat → ClassId} {b t0 nL cells slots : Nat} {Q : State → Prop} {own nm : String} {cc : ByteArray} {X : Mm} {pc pc' tgt : Nat} {lv : List (Option Value)} {st : List Value}
theorem V_anyo (C : Cx p l s m args meth c D kA b t0 nL own nm cc) {v : Nat} (hv : oK X v) : ∀ H, wd D kA b X H → va_Any "java/lang/Object" s H v := by
  intro H hW
  rcases hv with h | h | h | h | h | h
  · exact V_any C cl1 o2 h hW
  · exact V_any C cl2 o2 h hW
  · exact V_any C cl3 o3 h hW
  · exact V_any C cl4 o4 h hW
  · exact V_any C cl5 o5 h hW
  · exact V_any C cl6 o6 h hW
end VO
section JDK2
variable {l : Launch} {D : va_G} {kA : Nat → ClassId} {b t0 : Nat} {X : Mm}

set_option maxRecDepth 20000 in
theorem c_J8_newLength_cabcc (hl : l.stackTraces = false) {x y z : Int} (hx : 0 ≤ x ∧ x ≤ 100000) (hy : 1 ≤ y ∧ y ≤ 100000) (hz : 0 ≤ z ∧ z ≤ 100000) : Ct l D kA b t0 yJ8_newLength_cabcc cJ8_newLength_cabcc 4 (some FieldType.int) 1 21 [iv x, iv y, iv z] X 0 0 (pD (some (iv (x + if y < z then z else y))) X) (pF) := by
  refine Ct_mk hl (by decide) (Nat.le_of_ble_eq_true rfl) rfl ?_
  intro p9 e9 s9 m9 args9 below9 meth9 c9 C hr hx0
  refine V_iload_n C dJ8_newLength_cabcc_0 rfl ?_
  refine V_iload_n C dJ8_newLength_cabcc_1 rfl ?_
  refine V_iload_n C dJ8_newLength_cabcc_2 rfl ?_
  refine V_mmax C (by omega) (by omega) kJ8_194 (Nat.le_of_ble_eq_true rfl) (Nat.le_of_ble_eq_true rfl) (by first | (dsimp only; omega) | exact Nat.le_of_ble_eq_true rfl) (by first | (dsimp only; omega) | exact Nat.le_of_ble_eq_true rfl) dJ8_newLength_cabcc_3 ?_
  refine V_iadd C dJ8_newLength_cabcc_6 ?_
  refine V_istore_n C dJ8_newLength_cabcc_7 (by decide) rfl ?_
  refine V_iconst C dJ8_newLength_cabcc_8 ?_
  refine V_iload_n C dJ8_newLength_cabcc_9 rfl ?_
  refine V_icmp_ge C dJ8_newLength_cabcc_10 (by decide) (by omega) (fun h10 => ?_) (fun h10 => ?_)
  · exfalso; split at * <;> omega
  · refine V_iload_n C dJ8_newLength_cabcc_13 rfl ?_
    refine V_ldc C dJ8_newLength_cabcc_14 qJ8_200 ?_
    refine V_icmp_gt C dJ8_newLength_cabcc_16 (by omega) (by decide) (fun h16 => ?_) (fun h16 => ?_)
    · exfalso; split at * <;> omega
    · refine V_iload_n C dJ8_newLength_cabcc_19 rfl ?_
      exact V_iret C (by omega) (by omega) ⟨rfl, rfl⟩ hr dJ8_newLength_cabcc_20
set_option maxRecDepth 20000 in
theorem c_J7_copyOf_59c91 (hl : l.stackTraces = false) {a N n : Nat} (hKa : gK X a = 20) (hN : gN X a = N) (hn : N < n) (hn9 : n ≤ 100000) : Ct l D kA b t0 yJ7_copyOf_59c91 cJ7_copyOf_59c91 3 (some (FieldType.array FieldType.int)) 1 48 [rv (some a), iv (n : Int)] X 1 n (fun v Y => ∃ q, gK X q = 0 ∧ b ≤ q ∧ v = some (rv (some q)) ∧ Y = sAr (alA X q 20 n) q (va_cpy (gA (alA X q 20 n) a) (gA (alA X q 20 n) q) 0 0 N)) (pF) := by
  refine Ct_mk hl (by decide) (Nat.le_of_ble_eq_true rfl) rfl ?_
  intro p9 e9 s9 m9 args9 below9 meth9 c9 C hr hx0
  refine V_iload_n C dJ7_copyOf_59c91_0 rfl ?_
  refine V_aload_n C dJ7_copyOf_59c91_1 rfl ?_
  refine V_alen C (by first | exact Or.inl hKa | exact Or.inl ((if_neg hqa).trans hKa)) (by first | exact hN | exact (if_neg hqa).trans hN) dJ7_copyOf_59c91_2 ?_
  refine V_icmp_ne C dJ7_copyOf_59c91_3 (by omega) (by omega) (fun h3 => ?_) (fun h3 => ?_)
  · refine V_iload_n C dJ7_copyOf_59c91_14 rfl ?_
    refine V_newI C (n := n) rfl (by omega) a_int (by show 0 + 1 ≤ 1; omega) (by show 0 + n ≤ n; omega) dJ7_copyOf_59c91_15 (fun q hq hbq => ?_)
    have hqa : a ≠ q := fun z => by rw [z] at hKa; omega
    refine V_astore_n C dJ7_copyOf_59c91_17 (by decide) rfl ?_
    refine V_aload_n C dJ7_copyOf_59c91_18 rfl ?_
    refine V_iconst C dJ7_copyOf_59c91_19 ?_
    refine V_aload_n C dJ7_copyOf_59c91_20 rfl ?_
    refine V_iconst C dJ7_copyOf_59c91_21 ?_
    refine V_aload_n C dJ7_copyOf_59c91_22 rfl ?_
    refine V_alen C (by first | exact Or.inl hKa | exact Or.inl ((if_neg hqa).trans hKa)) (by first | exact hN | exact (if_neg hqa).trans hN) dJ7_copyOf_59c91_23 ?_
    refine V_iload_n C dJ7_copyOf_59c91_24 rfl ?_
    refine V_mmin C (by omega) (by omega) kJ7_304 (Nat.le_of_ble_eq_true rfl) (Nat.le_of_ble_eq_true rfl) (by first | (dsimp only; omega) | exact Nat.le_of_ble_eq_true rfl) (by first | (dsimp only; omega) | exact Nat.le_of_ble_eq_true rfl) dJ7_copyOf_59c91_25 ?_
    refine V_copyI C (a0 := a) (a := q) (sp := 0) (dp := 0) (nn := N) (n0 := N) (n1 := n) (by split <;> omega) rfl rfl ((if_neg hqa).trans hKa) (if_pos rfl) ((if_neg hqa).trans hN) (if_pos rfl) (by omega) (by omega) (by omega) (by omega) ac1_150 ac2 ac3 ac4 (Nat.le_of_ble_eq_true rfl) (Nat.le_of_ble_eq_true rfl) dJ7_copyOf_59c91_28 ?_
    refine V_aload_n C dJ7_copyOf_59c91_31 rfl ?_
    exact V_aret C (by omega) (by omega) ⟨q, hq, hbq, rfl, rfl⟩ hr (Or.inr ⟨_, rfl⟩) dJ7_copyOf_59c91_32
  · exact absurd h3 (by omega)
end JDK2
