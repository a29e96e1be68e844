/-! the start -/
def X00 (t0 : Nat) : Mm := (fun a => if a = t0 then 24 else 0, fun _ _ => 0, fun _ _ => none, fun _ => 0, fun _ _ => 0, fun _ _ => none)
theorem NW_tbl : ∀ w ∈ NW, w ∈ lw_tbl := by
  show ∀ w ∈ ([.declares ⟨"java/lang/RuntimeException", "<init>", "()V"⟩, .declares ⟨"java/lang/RuntimeException", "<init>", "(Ljava/lang/String;)V"⟩, .declares ⟨"java/lang/Exception", "<init>", "()V"⟩, .declares ⟨"java/lang/Exception", "<init>", "(Ljava/lang/String;)V"⟩, .declares ⟨"java/lang/Throwable", "<init>", "()V"⟩, .declares ⟨"java/lang/Throwable", "<init>", "(Ljava/lang/String;)V"⟩, .declares ⟨"java/lang/Object", "getClass", "()Ljava/lang/Class;"⟩, .castable "java/lang/IndexOutOfBoundsException" "java/lang/IndexOutOfBoundsException", .castable "java/lang/IllegalArgumentException" "java/lang/IllegalArgumentException", .castable "java/lang/IllegalStateException" "java/lang/IllegalStateException", .castable "[I" "java/lang/Cloneable", .castable "ChargeYard" "java/lang/Object", .castable "java/util/ArrayList" "java/lang/Object", .castable "ChargeYard$Firm" "java/lang/Object", .castable "ChargeYard$Tariff" "java/lang/Object", .castable "java/lang/IllegalArgumentException" "java/lang/Object", .castable "java/lang/IllegalStateException" "java/lang/Object", .castable "ChargeYard$Car" "java/lang/Object", .castable "java/lang/IndexOutOfBoundsException" "java/lang/Object", .castable "ChargeYard$Card" "java/lang/Object", .castable "ChargeYard$Socket" "java/lang/Object", .castable "ChargeYard$Session" "java/lang/Object", .castable "ChargeYard$Values" "java/lang/Object", .castable "ChargeYard$Tally" "java/lang/Object", .castable "java/lang/Throwable" "java/lang/Object", .castable "java/lang/String" "java/lang/Object", .castable "[Ljava/lang/Object;" "java/lang/Object", .castable "[B" "java/lang/Object", .castable "[I" "java/lang/Object", .methodLinkNest "ChargeYard" 49 ⟨"ChargeYard$Firm", "<init>", "()V"⟩ "ChargeYard", .methodLinkNest "ChargeYard$Values" 24 ⟨"ChargeYard$Tally", "<init>", "()V"⟩ "ChargeYard"] : List Cond), w ∈ lw_tbl
  refine List.forall_mem_cons.mpr ⟨List.mem_of_getElem? (i := 236) (by decide +kernel), ?_⟩
  refine List.forall_mem_cons.mpr ⟨List.mem_of_getElem? (i := 237) (by decide +kernel), ?_⟩
  refine List.forall_mem_cons.mpr ⟨List.mem_of_getElem? (i := 238) (by decide +kernel), ?_⟩
  refine List.forall_mem_cons.mpr ⟨List.mem_of_getElem? (i := 239) (by decide +kernel), ?_⟩
  refine List.forall_mem_cons.mpr ⟨List.mem_of_getElem? (i := 240) (by decide +kernel), ?_⟩
  refine List.forall_mem_cons.mpr ⟨List.mem_of_getElem? (i := 241) (by decide +kernel), ?_⟩
  refine List.forall_mem_cons.mpr ⟨List.mem_of_getElem? (i := 870) (by decide +kernel), ?_⟩
  refine List.forall_mem_cons.mpr ⟨List.mem_of_getElem? (i := 235) (by decide +kernel), ?_⟩
  refine List.forall_mem_cons.mpr ⟨List.mem_of_getElem? (i := 321) (by decide +kernel), ?_⟩
  refine List.forall_mem_cons.mpr ⟨List.mem_of_getElem? (i := 340) (by decide +kernel), ?_⟩
  refine List.forall_mem_cons.mpr ⟨List.mem_of_getElem? (i := 779) (by decide +kernel), ?_⟩
  refine List.forall_mem_cons.mpr ⟨List.mem_of_getElem? (i := 853) (by decide +kernel), ?_⟩
  refine List.forall_mem_cons.mpr ⟨List.mem_of_getElem? (i := 854) (by decide +kernel), ?_⟩
  refine List.forall_mem_cons.mpr ⟨List.mem_of_getElem? (i := 855) (by decide +kernel), ?_⟩
  refine List.forall_mem_cons.mpr ⟨List.mem_of_getElem? (i := 856) (by decide +kernel), ?_⟩
  refine List.forall_mem_cons.mpr ⟨List.mem_of_getElem? (i := 857) (by decide +kernel), ?_⟩
  refine List.forall_mem_cons.mpr ⟨List.mem_of_getElem? (i := 858) (by decide +kernel), ?_⟩
  refine List.forall_mem_cons.mpr ⟨List.mem_of_getElem? (i := 859) (by decide +kernel), ?_⟩
  refine List.forall_mem_cons.mpr ⟨List.mem_of_getElem? (i := 860) (by decide +kernel), ?_⟩
  refine List.forall_mem_cons.mpr ⟨List.mem_of_getElem? (i := 861) (by decide +kernel), ?_⟩
  refine List.forall_mem_cons.mpr ⟨List.mem_of_getElem? (i := 862) (by decide +kernel), ?_⟩
  refine List.forall_mem_cons.mpr ⟨List.mem_of_getElem? (i := 863) (by decide +kernel), ?_⟩
  refine List.forall_mem_cons.mpr ⟨List.mem_of_getElem? (i := 864) (by decide +kernel), ?_⟩
  refine List.forall_mem_cons.mpr ⟨List.mem_of_getElem? (i := 865) (by decide +kernel), ?_⟩
  refine List.forall_mem_cons.mpr ⟨List.mem_of_getElem? (i := 866) (by decide +kernel), ?_⟩
  refine List.forall_mem_cons.mpr ⟨List.mem_of_getElem? (i := 867) (by decide +kernel), ?_⟩
  refine List.forall_mem_cons.mpr ⟨List.mem_of_getElem? (i := 871) (by decide +kernel), ?_⟩
  refine List.forall_mem_cons.mpr ⟨List.mem_of_getElem? (i := 872) (by decide +kernel), ?_⟩
  refine List.forall_mem_cons.mpr ⟨List.mem_of_getElem? (i := 873) (by decide +kernel), ?_⟩
  refine List.forall_mem_cons.mpr ⟨List.mem_of_getElem? (i := 90) (by decide +kernel), ?_⟩
  refine List.forall_mem_cons.mpr ⟨List.mem_of_getElem? (i := 592) (by decide +kernel), ?_⟩
  intro w hw
  cases hw
section START
variable {s : State} {sb : Nat}
theorem st_K (hts : ∀ w ∈ lw_tbl, w.before #[Value.ref sb] s = true) : ∃ (D : va_G) (kA : Nat → ClassId), va_K D vwCl (tysA kA) s := by
  have wt : ∀ w ∈ TBL, w.before #[Value.ref sb] s = true := fun w hw => hts w (TBL_sub hw)
  obtain ⟨c0, i0, h0⟩ := u_known (n := 3) wt cl0.2.2.2.2.2.1 (hts (.instantiable RJx4a65c 3) (List.mem_of_getElem? (i := 63) (by decide +kernel)))
  obtain ⟨c1, i1, h1⟩ := u_known (n := 5) wt cl1.2.2.2.2.2.1 (hts (.instantiable RX1 5) (List.mem_of_getElem? (i := 405) (by decide +kernel)))
  obtain ⟨c2, i2, h2⟩ := u_known (n := 5) wt cl2.2.2.2.2.2.1 (hts (.instantiable RX1 5) (List.mem_of_getElem? (i := 405) (by decide +kernel)))
  obtain ⟨c3, i3, h3⟩ := u_known (n := 5) wt cl3.2.2.2.2.2.1 (hts (.instantiable RX2 5) (List.mem_of_getElem? (i := 434) (by decide +kernel)))
  obtain ⟨c4, i4, h4⟩ := u_known (n := 2) wt cl4.2.2.2.2.2.1 (hts (.instantiable RX3 2) (List.mem_of_getElem? (i := 89) (by decide +kernel)))
  obtain ⟨c5, i5, h5⟩ := u_known (n := 14) wt cl5.2.2.2.2.2.1 (hts (.instantiable RX4 14) (List.mem_of_getElem? (i := 580) (by decide +kernel)))
  obtain ⟨c6, i6, h6⟩ := u_known (n := 8) wt cl6.2.2.2.2.2.1 (hts (.instantiable RX5 8) (List.mem_of_getElem? (i := 355) (by decide +kernel)))
  obtain ⟨c7, i7, h7⟩ := u_known (n := 4) wt cl7.2.2.2.2.2.1 (hts (.instantiable RX6 4) (List.mem_of_getElem? (i := 591) (by decide +kernel)))
  obtain ⟨c8, i8, h8⟩ := u_known (n := 4) wt cl8.2.2.2.2.2.1 (hts (.instantiable RX7 4) (List.mem_of_getElem? (i := 95) (by decide +kernel)))
  obtain ⟨c9, i9, h9⟩ := u_known (n := 5) wt cl9.2.2.2.2.2.1 (hts (.instantiable RX8 5) (List.mem_of_getElem? (i := 513) (by decide +kernel)))
  obtain ⟨c10, i10, h10⟩ := u_known (n := 11) wt cl10.2.2.2.2.2.1 (hts (.instantiable RX9 11) (List.mem_of_getElem? (i := 55) (by decide +kernel)))
  obtain ⟨a0, k0, m0, f0, g0, t0⟩ := Cond.arrayClass_spec (args := #[Value.ref sb]) (first := s) (o := none) (s := s) (idx := []) (type := .int) (wt _ a_int)
  obtain ⟨a1, k1, m1, f1, g1, t1⟩ := Cond.arrayClass_spec (args := #[Value.ref sb]) (first := s) (o := none) (s := s) (idx := []) (type := .int) (wt _ a_int)
  obtain ⟨a2, k2, m2, f2, g2, t2⟩ := Cond.arrayClass_spec (args := #[Value.ref sb]) (first := s) (o := none) (s := s) (idx := []) (type := .int) (wt _ a_int)
  obtain ⟨m3, a3, k3, f3, -, g3, t3, n3⟩ := Cond.arrayOver_spec (args := #[Value.ref sb]) (first := s) (o := none) (s := s) (idx := []) (n := "java/lang/Object") (hts (.arrayOver (.object "java/lang/Object")) (List.mem_of_getElem? (i := 177) (by decide +kernel)))
  refine ⟨(fun k => [c0, c1, c2, c3, c4, c5, c6, c7, c8, c9, c10].getD k c0, fun k => [i0, i1, i2, i3, i4, i5, i6, i7, i8, i9, i10].getD k i0), fun k => [a0, a1, a2, a3].getD k a0, fun k q hq => ?_, fun k q hq => ?_⟩
  · match k, hq with
    | 0, hq => cases hq; exact h0
    | 1, hq => cases hq; exact h1
    | 2, hq => cases hq; exact h2
    | 3, hq => cases hq; exact h3
    | 4, hq => cases hq; exact h4
    | 5, hq => cases hq; exact h5
    | 6, hq => cases hq; exact h6
    | 7, hq => cases hq; exact h7
    | 8, hq => cases hq; exact h8
    | 9, hq => cases hq; exact h9
    | 10, hq => cases hq; exact h10
    | k + 11, hq => simp at hq
  · match k, hq with
    | 0, hq => cases hq; exact ⟨fun n z => ⟨fun _ h => (by cases h), k0, g0, m0, t0⟩, f0⟩
    | 1, hq => cases hq; exact ⟨fun n z => ⟨fun _ h => (by cases h), k1, g1, m1, t1⟩, f1⟩
    | 2, hq => cases hq; exact ⟨fun n z => ⟨fun _ h => (by cases h), k2, g2, m2, t2⟩, f2⟩
    | 3, hq => cases hq; exact ⟨fun n z => ⟨fun _ h => (by cases h), k3, g3, m3, t3⟩, k3, m3, g3, t3, f3, n3⟩
    | k + 4, hq => simp [tysA] at hq
theorem st_FX (hts : ∀ w ∈ lw_tbl, w.before #[Value.ref sb] s = true) (hgv : (Jvm.Cond.and given_1 narrow_1).before #[Value.ref sb] s = true) : ∃ (t0 : Nat) (cell : Cell), FX s.heap.size t0 s s.heap ∧ s.heap[t0]? = some cell ∧ s.vm.findClass "[Ljava/lang/Object;" = some cell.cls ∧ (∀ k, cell.vm ≠ .statics k) ∧ cell.vm ≠ .unknown ∧ cell.slots.size.toInt32 = Int32.ofNat 0 := by
  have hs := flat_of_before _ hgv
  have hA : ∀ a : Nat, a < s.heap.size → ¬ Ab s.heap.size a := fun a h1 h2 => absurd h1 (Nat.not_lt.mpr h2)
  obtain ⟨t0, cc, cell, k, q1, q2, q3, q4, q5, q6, -⟩ := Cond.exactly_spec (args := #[Value.ref sb]) (first := s) (o := none) (s := s) (idx := []) (t := (.static "java/util/ArrayList" "DEFAULTCAPACITY_EMPTY_ELEMENTDATA" "[Ljava/lang/Object;")) (cls := "[Ljava/lang/Object;") (hs (.exactly (.static "java/util/ArrayList" "DEFAULTCAPACITY_EMPTY_ELEMENTDATA" "[Ljava/lang/Object;") "[Ljava/lang/Object;") (by decide +kernel))
  obtain ⟨hof, hunk⟩ := Cond.arrayOf_spec (args := #[Value.ref sb]) (first := s) (o := none) (s := s) (idx := []) (t := (.static "java/util/ArrayList" "DEFAULTCAPACITY_EMPTY_ELEMENTDATA" "[Ljava/lang/Object;")) (ty := .object "java/lang/Object") (hs (.arrayOf (.static "java/util/ArrayList" "DEFAULTCAPACITY_EMPTY_ELEMENTDATA" "[Ljava/lang/Object;") (.object "java/lang/Object")) (by decide +kernel)) q1 q3
  have hlen := va_eqt (hs (.eq (.length (.static "java/util/ArrayList" "DEFAULTCAPACITY_EMPTY_ELEMENTDATA" "[Ljava/lang/Object;")) (.int 0)) (by decide +kernel))
  obtain ⟨t1, cell1, e1, e2, e3⟩ := Term.length_spec hlen
  cases q1.symm.trans e1
  cases q3.symm.trans (State.arrayAt?_spec e2).1
  subst q6
  refine ⟨t0, cell, ⟨⟨vx_Zqof (hts (.laysStatic Bundle.tN "UNASSIGNED_STACK" Bundle.steD) (List.mem_of_getElem? (i := 260) (by decide +kernel))) (hts (.initialized Bundle.tN) (List.mem_of_getElem? (i := 40) (by decide +kernel))) (hs (.isRef (.static Bundle.tN "UNASSIGNED_STACK" Bundle.steD)) (by decide +kernel)) hA, vx_Zqof (hts (.laysStatic Bundle.tN "SUPPRESSED_SENTINEL" Bundle.listD) (List.mem_of_getElem? (i := 262) (by decide +kernel))) (hts (.initialized Bundle.tN) (List.mem_of_getElem? (i := 40) (by decide +kernel))) (hs (.isRef (.static Bundle.tN "SUPPRESSED_SENTINEL" Bundle.listD)) (by decide +kernel)) hA, va_Zof (hts (.laysStatic "java/util/ArrayList" "DEFAULTCAPACITY_EMPTY_ELEMENTDATA" "[Ljava/lang/Object;") (List.mem_of_getElem? (i := 75) (by decide +kernel))) (hts (.initialized "java/util/ArrayList") (List.mem_of_getElem? (i := 33) (by decide +kernel))) q1 hA⟩, va_Mi.of (hs (.isRef (.mirror "[Ljava/lang/Object;")) (by decide +kernel)), va_Dc.of (hts (.declares ⟨"java/lang/Object", "getClass", "()Ljava/lang/Class;"⟩) (List.mem_of_getElem? (i := 870) (by decide +kernel))), ?_, trivial, trivial, trivial, fun w hw => va_Nw.of (NW_on w hw) (hts w (NW_tbl w hw)), va_AO.of (hts (.arrayOver (.object "java/lang/Object")) (List.mem_of_getElem? (i := 177) (by decide +kernel)))⟩, q3, q2, hof.1, hunk, (Value.int.inj e3).symm⟩
  have one : ∀ (k : Nat) (tx : String), (Cond.stringRef "ChargeYard" k tx).before #[Value.ref sb] s = true → (Cond.exactly (.string "ChargeYard" k) "java/lang/String").before #[Value.ref sb] s = true → ∃ sa, vk_R "ChargeYard" k tx sa s := fun k tx h1 h2 => by
    obtain ⟨a, c, cell, k9, p1, -⟩ := Cond.exactly_spec (args := #[Value.ref sb]) (first := s) (o := none) (s := s) (idx := []) (t := .string "ChargeYard" k) (cls := "java/lang/String") h2
    exact ⟨a, vk_R.of h1 p1⟩
  unfold strC
  refine List.forall_mem_cons.mpr ⟨one 280 "no such firm" (hts _ (List.mem_of_getElem? (i := 274) (by decide +kernel))) (hs (.exactly (.string "ChargeYard" 280) "java/lang/String") (by decide +kernel)), ?_⟩
  refine List.forall_mem_cons.mpr ⟨one 295 "an argument is out of its range" (hts _ (List.mem_of_getElem? (i := 328) (by decide +kernel))) (hs (.exactly (.string "ChargeYard" 295) "java/lang/String") (by decide +kernel)), ?_⟩
  refine List.forall_mem_cons.mpr ⟨one 297 "there are as many as there may be" (hts _ (List.mem_of_getElem? (i := 347) (by decide +kernel))) (hs (.exactly (.string "ChargeYard" 297) "java/lang/String") (by decide +kernel)), ?_⟩
  refine List.forall_mem_cons.mpr ⟨one 291 "no such card" (hts _ (List.mem_of_getElem? (i := 469) (by decide +kernel))) (hs (.exactly (.string "ChargeYard" 291) "java/lang/String") (by decide +kernel)), ?_⟩
  refine List.forall_mem_cons.mpr ⟨one 287 "no such socket" (hts _ (List.mem_of_getElem? (i := 496) (by decide +kernel))) (hs (.exactly (.string "ChargeYard" 287) "java/lang/String") (by decide +kernel)), ?_⟩
  refine List.forall_mem_cons.mpr ⟨one 289 "no such car" (hts _ (List.mem_of_getElem? (i := 562) (by decide +kernel))) (hs (.exactly (.string "ChargeYard" 289) "java/lang/String") (by decide +kernel)), ?_⟩
  refine List.forall_mem_cons.mpr ⟨one 293 "no such session" (hts _ (List.mem_of_getElem? (i := 709) (by decide +kernel))) (hs (.exactly (.string "ChargeYard" 293) "java/lang/String") (by decide +kernel)), ?_⟩
  refine List.forall_mem_cons.mpr ⟨one 177 "it is unplugged" (hts _ (List.mem_of_getElem? (i := 710) (by decide +kernel))) (hs (.exactly (.string "ChargeYard" 177) "java/lang/String") (by decide +kernel)), ?_⟩
  refine List.forall_mem_cons.mpr ⟨one 212 "there are no minutes above 20000" (hts _ (List.mem_of_getElem? (i := 719) (by decide +kernel))) (hs (.exactly (.string "ChargeYard" 212) "java/lang/String") (by decide +kernel)), ?_⟩
  refine List.forall_mem_cons.mpr ⟨one 231 "what is out of its range" (hts _ (List.mem_of_getElem? (i := 798) (by decide +kernel))) (hs (.exactly (.string "ChargeYard" 231) "java/lang/String") (by decide +kernel)), ?_⟩
  intro q hq
  cases hq
theorem st_wd {D : va_G} {kA : Nat → ClassId} {t0 : Nat} {cell : Cell} (h0 : s.heap[t0]? = some cell) (h1 : cell.cls = kA 3) (h2 : ∀ k, cell.vm ≠ .statics k) (h3 : cell.vm ≠ .unknown) (h4 : cell.slots.size.toInt32 = Int32.ofNat 0) : wd D kA s.heap.size (X00 t0) s.heap := by
  intro a E hE
  by_cases e : a = t0
  · subst e
    have hk : gK (X00 a) a = 24 := if_pos rfl
    have hE2 := (cE_23 (kA := kA) (X := X00 a) (a := a) (Or.inr hk)).symm.trans hE
    cases hE2
    exact ⟨fun h => absurd hk h, fun _ => ⟨cell, h0, h1, h2, h3, fun x hx => by cases hx; exact h4⟩, ⟨fun _ => (Array.getElem?_eq_some_iff.mp h0).1, fun _ => hk⟩⟩
  · have hk : gK (X00 t0) a = 0 := if_neg e
    unfold cE at hE
    rw [if_pos hk] at hE
    cases hE
end START
