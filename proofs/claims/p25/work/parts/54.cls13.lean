/-! the class: what goes first -/
theorem sI_sIf2 (X : Mm) (f h : Nat) (F G : Nat → Int) (q : Nat) (v : Int) (e : f ≠ h) : sI (sIf (sIf X f F) h G) f q v = sIf (sIf X f (fun x => if x = q then v else F x)) h G := by
  have e1 : u2 (gI (sIf (sIf X f F) h G)) f q v = fun k x => if k = h then G x else if k = f then (if x = q then v else F x) else gI X k x := by
    funext k x
    unfold u2
    show (if k = f ∧ x = q then v else if k = h then G x else if k = f then F x else gI X k x) = _
    by_cases e1 : k = f
    · subst e1
      by_cases e2 : x = q
      · simp [e2, e]
      · simp [e2]
    · simp [e1]
  unfold sI
  rw [e1]
  rfl
theorem sIf_sIf (X : Mm) (f : Nat) (F G : Nat → Int) : sIf (sIf X f F) f G = sIf X f G := by
  have e1 : (fun k x => if k = f then G x else gI (sIf X f F) k x) = fun k x => if k = f then G x else gI X k x := by
    funext k x
    by_cases e1 : k = f
    · simp [e1]
    · show (if k = f then G x else if k = f then F x else gI X k x) = _
      simp [e1]
  show ((gK X, (fun k x => if k = f then G x else gI (sIf X f F) k x), gP X, gN X, gA X, gO X) : Mm) = _
  rw [e1]
  rfl
/-- anew at those of a list -/
def upF (v : Nat → Int) (rs : List Nat) : Nat → (Nat → Int) → Nat → Int
  | 0, g => g
  | n + 1, g => fun x => if x = rs.getD n 0 then v (rs.getD n 0) else upF v rs n g x
theorem upF_at (v : Nat → Int) (rs : List Nat) (g : Nat → Int) : ∀ n, n ≤ rs.length → ∀ j q, j < n → rs[j]? = some q → upF v rs n g q = v q := by
  intro n
  induction n with
  | zero => intro _ j q hj; exact absurd hj (Nat.not_lt_zero j)
  | succ n ih =>
    intro hn j q hj hq
    show (if q = rs.getD n 0 then v (rs.getD n 0) else upF v rs n g q) = v q
    by_cases e : q = rs.getD n 0
    · rw [if_pos e, ← e]
    · rw [if_neg e]
      refine ih (by omega) j q ?_ hq
      refine Nat.lt_of_le_of_ne (by omega) (fun z => e ?_)
      subst z
      rw [List.getD_eq_getElem?_getD, hq]
      rfl
theorem upF_all {v : Nat → Int} {rs : List Nat} {g : Nat → Int} {q : Nat} (h : q ∈ rs) : upF v rs rs.length g q = v q := by
  obtain ⟨j, hj⟩ := List.mem_iff_getElem?.mp h
  exact upF_at v rs g rs.length (Nat.le_refl _) j q (List.getElem?_eq_some_iff.mp hj).1 hj
def lfF (v : Nat → Int) (rs : List Nat) : Nat → Int → Int
  | 0, s => s
  | n + 1, s => lfF v rs n s - v (rs.getD n 0)
theorem lfF_in (v : Nat → Int) (rs : List Nat) (s : Int) (hv : ∀ q ∈ rs, 0 ≤ v q ∧ v q ≤ 50000) : ∀ n : Nat, n ≤ rs.length → s - 50000 * (n : Int) ≤ lfF v rs n s ∧ lfF v rs n s ≤ s := by
  intro n
  induction n with
  | zero => exact fun _ => ⟨by show s - 50000 * ((0 : Nat) : Int) ≤ s; omega, Int.le_refl _⟩
  | succ n ih =>
    intro hn
    have h1 := ih (by omega)
    have e : rs[n]? = some (rs[n]'(by omega)) := List.getElem?_eq_getElem (by omega)
    have h2 := hv (rs.getD n 0) (by rw [List.getD_eq_getElem?_getD, e]; exact List.getElem_mem _)
    show s - 50000 * ((n + 1 : Nat) : Int) ≤ lfF v rs n s - v (rs.getD n 0) ∧ lfF v rs n s - v (rs.getD n 0) ≤ s
    omega
def mwV (n ds bg lh : Int) : Int := if n - ds < 5 ∧ bg = 0 then lh else 1400
def bdV (fa mx w : Int) : Int := if fa = 1 then 0 else if mx < w then mx else w
def sfI (X : Mm) (rs : List Nat) (S K : Nat → Nat) (U BD FL : Nat → Int) (dg n : Int) : Prop := ∀ q ∈ rs, gK X q = 6 ∧ gP X 320 q = some (S q) ∧ gK X (S q) = 7 ∧ gI X 388 (S q) = U q ∧ (U q = 0 ∨ U q = 1) ∧ gP X 321 q = some (K q) ∧ gK X (K q) = 3 ∧ (gI X 387 (S q) = 0 ∨ gI X 387 (S q) = 1) ∧ (0 ≤ gI X 386 (S q) ∧ gI X 386 (S q) ≤ 50000) ∧ (0 ≤ gI X 131 (K q) ∧ gI X 131 (K q) ≤ gI X 129 (K q)) ∧ gI X 129 (K q) ≤ 6000000 ∧ (0 ≤ gI X 130 (K q) ∧ gI X 130 (K q) ≤ 50000) ∧ (0 ≤ gI X 389 (S q) ∧ gI X 389 (S q) ≤ 20000) ∧ (gI X 328 q = 0 ∨ gI X 328 q = 1) ∧ (0 ≤ gI X 327 q ∧ gI X 327 q ≤ 50000) ∧ BD q = bdV (gI X 387 (S q)) (gI X 386 (S q)) (wantV (gI X 131 (K q)) (gI X 129 (K q)) (gI X 130 (K q)) dg) ∧ (0 ≤ BD q ∧ BD q ≤ 50000) ∧ FL q = (if U q = 1 then 0 else if mwV n (gI X 389 (S q)) (gI X 328 q) (gI X 327 q) < BD q then mwV n (gI X 389 (S q)) (gI X 328 q) (gI X 327 q) else BD q) ∧ (0 ≤ FL q ∧ FL q ≤ 50000)
section CLS13
variable {l : Launch} {D : va_G} {kA : Nat → ClassId} {b t0 : Nat} {X : Mm}
set_option maxHeartbeats 2000000 in
set_option maxRecDepth 20000 in
theorem c_X9_serveFirst (hl : l.stackTraces = false) {y a d c : Nat} {rs : List Nat} {S K Kc : Nat → Nat} {U BD FL RK : Nat → Int} {lm sn dg n : Int} (hKy : gK X y = 11) (ha : gP X 645 y = some a) (h : LI t0 X a rs d c) (hr8 : rs.length ≤ 8) (hlm : gI X 647 y = lm) (hsn : gI X 648 y = sn) (hdg : gI X 649 y = dg) (hn : gI X 646 y = n) (hlm9 : 0 ≤ lm ∧ lm ≤ 200000) (hsn9 : 0 ≤ sn ∧ sn ≤ 100000) (hdg9 : -50 ≤ dg ∧ dg ≤ 50) (hn9 : 0 ≤ n ∧ n ≤ 20000) (hsf : sfI X rs S K U BD FL dg n) (hrk : ruK X rs Kc RK) : Ct l D kA b t0 yX9_serveFirst cX9_serveFirst 4 (some FieldType.int) 4 92 [rv (some y)] X 0 0 (fun v Y => ∃ F G : Nat → Int, (∀ q ∈ rs, F q = BD q) ∧ (∀ q ∈ rs, G q = FL q) ∧ v = some (iv (svR U BD RK 0 rs 4 (svR U BD RK 1 rs 4 (lfF FL rs rs.length (lm + sn), G))).1) ∧ Y = sIf (sIf X 332 F) 333 (svR U BD RK 0 rs 4 (svR U BD RK 1 rs 4 (lfF FL rs rs.length (lm + sn), G))).2) (pF) := by
  refine Ct_mk hl (by decide) (Nat.le_of_ble_eq_true rfl) rfl ?_
  intro p9 e9 s9 m9 args9 below9 meth9 c9 C hr hx0
  have hle : rs.length ≤ 8 := hr8
  have hFL : ∀ q ∈ rs, 0 ≤ FL q ∧ FL q ≤ 50000 := fun q hq => (hsf q hq).2.2.2.2.2.2.2.2.2.2.2.2.2.2.2.2.2.2
  refine V_aload_n C dX9_serveFirst_0 rfl ?_
  refine V_getIx C cl10 fX9_35 (x := lm) hKy hlm dX9_serveFirst_1 ?_
  refine V_aload_n C dX9_serveFirst_4 rfl ?_
  refine V_getIx C cl10 fX9_38 (x := sn) hKy hsn dX9_serveFirst_5 ?_
  refine V_iadd C dX9_serveFirst_8 ?_
  refine V_istore_n C dX9_serveFirst_9 (by decide) rfl ?_
  refine V_iconst C dX9_serveFirst_10 ?_
  refine V_istore_n C dX9_serveFirst_11 (by decide) rfl ?_
  refine V_while C (St := Nat × Option Value) (f := fun z => sIf (sIf X 332 (upF BD rs z.1 (gI X 332))) 333 (upF FL rs z.1 (gI X 333))) (g := fun z => [some (rv (some y)), some (iv (lfF FL rs z.1 (lm + sn))), some (iv (z.1 : Int)), z.2]) (cs := fun _ => 0) (ss := fun _ => 0) (μ := fun z => rs.length + 1 - z.1) (I := fun z => z.1 ≤ rs.length) (x0 := (0, none)) (by show sIf (sIf X 332 (gI X 332)) 333 (gI X 333) = X; rw [sIf_self, sIf_self]) rfl rfl rfl (Nat.zero_le _) ?_
  rintro ⟨i, u3⟩ hi ih
  dsimp only at hi ih ⊢
  have hin := lfF_in FL rs (lm + sn) hFL i hi
  refine V_iload_n C dX9_serveFirst_12 rfl ?_
  refine V_aload_n C dX9_serveFirst_13 rfl ?_
  refine V_getP C cl10 fX9_28 (r := some a) hKy ha dX9_serveFirst_14 ?_
  refine V_callV1 C (As := []) (L_size hl (LI.same (Y := (sIf (sIf X 332 (upF BD rs i (gI X 332))) 333 (upF FL rs i (gI X 333)))) h rfl rfl rfl rfl rfl)) kX9_63 h.1 rfl rfl (Nat.le_of_ble_eq_true rfl) ⟨Nat.le_of_ble_eq_true rfl, Nat.le_of_ble_eq_true rfl⟩ ⟨Nat.le_of_ble_eq_true rfl, Nat.le_of_ble_eq_true rfl⟩ dX9_serveFirst_17 ?_
  refine V_icmp_ge C dX9_serveFirst_20 (by omega) (by omega) (fun h20 => ?_) (fun h20 => ?_)
  · obtain rfl : i = rs.length := by omega
    have hru1 : ruI (sIf (sIf X 332 (upF BD rs rs.length (gI X 332))) 333 (upF FL rs rs.length (gI X 333))) rs S U BD := fun q hq => by
      obtain ⟨q1, q2, q3, q4, q5, q6, q7, q8, q9, q10, q11, q12, q13, q14, q15, q16, q17, q18, q19⟩ := hsf q hq
      exact ⟨q1, q2, q3, q4, q5, upF_all hq, q17⟩
    have hrk1 : ruK (sIf (sIf X 332 (upF BD rs rs.length (gI X 332))) 333 (upF FL rs rs.length (gI X 333))) rs Kc RK := hrk
    have hs1 := svR_in U BD RK 1 rs (fun q hq => (hsf q hq).2.2.2.2.2.2.2.2.2.2.2.2.2.2.2.2.1) ((lfF FL rs rs.length (lm + sn)), (upF FL rs rs.length (gI X 333))) 4
    have hs2 := svR_in U BD RK 0 rs (fun q hq => (hsf q hq).2.2.2.2.2.2.2.2.2.2.2.2.2.2.2.2.1) (svR U BD RK 1 rs 4 ((lfF FL rs rs.length (lm + sn)), (upF FL rs rs.length (gI X 333)))) 4
    dsimp only at hs1
    have hs1b : -2000000 ≤ (svR U BD RK 1 rs 4 ((lfF FL rs rs.length (lm + sn)), (upF FL rs rs.length (gI X 333)))).1 ∧ (svR U BD RK 1 rs 4 ((lfF FL rs rs.length (lm + sn)), (upF FL rs rs.length (gI X 333)))).1 ≤ 300000 := by omega
    have hru2 : ruI (sIf (sIf (sIf X 332 (upF BD rs rs.length (gI X 332))) 333 (upF FL rs rs.length (gI X 333))) 333 (svR U BD RK 1 rs 4 ((lfF FL rs rs.length (lm + sn)), (upF FL rs rs.length (gI X 333)))).2) rs S U BD := hru1
    refine V_aload_n C dX9_serveFirst_93 rfl ?_
    refine V_iload_n C dX9_serveFirst_94 rfl ?_
    refine V_iconst C dX9_serveFirst_95 ?_
    refine V_callV1 C (As := [_, _]) (c_X9_serveRanks hl (X := (sIf (sIf X 332 (upF BD rs rs.length (gI X 332))) 333 (upF FL rs rs.length (gI X 333)))) (g := 1) hKy ha (LI.same (Y := (sIf (sIf X 332 (upF BD rs rs.length (gI X 332))) 333 (upF FL rs rs.length (gI X 333)))) h rfl rfl rfl rfl rfl) hru1 hrk1 (by omega) (Or.inr rfl)) kX9_361 hKy rfl rfl (Nat.le_of_ble_eq_true rfl) ⟨Nat.le_of_ble_eq_true rfl, Nat.le_of_ble_eq_true rfl⟩ ⟨Nat.le_of_ble_eq_true rfl, Nat.le_of_ble_eq_true rfl⟩ dX9_serveFirst_96 ?_
    refine V_istore_n C dX9_serveFirst_99 (by decide) rfl ?_
    refine V_aload_n C dX9_serveFirst_100 rfl ?_
    refine V_iload_n C dX9_serveFirst_101 rfl ?_
    refine V_iconst C dX9_serveFirst_102 ?_
    refine V_callV1 C (As := [_, _]) (c_X9_serveRanks hl (X := sIf (sIf (sIf X 332 (upF BD rs rs.length (gI X 332))) 333 (upF FL rs rs.length (gI X 333))) 333 (svR U BD RK 1 rs 4 ((lfF FL rs rs.length (lm + sn)), (upF FL rs rs.length (gI X 333)))).2) (g := 0) hKy ha (LI.same (Y := sIf (sIf (sIf X 332 (upF BD rs rs.length (gI X 332))) 333 (upF FL rs rs.length (gI X 333))) 333 (svR U BD RK 1 rs 4 ((lfF FL rs rs.length (lm + sn)), (upF FL rs rs.length (gI X 333)))).2) h rfl rfl rfl rfl rfl) hru2 hrk1 hs1b (Or.inl rfl)) kX9_361 hKy rfl rfl (Nat.le_of_ble_eq_true rfl) ⟨Nat.le_of_ble_eq_true rfl, Nat.le_of_ble_eq_true rfl⟩ ⟨Nat.le_of_ble_eq_true rfl, Nat.le_of_ble_eq_true rfl⟩ dX9_serveFirst_103 ?_
    exact V_iret C (by omega) (by omega) ⟨upF BD rs rs.length (gI X 332), (upF FL rs rs.length (gI X 333)), fun q hq => upF_all hq, fun q hq => upF_all hq, rfl, by rw [sIf_sIf, sIf_sIf]; rfl⟩ hr dX9_serveFirst_106
  · obtain ⟨q, hq⟩ : ∃ q, rs[i]? = some q := ⟨rs[i]'(by omega), List.getElem?_eq_getElem (by omega)⟩
    obtain ⟨q1, q2, q3, q4, q5, q6, q7, q8, q9, q10, q11, q12, q13, q14, q15, q16, q17, q18, q19⟩ := hsf q (List.mem_of_getElem? hq)
    have eq : rs.getD i 0 = q := by rw [List.getD_eq_getElem?_getD, hq]; rfl
    have hmw : 0 ≤ mwV n (gI X 389 (S q)) (gI X 328 q) (gI X 327 q) ∧ mwV n (gI X 389 (S q)) (gI X 328 q) (gI X 327 q) ≤ 50000 := by unfold mwV; split <;> omega
    refine V_aload_n C dX9_serveFirst_23 rfl ?_
    refine V_getP C cl10 fX9_28 (r := some a) hKy ha dX9_serveFirst_24 ?_
    refine V_iload_n C dX9_serveFirst_27 rfl ?_
    refine V_callV1 C (As := [_]) (L_get hl (LI.same (Y := (sIf (sIf X 332 (upF BD rs i (gI X 332))) 333 (upF FL rs i (gI X 333)))) h rfl rfl rfl rfl rfl) hq rfl) kX9_283 h.1 rfl rfl (Nat.le_of_ble_eq_true rfl) ⟨Nat.le_of_ble_eq_true rfl, Nat.le_of_ble_eq_true rfl⟩ ⟨Nat.le_of_ble_eq_true rfl, Nat.le_of_ble_eq_true rfl⟩ dX9_serveFirst_28 ?_
    refine V_cast C cl5 cc_RX9_161 q1 dX9_serveFirst_31 ?_
    refine V_astore_n C dX9_serveFirst_34 (by decide) rfl ?_
    refine V_aload_n C dX9_serveFirst_35 rfl ?_
    refine V_aload_n C dX9_serveFirst_36 rfl ?_
    refine V_aload_n C dX9_serveFirst_37 rfl ?_
    refine V_getIx C cl10 fX9_41 (x := dg) hKy hdg dX9_serveFirst_38 ?_
    refine V_callV1 C (As := [_]) (c_X4_boundIn hl (X := (sIf (sIf X 332 (upF BD rs i (gI X 332))) 333 (upF FL rs i (gI X 333)))) (a := q) (s := S q) (k := K q) (fa := gI X 387 (S q)) (mx := gI X 386 (S q)) (h := gI X 131 (K q)) (cp := gI X 129 (K q)) (mo := gI X 130 (K q)) (dg := dg) q1 q3 q7 q2 q6 rfl q8 rfl q9 rfl rfl rfl q10 q11 q12 hdg9) kX9_347 q1 rfl rfl (Nat.le_of_ble_eq_true rfl) ⟨Nat.le_of_ble_eq_true rfl, Nat.le_of_ble_eq_true rfl⟩ ⟨Nat.le_of_ble_eq_true rfl, Nat.le_of_ble_eq_true rfl⟩ dX9_serveFirst_41 ?_
    refine V_putI C cl5 fX9_350 (Or.inl rfl) rfl q1 dX9_serveFirst_44 ?_
    have e44 : sI (sIf (sIf X 332 (upF BD rs i (gI X 332))) 333 (upF FL rs i (gI X 333))) 332 q (if gI X 387 (S q) = 1 then 0 else if gI X 386 (S q) < wantV (gI X 131 (K q)) (gI X 129 (K q)) (gI X 130 (K q)) dg then gI X 386 (S q) else wantV (gI X 131 (K q)) (gI X 129 (K q)) (gI X 130 (K q)) dg) = (sIf (sIf X 332 (upF BD rs (i + 1) (gI X 332))) 333 (upF FL rs i (gI X 333))) := by
      rw [sI_sIf2 _ _ _ _ _ _ _ (by decide)]
      show sIf (sIf X 332 _) 333 _ = sIf (sIf X 332 (fun x => if x = rs.getD i 0 then BD (rs.getD i 0) else upF BD rs i (gI X 332) x)) 333 _
      rw [eq, q16]
      rfl
    rw [e44]
    have hb1 : gI (sIf (sIf X 332 (upF BD rs (i + 1) (gI X 332))) 333 (upF FL rs i (gI X 333))) 332 q = BD q := upF_at BD rs _ (i + 1) (by omega) i q (by omega) hq
    refine V_aload_n C dX9_serveFirst_47 rfl ?_
    refine V_join C (pcm := 77) (P := fun z => z = FL q) (fun hj => ?_) (fun z1 hz1 => ?_)
    · refine V_aload_n C dX9_serveFirst_48 rfl ?_
      refine V_getP C cl5 fX9_186 (r := some ((S q))) q1 q2 dX9_serveFirst_49 ?_
      refine V_getIx C cl6 fX9_116 (x := U q) q3 q4 dX9_serveFirst_52 ?_
      refine V_if_eq C dX9_serveFirst_55 (by omega) (fun h55 => ?_) (fun h55 => ?_)
      · refine V_aload_n C dX9_serveFirst_62 rfl ?_
        refine V_getIx C cl5 fX9_350 (x := BD q) q1 hb1 dX9_serveFirst_63 ?_
        refine V_aload_n C dX9_serveFirst_66 rfl ?_
        refine V_aload_n C dX9_serveFirst_67 rfl ?_
        refine V_getIx C cl10 fX9_31 (x := n) hKy hn dX9_serveFirst_68 ?_
        refine V_callV1 C (As := [_]) (c_X4_mostWhileDown hl (X := (sIf (sIf X 332 (upF BD rs (i + 1) (gI X 332))) 333 (upF FL rs i (gI X 333)))) (a := q) (s := S q) (n := n) (ds := gI X 389 (S q)) (bg := gI X 328 q) (lh := gI X 327 q) q1 q3 q2 rfl rfl rfl hn9 q13 q14) kX9_353 q1 rfl rfl (Nat.le_of_ble_eq_true rfl) ⟨Nat.le_of_ble_eq_true rfl, Nat.le_of_ble_eq_true rfl⟩ ⟨Nat.le_of_ble_eq_true rfl, Nat.le_of_ble_eq_true rfl⟩ dX9_serveFirst_71 ?_
        refine V_mmin C (by omega) (by show rng (mwV n _ _ _); omega) kX9_356 (Nat.le_of_ble_eq_true rfl) (Nat.le_of_ble_eq_true rfl) (by first | (dsimp only; omega) | exact Nat.le_of_ble_eq_true rfl) (by first | (dsimp only; omega) | exact Nat.le_of_ble_eq_true rfl) dX9_serveFirst_74 ?_
        exact hj _ (by rw [q18]; unfold mwV; first | (rw [if_neg (show ¬ U q = 1 by omega)]; done) | (rw [if_pos (show U q = 1 by omega)]; done))
      · refine V_iconst C dX9_serveFirst_58 ?_
        refine V_goto C dX9_serveFirst_59 ?_
        exact hj _ (by rw [q18]; unfold mwV; first | (rw [if_neg (show ¬ U q = 1 by omega)]; done) | (rw [if_pos (show U q = 1 by omega)]; done))
    subst hz1
    refine V_putI C cl5 fX9_244 (Or.inl rfl) rfl q1 dX9_serveFirst_77 ?_
    rw [sI_sIf]
    have e77 : (fun x => if x = q then FL q else upF FL rs i (gI X 333) x) = upF FL rs (i + 1) (gI X 333) := by
      show _ = fun x => if x = rs.getD i 0 then FL (rs.getD i 0) else upF FL rs i (gI X 333) x
      rw [eq]
    rw [e77]
    have hf1 : gI (sIf (sIf X 332 (upF BD rs (i + 1) (gI X 332))) 333 (upF FL rs (i + 1) (gI X 333))) 333 q = FL q := upF_at FL rs _ (i + 1) (by omega) i q (by omega) hq
    refine V_iload_n C dX9_serveFirst_80 rfl ?_
    refine V_aload_n C dX9_serveFirst_81 rfl ?_
    refine V_getIx C cl5 fX9_244 (x := FL q) q1 hf1 dX9_serveFirst_82 ?_
    refine V_isub C dX9_serveFirst_85 ?_
    refine V_istore_n C dX9_serveFirst_86 (by decide) rfl ?_
    refine V_iinc C dX9_serveFirst_87 (by decide) rfl rfl ?_
    refine V_goto C dX9_serveFirst_90 ?_
    have h8 := ih (i + 1, some (rv (some q))) (by show i + 1 ≤ rs.length; omega) (by show rs.length + 1 - (i + 1) < rs.length + 1 - i; omega)
    have e8 : lfF FL rs (i + 1) (lm + sn) = lfF FL rs i (lm + sn) - FL q := by show _ - FL (rs.getD i 0) = _; rw [eq]
    dsimp only at h8
    rw [e8] at h8
    exact h8
end CLS13
