/-! the class: flows -/
/-- a whole field anew -/
def sIf (X : Mm) (f : Nat) (g : Nat → Int) : Mm := (gK X, fun h x => if h = f then g x else gI X h x, gP X, gN X, gA X, gO X)
theorem sIf_self (X : Mm) (f : Nat) : sIf X f (gI X f) = X := by
  have e : (fun h x => if h = f then gI X f x else gI X h x) = gI X := by
    funext h x
    split
    · rename_i e
      rw [e]
    · rfl
  unfold sIf
  rw [e]
  rfl
theorem sI_sIf (X : Mm) (f : Nat) (g : Nat → Int) (a : Nat) (v : Int) : sI (sIf X f g) f a v = sIf X f (fun x => if x = a then v else g x) := by
  have e : (u2 (gI (sIf X f g)) f a v) = fun h x => if h = f then (if x = a then v else g x) else gI X h x := by
    funext h x
    unfold u2
    by_cases e1 : h = f
    · subst e1
      by_cases e2 : x = a <;> simp [e2, sIf, gI]
    · simp [e1, sIf, gI]
  unfold sI
  rw [e]
  rfl
/-- the running sessions: who takes more, by flows -/
def ruI (X : Mm) (rs : List Nat) (S : Nat → Nat) (U BD : Nat → Int) : Prop := ∀ q ∈ rs, gK X q = 6 ∧ gP X 320 q = some (S q) ∧ gK X (S q) = 7 ∧ gI X 388 (S q) = U q ∧ (U q = 0 ∨ U q = 1) ∧ gI X 332 q = BD q ∧ (0 ≤ BD q ∧ BD q ≤ 50000)
def raS (U BD : Nat → Int) (rise : Int) (q : Nat) (s : Int × (Nat → Int)) : Int × (Nat → Int) := if 0 < s.1 ∧ (U q = 1 ∧ 1400 ≤ s.2 q ∧ s.2 q < BD q) then (s.1 - 1, fun x => if x = q then s.2 q + rise else s.2 x) else s
def raF (U BD : Nat → Int) (rise : Int) (rs : List Nat) : Nat → Int × (Nat → Int) → Int × (Nat → Int)
  | 0, s => s
  | n + 1, s => raS U BD rise (rs.getD n 0) (raF U BD rise rs n s)
theorem raF_far (U BD : Nat → Int) (rise : Int) (rs : List Nat) (hnd : rs.Nodup) (s : Int × (Nat → Int)) (n : Nat) : ∀ j q, n ≤ j → rs[j]? = some q → (raF U BD rise rs n s).2 q = s.2 q := by
  induction n with
  | zero => intro j q _ _; rfl
  | succ n ih =>
    intro j q hj hq
    have hjl := (List.getElem?_eq_some_iff.mp hq).1
    show (raS U BD rise (rs.getD n 0) (raF U BD rise rs n s)).2 q = _
    have hne : q ≠ rs.getD n 0 := by
      intro e
      rw [List.getD_eq_getElem?_getD, List.getElem?_eq_getElem (by omega)] at e
      have e1 := (List.getElem?_eq_some_iff.mp hq).2
      have e2 : rs[j] = rs[n]'(by omega) := e1.trans e
      exact absurd e2.symm ((List.pairwise_iff_getElem.mp hnd) n j (by omega) hjl (by omega))
    unfold raS
    split
    · exact (if_neg hne).trans (ih j q (by omega) hq)
    · exact ih j q (by omega) hq
theorem raF_stop (U BD : Nat → Int) (rise : Int) (rs : List Nat) (s : Int × (Nat → Int)) (n k : Nat) (h : (raF U BD rise rs n s).1 ≤ 0) : raF U BD rise rs (n + k) s = raF U BD rise rs n s := by
  induction k with
  | zero => rfl
  | succ k ih =>
    show raS U BD rise _ (raF U BD rise rs (n + k) s) = _
    rw [ih]
    unfold raS
    rw [if_neg (fun z => by have := z.1; omega)]
theorem raF_in (U BD : Nat → Int) (rise : Int) (rs : List Nat) (s : Int × (Nat → Int)) (n : Nat) : (raF U BD rise rs n s).1 ≤ s.1 ∧ s.1 - n ≤ (raF U BD rise rs n s).1 := by
  induction n with
  | zero => exact ⟨Int.le_refl _, by show s.1 - 0 ≤ s.1; omega⟩
  | succ n ih =>
    show (raS U BD rise _ (raF U BD rise rs n s)).1 ≤ _ ∧ _ ≤ (raS U BD rise _ (raF U BD rise rs n s)).1
    unfold raS
    split
    · dsimp only
      omega
    · omega
section CLS11
variable {l : Launch} {D : va_G} {kA : Nat → ClassId} {b t0 : Nat} {X : Mm}
set_option maxHeartbeats 2000000 in
set_option maxRecDepth 20000 in
theorem c_X9_raise (hl : l.stackTraces = false) {y a d c : Nat} {rs : List Nat} {S : Nat → Nat} {U BD : Nat → Int} {hm ri : Int} (hKy : gK X y = 11) (ha : gP X 645 y = some a) (h : LI t0 X a rs d c) (hr9 : ruI X rs S U BD) (hnd : rs.Nodup) (hrg : ∀ q ∈ rs, rng (gI X 333 q)) (hm9 : 0 ≤ hm ∧ hm ≤ 300000) (hri : rng ri) : Ct l D kA b t0 yX9_raise cX9_raise 6 none 3 64 [rv (some y), iv hm, iv ri] X 0 0 (pD none (sIf X 333 (raF U BD ri rs rs.length (hm, gI X 333)).2)) (pF) := by
  refine Ct_mk hl (by decide) (Nat.le_of_ble_eq_true rfl) rfl ?_
  intro p9 e9 s9 m9 args9 below9 meth9 c9 C hr hx0
  have hle : rs.length ≤ 1000 := Nat.le_trans h.2.2.2.2.2.1 h.2.2.2.2.2.2.1
  refine V_iload_n C dX9_raise_0 rfl ?_
  refine V_istore_n C dX9_raise_1 (by decide) rfl ?_
  refine V_iconst C dX9_raise_2 ?_
  refine V_istore C dX9_raise_3 (by decide) rfl ?_
  refine V_while C (St := Nat × Option Value) (f := fun z => sIf X 333 (raF U BD ri rs z.1 (hm, gI X 333)).2) (g := fun z => [some (rv (some y)), some (iv hm), some (iv ri), some (iv (raF U BD ri rs z.1 (hm, gI X 333)).1), some (iv (z.1 : Int)), z.2]) (cs := fun _ => 0) (ss := fun _ => 0) (μ := fun z => rs.length + 1 - z.1) (I := fun z => z.1 ≤ rs.length) (x0 := (0, none)) (sIf_self X 333) rfl rfl rfl (Nat.zero_le _) ?_
  rintro ⟨i, u3⟩ hi ih
  dsimp only at hi ih ⊢
  have hin := raF_in U BD ri rs (hm, gI X 333) i
  dsimp only at hin
  refine V_iload C dX9_raise_5 rfl ?_
  refine V_aload_n C dX9_raise_7 rfl ?_
  refine V_getP C cl10 fX9_28 (r := some a) hKy ha dX9_raise_8 ?_
  refine V_callV1 C (As := []) (L_size hl (LI.same (Y := sIf X 333 (raF U BD ri rs i (hm, gI X 333)).2) h rfl rfl rfl rfl rfl)) kX9_63 h.1 rfl rfl (Nat.le_of_ble_eq_true rfl) ⟨Nat.le_of_ble_eq_true rfl, Nat.le_of_ble_eq_true rfl⟩ ⟨Nat.le_of_ble_eq_true rfl, Nat.le_of_ble_eq_true rfl⟩ dX9_raise_11 ?_
  refine V_icmp_ge C dX9_raise_14 (by omega) (by omega) (fun h14 => ?_) (fun h14 => ?_)
  · exact V_vret C (by omega) (by omega) ⟨rfl, by first | (rw [show rs.length = i by omega]; done) | (rw [show rs.length = i + (rs.length - i) by omega, raF_stop U BD ri rs (hm, gI X 333) i (rs.length - i) (by omega)]; done)⟩ hr dX9_raise_63
  · refine V_iload_n C dX9_raise_17 rfl ?_
    refine V_if_le C dX9_raise_18 (by omega) (fun h18 => ?_) (fun h18 => ?_)
    · exact V_vret C (by omega) (by omega) ⟨rfl, by first | (rw [show rs.length = i by omega]; done) | (rw [show rs.length = i + (rs.length - i) by omega, raF_stop U BD ri rs (hm, gI X 333) i (rs.length - i) (by omega)]; done)⟩ hr dX9_raise_63
    · obtain ⟨q, hq⟩ : ∃ q, rs[i]? = some q := ⟨rs[i]'(by omega), List.getElem?_eq_getElem (by omega)⟩
      have hqi := hr9 q (List.mem_of_getElem? hq)
      have eq : rs.getD i 0 = q := by rw [List.getD_eq_getElem?_getD, hq]; rfl
      have hfar := raF_far U BD ri rs hnd (hm, gI X 333) i i q (Nat.le_refl _) hq
      refine V_aload_n C dX9_raise_21 rfl ?_
      refine V_getP C cl10 fX9_28 (r := some a) hKy ha dX9_raise_22 ?_
      refine V_iload C dX9_raise_25 rfl ?_
      refine V_callV1 C (As := [_]) (L_get hl (LI.same (Y := sIf X 333 (raF U BD ri rs i (hm, gI X 333)).2) h rfl rfl rfl rfl rfl) hq rfl) kX9_283 h.1 rfl rfl (Nat.le_of_ble_eq_true rfl) ⟨Nat.le_of_ble_eq_true rfl, Nat.le_of_ble_eq_true rfl⟩ ⟨Nat.le_of_ble_eq_true rfl, Nat.le_of_ble_eq_true rfl⟩ dX9_raise_27 ?_
      refine V_cast C cl5 cc_RX9_161 hqi.1 dX9_raise_30 ?_
      refine V_astore C dX9_raise_33 (by decide) rfl ?_
      refine V_aload C dX9_raise_35 rfl ?_
      refine V_callV1 C (As := []) (c_X4_takesMore hl (X := sIf X 333 (raF U BD ri rs i (hm, gI X 333)).2) (s := S q) (u := U q) (fl := (raF U BD ri rs i (hm, gI X 333)).2 q) (bd := BD q) hqi.1 hqi.2.2.1 hqi.2.1 hqi.2.2.2.1 rfl hqi.2.2.2.2.2.1 hqi.2.2.2.2.1 (by rw [hfar]; exact hrg q (List.mem_of_getElem? hq)) (by omega)) kX9_368 hqi.1 rfl rfl (Nat.le_of_ble_eq_true rfl) ⟨Nat.le_of_ble_eq_true rfl, Nat.le_of_ble_eq_true rfl⟩ ⟨Nat.le_of_ble_eq_true rfl, Nat.le_of_ble_eq_true rfl⟩ dX9_raise_37 ?_
      refine V_if_eq C dX9_raise_40 (by split <;> decide) (fun h40 => ?_) (fun h40 => ?_)
      · refine V_iinc C dX9_raise_57 (by decide) rfl rfl ?_
        refine V_goto C dX9_raise_60 ?_
        have h8 := ih (i + 1, some (rv (some q))) (by show i + 1 ≤ rs.length; omega) (by show rs.length + 1 - (i + 1) < rs.length + 1 - i; omega)
        have e8 : raF U BD ri rs (i + 1) (hm, gI X 333) = raS U BD ri q (raF U BD ri rs i (hm, gI X 333)) := by show raS U BD ri (rs.getD i 0) _ = _; rw [eq]
        rw [e8] at h8
        unfold raS at h8
        first | (rw [if_pos ⟨by omega, by split at h40; assumption; omega⟩] at h8; rw [sI_sIf]; exact h8) | (rw [if_neg (fun z => by rw [if_pos z.2] at h40; omega)] at h8; exact h8)
      · refine V_aload C dX9_raise_43 rfl ?_
        refine V_dup C dX9_raise_45 rfl ?_
        refine V_getIx C cl5 fX9_244 (x := (raF U BD ri rs i (hm, gI X 333)).2 q) hqi.1 rfl dX9_raise_46 ?_
        refine V_iload_n C dX9_raise_49 rfl ?_
        refine V_iadd C dX9_raise_50 ?_
        refine V_putI C cl5 fX9_244 (Or.inl rfl) rfl hqi.1 dX9_raise_51 ?_
        refine V_iinc C dX9_raise_54 (by decide) rfl rfl ?_
        refine V_iinc C dX9_raise_57 (by decide) rfl rfl ?_
        refine V_goto C dX9_raise_60 ?_
        have h8 := ih (i + 1, some (rv (some q))) (by show i + 1 ≤ rs.length; omega) (by show rs.length + 1 - (i + 1) < rs.length + 1 - i; omega)
        have e8 : raF U BD ri rs (i + 1) (hm, gI X 333) = raS U BD ri q (raF U BD ri rs i (hm, gI X 333)) := by show raS U BD ri (rs.getD i 0) _ = _; rw [eq]
        rw [e8] at h8
        unfold raS at h8
        first | (rw [if_pos ⟨by omega, by split at h40; assumption; omega⟩] at h8; rw [sI_sIf]; exact h8) | (rw [if_neg (fun z => by rw [if_pos z.2] at h40; omega)] at h8; exact h8)
end CLS11
