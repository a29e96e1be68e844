/-! powers within the limit -/
theorem sumF_0 (n : Nat) : sumF (fun _ => 0) n = 0 := by
  induction n with
  | zero => rfl
  | succ n ih =>
    show sumF (fun _ => 0) n + 0 = 0
    omega
theorem sumF_up {f g : Nat → Int} {i : Nat} {v : Int} (n : Nat) (hi : i < n) (h : ∀ k, k < n → f k = if k = i then g k + v else g k) : sumF f n = sumF g n + v := by
  have e : sumF f n = sumF (fun k => g k + (fun k => if k = i then v else 0) k) n := sumF_congr n (fun k hk => by
    rw [h k hk]
    show (if k = i then g k + v else g k) = g k + (if k = i then v else 0)
    split <;> omega)
  rw [e, sumF_add, sumF_one, if_pos hi]
theorem srv_sum {M : Mo} {n : Nat} {B : Nat → Int} {g : Int} {s : (Nat → Int) × Int} (hB : ∀ k, k < n → 0 ≤ B k) (h0 : ∀ k, k < n → 0 ≤ s.1 k) (h1 : 0 ≤ s.2) (c : Nat) : (∀ k, k < n → 0 ≤ (srvTo M n B g c s).1 k) ∧ 0 ≤ (srvTo M n B g c s).2 ∧ sumF (srvTo M n B g c s).1 n + (srvTo M n B g c s).2 ≤ sumF s.1 n + s.2 := by
  induction c with
  | zero => exact ⟨h0, h1, Int.le_refl _⟩
  | succ c ih =>
    obtain ⟨i1, i2, i3⟩ := ih
    show (∀ k, k < n → 0 ≤ (srvAt M n B g c (srvTo M n B g c s)).1 k) ∧ 0 ≤ (srvAt M n B g c (srvTo M n B g c s)).2 ∧ sumF (srvAt M n B g c (srvTo M n B g c s)).1 n + (srvAt M n B g c (srvTo M n B g c s)).2 ≤ sumF s.1 n + s.2
    generalize srvTo M n B g c s = q at i1 i2 i3 ⊢
    unfold srvAt
    split
    · rename_i h
      unfold srvK
      have hb := hB (c % 64) h.1
      have hq := i1 (c % 64) h.1
      generalize hm : (if g = 1 then (1400 : Int) else B (c % 64)) = mm
      have hm0 : 0 ≤ mm := by
        rw [← hm]
        split <;> omega
      split
      · rename_i h2
        dsimp only
        have e : sumF (fun i => if i = c % 64 then mm else q.1 i) n = sumF q.1 n + (mm - q.1 (c % 64)) := sumF_up n h.1 (fun k _ => by
          by_cases e : k = c % 64
          · rw [if_pos e, if_pos e, e]
            omega
          · rw [if_neg e, if_neg e])
        refine ⟨fun k hk => ?_, ?_, ?_⟩
        · split
          · exact hm0
          · exact i1 k hk
        · have := h2.2
          omega
        · rw [e]
          omega
      · exact ⟨i1, i2, i3⟩
    · exact ⟨i1, i2, i3⟩
theorem lv_sum {tb : Nat → Bool} {B P : Nat → Int} {h : Int} (n : Nat) : sumF (lvF tb B P (h + 1)) n = sumF (lvF tb B P h) n + cntF tb B h n := by
  induction n with
  | zero => rfl
  | succ n ih =>
    show sumF (lvF tb B P (h + 1)) n + lvF tb B P (h + 1) n = sumF (lvF tb B P h) n + lvF tb B P h n + (cntF tb B h n + if tb n = true ∧ h < B n then 1 else 0)
    have e : lvF tb B P (h + 1) n = lvF tb B P h n + if tb n = true ∧ h < B n then 1 else 0 := by
      unfold lvF
      by_cases ht : tb n = true
      · rw [if_pos ht, if_pos ht]
        by_cases hb : h < B n
        · rw [if_neg (show ¬ B n < h + 1 by omega), if_neg (show ¬ B n < h by omega), if_pos (show tb n = true ∧ h < B n from ⟨ht, hb⟩)]
        · rw [if_pos (show B n < h + 1 by omega), if_neg (show ¬ (tb n = true ∧ h < B n) from fun z => hb z.2)]
          split <;> omega
      · rw [if_neg ht, if_neg ht, if_neg (show ¬ (tb n = true ∧ h < B n) from fun z => ht z.1)]
        omega
    omega
theorem wf_sum {tb : Nat → Bool} {B P : Nat → Int} {n : Nat} : ∀ (f : Nat) (left : Int), 0 ≤ left → 0 ≤ (wfF tb B n f left).2 ∧ sumF (lvF tb B P (wfF tb B n f left).1) n + (wfF tb B n f left).2 = sumF (lvF tb B P (50000 - (f : Int))) n + left := by
  intro f
  induction f with
  | zero =>
    intro left h
    rw [show (50000 : Int) - ((0 : Nat) : Int) = 50000 by omega]
    exact ⟨h, rfl⟩
  | succ f ih =>
    intro left h
    have hc := cntF_in tb B (50000 - ((f + 1 : Nat) : Int)) n
    by_cases c : left < cntF tb B (50000 - ((f + 1 : Nat) : Int)) n ∨ cntF tb B (50000 - ((f + 1 : Nat) : Int)) n = 0
    · have e : wfF tb B n (f + 1) left = (50000 - ((f + 1 : Nat) : Int), left) := if_pos c
      rw [e]
      exact ⟨h, rfl⟩
    · have e : wfF tb B n (f + 1) left = wfF tb B n f (left - cntF tb B (50000 - ((f + 1 : Nat) : Int)) n) := if_neg c
      rw [e]
      obtain ⟨i1, i2⟩ := ih (left - cntF tb B (50000 - ((f + 1 : Nat) : Int)) n) (by omega)
      refine ⟨i1, ?_⟩
      rw [i2]
      have l := lv_sum (tb := tb) (B := B) (P := P) (h := 50000 - ((f + 1 : Nat) : Int)) n
      rw [show (50000 : Int) - ((f + 1 : Nat) : Int) + 1 = 50000 - (f : Int) by omega] at l
      omega
theorem fn_sum {tb : Nat → Bool} {B P : Nat → Int} {h r : Int} (hr : 0 ≤ r) (n : Nat) : sumF (fnF tb B P h r) n = sumF (lvF tb B P h) n + if cntF tb B h n ≤ r then cntF tb B h n else r := by
  induction n with
  | zero =>
    show (0 : Int) = 0 + if (0 : Int) ≤ r then 0 else r
    rw [if_pos hr]
    rfl
  | succ n ih =>
    have hc := cntF_in tb B h n
    show sumF (fnF tb B P h r) n + fnF tb B P h r n = sumF (lvF tb B P h) n + lvF tb B P h n + if cntF tb B h (n + 1) ≤ r then cntF tb B h (n + 1) else r
    have e1 : cntF tb B h (n + 1) = cntF tb B h n + if tb n = true ∧ h < B n then 1 else 0 := rfl
    have e2 : fnF tb B P h r n = if tb n = true ∧ h < B n ∧ cntF tb B h n < r then h + 1 else lvF tb B P h n := rfl
    rw [ih, e1, e2]
    by_cases c : tb n = true ∧ h < B n
    · have hb := c.2
      have el : lvF tb B P h n = h := by
        unfold lvF
        rw [if_pos c.1, if_neg (show ¬ B n < h by omega)]
      rw [if_pos c, el]
      by_cases d : cntF tb B h n < r
      · rw [if_pos (show tb n = true ∧ h < B n ∧ cntF tb B h n < r from ⟨c.1, c.2, d⟩), if_pos (show cntF tb B h n ≤ r by omega), if_pos (show cntF tb B h n + 1 ≤ r by omega)]
        omega
      · rw [if_neg (show ¬ (tb n = true ∧ h < B n ∧ cntF tb B h n < r) from fun z => d z.2.2)]
        split <;> split <;> omega
    · rw [if_neg c, if_neg (show ¬ (tb n = true ∧ h < B n ∧ cntF tb B h n < r) from fun z => c ⟨z.1, z.2.1⟩)]
      rw [show cntF tb B h n + 0 = cntF tb B h n by omega]
      omega
theorem sh_sum {tb : Nat → Bool} {B P : Nat → Int} {n : Nat} {left : Int} (h0 : 0 ≤ left) (ht : ∀ k, k < n → tb k = true → P k = 1400 ∧ 1400 ≤ B k) : sumF (shF tb B P n left) n ≤ sumF P n + left := by
  obtain ⟨w1, w2⟩ := wf_sum (tb := tb) (B := B) (P := P) (n := n) 48600 left h0
  have e0 : sumF (lvF tb B P (50000 - ((48600 : Nat) : Int))) n = sumF P n := sumF_congr n (fun k hk => by
    unfold lvF
    by_cases c : tb k = true
    · have := ht k hk c
      rw [if_pos c, if_neg (show ¬ B k < 50000 - ((48600 : Nat) : Int) by omega)]
      omega
    · rw [if_neg c])
  rw [e0] at w2
  have hf := fn_sum (tb := tb) (B := B) (P := P) (h := (wfF tb B n 48600 left).1) (r := (wfF tb B n 48600 left).2) w1 n
  have e1 : sumF (shF tb B P n left) n = sumF (fnF tb B P (wfF tb B n 48600 left).1 (wfF tb B n 48600 left).2) n := sumF_congr n (fun k _ => rfl)
  rw [e1, hf]
  split <;> omega
/-- with no link down nothing flows above the limit -/
theorem pow_sum {M : Mo} {n : Nat} (hO : OkM M) (hn : (n : Int) = M.1 30) (hd : ∀ i : Nat, (i : Int) < M.1 6 → M.2 10 i = 0) : sumF (powM M n) n ≤ M.1 3 + M.1 4 := by
  have o0 := hO.1
  unfold okSc at o0
  have hB : ∀ k, k < n → 0 ≤ BM M n k := fun k hk => by
    rw [show BM M n k = bndM M k from if_pos hk]
    exact (bndM_in hO (by omega)).1
  have d0 : ∀ k, k < n → dwnM M k = 0 := fun k hk => by
    have h1 := (hO.2.2.2.2.1 k (by omega)).1
    unfold okSe at h1
    have h2 := hd (M.2 31 k).toNat (by omega)
    unfold dwnM
    rw [if_neg (show ¬ (M.2 34 k = 1 ∧ M.2 10 (M.2 31 k).toNat = 1) from fun z => by omega)]
  have dS : sumF (dwnM M) n = 0 := (sumF_congr n d0).trans (sumF_0 n)
  have lf : lfM M n = M.1 3 + M.1 4 := by
    unfold lfM
    rw [dS]
    omega
  have pk : ∀ k, k < n → PM M n k = 0 := fun k hk => (show PM M n k = dwnM M k from if_pos hk).trans (d0 k hk)
  have p0 : sumF (PM M n) n = 0 := (sumF_congr n pk).trans (sumF_0 n)
  obtain ⟨a1, a2, a3⟩ := srv_sum (M := M) (n := n) (B := BM M n) (g := 1) (s := (PM M n, if 0 < lfM M n then lfM M n else 0)) hB (fun k hk => by
    show 0 ≤ PM M n k
    rw [pk k hk]
    exact Int.le_refl _) (by
    show 0 ≤ (if 0 < lfM M n then lfM M n else 0)
    split <;> omega) 256
  have a3 : sumF (s1M M n).1 n + (s1M M n).2 ≤ sumF (PM M n) n + (if 0 < lfM M n then lfM M n else 0) := a3
  obtain ⟨b1, b2, b3⟩ := srv_sum (M := M) (n := n) (B := BM M n) (g := 0) (s := s1M M n) hB a1 a2 256
  have b2 : 0 ≤ (s2M M n).2 := b2
  have b3 : sumF (s2M M n).1 n + (s2M M n).2 ≤ sumF (s1M M n).1 n + (s1M M n).2 := b3
  have t := sh_sum (tb := tbM M n) (B := BM M n) (P := (s2M M n).1) (n := n) b2 (fun k hk ht => by
    have h9 : k < n ∧ (M.2 34 k = 1 ∧ M.2 10 (M.2 31 k).toNat = 0) ∧ (s2M M n).1 k = 1400 := of_decide_eq_true ht
    refine ⟨h9.2.2, ?_⟩
    have h10 := h9.2.2
    have v1 : (s1M M n).1 k = PM M n k ∨ (k < n ∧ svd M k ∧ (((1 : Int) = 1 ∧ 1400 ≤ BM M n k ∧ (s1M M n).1 k = 1400) ∨ ((1 : Int) = 0 ∧ BM M n k < 1400 ∧ (s1M M n).1 k = BM M n k))) := srv_val (M := M) (n := n) (B := BM M n) (g := 1) (s := (PM M n, if 0 < lfM M n then lfM M n else 0)) (Or.inr rfl) 256 k
    have v2 : (s2M M n).1 k = (s1M M n).1 k ∨ (k < n ∧ svd M k ∧ (((0 : Int) = 1 ∧ 1400 ≤ BM M n k ∧ (s2M M n).1 k = 1400) ∨ ((0 : Int) = 0 ∧ BM M n k < 1400 ∧ (s2M M n).1 k = BM M n k))) := srv_val (M := M) (n := n) (B := BM M n) (g := 0) (s := s1M M n) (Or.inl rfl) 256 k
    have p9 := pk k hk
    rcases v2 with z | ⟨-, -, ⟨z, -⟩ | ⟨-, z1, z2⟩⟩
    · rcases v1 with y | ⟨-, -, ⟨-, y, -⟩ | ⟨y, -⟩⟩
      · omega
      · exact y
      · omega
    · omega
    · omega)
  have e : sumF (powM M n) n = sumF (shF (tbM M n) (BM M n) (s2M M n).1 n (s2M M n).2) n := rfl
  rw [e]
  rw [p0, lf] at a3
  have a4 : (if 0 < M.1 3 + M.1 4 then M.1 3 + M.1 4 else 0) ≤ M.1 3 + M.1 4 := by
    split <;> omega
  omega
