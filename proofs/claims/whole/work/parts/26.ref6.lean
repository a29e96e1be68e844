/-! the reference: the powers of a minute -/
def wntM (M : Mo) (k : Nat) : Int := if M.2 34 k = 1 ∧ M.2 9 (M.2 31 k).toNat = 0 then wantM M (M.2 32 k).toNat else 0
def bndM (M : Mo) (k : Nat) : Int := if wntM M k < M.2 8 (M.2 31 k).toNat then wntM M k else M.2 8 (M.2 31 k).toNat
def dwnM (M : Mo) (k : Nat) : Int := if M.2 34 k = 1 ∧ M.2 10 (M.2 31 k).toNat = 1 then (if bndM M k < capM M k then bndM M k else capM M k) else 0
def sumF (f : Nat → Int) : Nat → Int
  | 0 => 0
  | n + 1 => sumF f n + f n
def pre (f g : Nat → Int) (k i : Nat) : Int := if i < k then f i else g i
theorem pre_0 (f g : Nat → Int) : pre f g 0 = g := by
  funext i
  unfold pre
  rw [if_neg (Nat.not_lt_zero i)]
theorem pre_1 (f g : Nat → Int) (k : Nat) : (fun i => if i = k then f k else pre f g k i) = pre f g (k + 1) := by
  funext i
  unfold pre
  by_cases e : i = k
  · subst e
    rw [if_pos rfl, if_pos (Nat.lt_succ_self i)]
  · rw [if_neg e]
    have e2 : i < k + 1 ↔ i < k := by omega
    simp only [e2]
theorem pre_2 (f g : Nat → Int) (k : Nat) (v : Int) : (fun i => if i = k then f k else (fun i => if i = k then v else pre f g k i) i) = pre f g (k + 1) := by
  rw [← pre_1]
  funext i
  by_cases e : i = k
  · rw [if_pos e, if_pos e]
  · rw [if_neg e, if_neg e]
    exact if_neg e
def BM (M : Mo) (n : Nat) : Nat → Int := pre (bndM M) (M.2 48) n
def PM (M : Mo) (n : Nat) : Nat → Int := pre (dwnM M) (M.2 49) n
def lfM (M : Mo) (n : Nat) : Int := M.1 3 + M.1 4 - sumF (dwnM M) n
def s1M (M : Mo) (n : Nat) : (Nat → Int) × Int := srvTo M n (BM M n) 1 256 (PM M n, if 0 < lfM M n then lfM M n else 0)
def s2M (M : Mo) (n : Nat) : (Nat → Int) × Int := srvTo M n (BM M n) 0 256 (s1M M n)
def tbM (M : Mo) (n : Nat) (k : Nat) : Bool := decide (k < n ∧ (M.2 34 k = 1 ∧ M.2 10 (M.2 31 k).toNat = 0) ∧ (s2M M n).1 k = 1400)
/-- the powers of the minute that begins now, of n sessions -/
def powM (M : Mo) (n : Nat) : Nat → Int := shF (tbM M n) (BM M n) (s2M M n).1 n (s2M M n).2
theorem bndM_in {M : Mo} {k : Nat} (hO : OkM M) (hk : (k : Int) < M.1 30) : 0 ≤ bndM M k ∧ bndM M k ≤ 50000 := by
  have h0 := hO.1
  have h1 := (hO.2.2.2.2.1 k hk).1
  unfold okSe at h1
  have h0' := h0
  unfold okSc at h0'
  have h2 := hO.2.1 (M.2 31 k).toNat (by omega)
  unfold okSo at h2
  have h3 := hO.2.2.1 (M.2 32 k).toNat (by omega)
  have h4 := wantM_in h0 h3
  have h5 : 0 ≤ wantM M (M.2 32 k).toNat := h4.1
  unfold bndM wntM
  split <;> split <;> omega
theorem capM_in {M : Mo} {k : Nat} (hO : OkM M) (hk : (k : Int) < M.1 30) : 0 ≤ capM M k ∧ capM M k ≤ 50000 := by
  have h1 := (hO.2.2.2.2.1 k hk).1
  unfold okSe at h1
  unfold capM
  split <;> omega
theorem dwnM_in {M : Mo} {k : Nat} (hO : OkM M) (hk : (k : Int) < M.1 30) : 0 ≤ dwnM M k ∧ dwnM M k ≤ 50000 := by
  have h1 := bndM_in hO hk
  have h2 := capM_in hO hk
  unfold dwnM
  split
  · split <;> omega
  · omega
theorem sumF_in {f : Nat → Int} {n : Nat} (h : ∀ k, k < n → 0 ≤ f k ∧ f k ≤ 50000) : 0 ≤ sumF f n ∧ sumF f n ≤ 50000 * n := by
  induction n with
  | zero => exact ⟨Int.le_refl _, Int.le_refl _⟩
  | succ n ih =>
    have h1 := ih (fun k hk => h k (Nat.lt_succ_of_lt hk))
    have h2 := h n (Nat.lt_succ_self n)
    show 0 ≤ sumF f n + f n ∧ sumF f n + f n ≤ 50000 * ((n + 1 : Nat) : Int)
    omega
/-- what serving does to each -/
theorem srv_val {M : Mo} {n : Nat} {B : Nat → Int} {g : Int} {s : (Nat → Int) × Int} (hg : g = 0 ∨ g = 1) (c k : Nat) : (srvTo M n B g c s).1 k = s.1 k ∨ (k < n ∧ svd M k ∧ ((g = 1 ∧ 1400 ≤ B k ∧ (srvTo M n B g c s).1 k = 1400) ∨ (g = 0 ∧ B k < 1400 ∧ (srvTo M n B g c s).1 k = B k))) := by
  induction c with
  | zero => exact Or.inl rfl
  | succ c ih =>
    show (srvAt M n B g c (srvTo M n B g c s)).1 k = s.1 k ∨ (k < n ∧ svd M k ∧ ((g = 1 ∧ 1400 ≤ B k ∧ (srvAt M n B g c (srvTo M n B g c s)).1 k = 1400) ∨ (g = 0 ∧ B k < 1400 ∧ (srvAt M n B g c (srvTo M n B g c s)).1 k = B k)))
    unfold srvAt
    split
    · rename_i h
      unfold srvK
      generalize hm : (if g = 1 then 1400 else B (c % 64)) = mm
      split
      · rename_i h2
        dsimp only
        by_cases e : k = c % 64
        · subst e
          right
          refine ⟨h.1, h.2.1, ?_⟩
          rw [if_pos rfl]
          have h3 := h2.1
          rcases hg with rfl | rfl
          · rw [if_neg (by decide)] at hm
            right
            omega
          · rw [if_pos rfl] at hm
            left
            omega
        · rw [if_neg e]
          exact ih
      · exact ih
    · exact ih
theorem wfF_in {tb : Nat → Bool} {B : Nat → Int} {n : Nat} : ∀ (f : Nat) (left : Int), 50000 - (f : Int) ≤ (wfF tb B n f left).1 ∧ (wfF tb B n f left).1 ≤ 50000 := by
  intro f
  induction f with
  | zero => exact fun left => ⟨by show (50000 : Int) - ((0 : Nat) : Int) ≤ 50000; omega, by show (50000 : Int) ≤ 50000; omega⟩
  | succ f ih =>
    intro left
    show 50000 - ((f + 1 : Nat) : Int) ≤ (if left < cntF tb B (50000 - ((f + 1 : Nat) : Int)) n ∨ cntF tb B (50000 - ((f + 1 : Nat) : Int)) n = 0 then ((50000 : Int) - ((f + 1 : Nat) : Int), left) else wfF tb B n f (left - cntF tb B (50000 - ((f + 1 : Nat) : Int)) n)).1 ∧ (if left < cntF tb B (50000 - ((f + 1 : Nat) : Int)) n ∨ cntF tb B (50000 - ((f + 1 : Nat) : Int)) n = 0 then ((50000 : Int) - ((f + 1 : Nat) : Int), left) else wfF tb B n f (left - cntF tb B (50000 - ((f + 1 : Nat) : Int)) n)).1 ≤ 50000
    split
    · dsimp only
      omega
    · have := ih (left - cntF tb B (50000 - ((f + 1 : Nat) : Int)) n)
      omega
/-- no power is above its bound where one takes -/
theorem shF_in {tb : Nat → Bool} {B P : Nat → Int} {n : Nat} {q : Int} {k : Nat} (hb : tb k = true → 1400 ≤ B k) : (tb k = true → 1400 ≤ shF tb B P n q k ∧ shF tb B P n q k ≤ B k) ∧ (¬ tb k = true → shF tb B P n q k = P k) := by
  have h1 := wfF_in (tb := tb) (B := B) (n := n) 48600 q
  unfold shF fnF lvF
  constructor
  · intro ht
    have := hb ht
    split
    · omega
    · first | (rw [if_pos ht]; split <;> omega) | (split <;> omega)
  · intro ht
    rw [if_neg (fun z => ht z.1), if_neg ht]
theorem powM_in {M : Mo} {n k : Nat} (hO : OkM M) (hn : (n : Int) = M.1 30) (hk : k < n) : 0 ≤ powM M n k ∧ powM M n k ≤ bndM M k ∧ (M.2 34 k ≠ 1 → powM M n k = 0) := by
  have hb := bndM_in hO (by omega : (k : Int) < M.1 30)
  have hd := dwnM_in hO (by omega : (k : Int) < M.1 30)
  have e1 : BM M n k = bndM M k := if_pos hk
  have e2 : PM M n k = dwnM M k := if_pos hk
  have hd2 : dwnM M k ≤ bndM M k := by
    unfold dwnM
    split
    · split <;> omega
    · omega
  have hd3 : M.2 34 k ≠ 1 → dwnM M k = 0 := fun h => by
    unfold dwnM
    rw [if_neg (fun z => h z.1)]
  have v1 := srv_val (M := M) (n := n) (B := BM M n) (g := 1) (s := (PM M n, if 0 < lfM M n then lfM M n else 0)) (Or.inr rfl) 256 k
  have v2 := srv_val (M := M) (n := n) (B := BM M n) (g := 0) (s := s1M M n) (Or.inl rfl) 256 k
  have hp : 0 ≤ (s2M M n).1 k ∧ (s2M M n).1 k ≤ bndM M k ∧ (M.2 34 k ≠ 1 → (s2M M n).1 k = 0) := by
    show 0 ≤ (srvTo M n (BM M n) 0 256 (s1M M n)).1 k ∧ (srvTo M n (BM M n) 0 256 (s1M M n)).1 k ≤ bndM M k ∧ (M.2 34 k ≠ 1 → (srvTo M n (BM M n) 0 256 (s1M M n)).1 k = 0)
    rw [e1] at v1 v2
    have v3 : (s1M M n).1 k = (srvTo M n (BM M n) 1 256 (PM M n, if 0 < lfM M n then lfM M n else 0)).1 k := rfl
    dsimp only at v1
    rw [e2, ← v3] at v1
    unfold svd at v1 v2
    refine ⟨by omega, by omega, fun h => ?_⟩
    have := hd3 h
    omega
  have hs := shF_in (tb := tbM M n) (B := BM M n) (P := (s2M M n).1) (n := n) (q := (s2M M n).2) (k := k) (fun h => by
    have h2 := of_decide_eq_true h
    rw [e1]
    have := hp.2.1
    omega)
  unfold powM
  by_cases ht : tbM M n k = true
  · have h2 := of_decide_eq_true ht
    have h3 := hs.1 ht
    rw [e1] at h3
    refine ⟨by omega, h3.2, fun h => absurd h2.2.1.1 h⟩
  · rw [hs.2 ht]
    exact hp
section REF6
variable {l : Launch} {D : va_G} {kA : Nat → ClassId} {b t0 mo : Nat} {ad : Nat → Nat} {M : Mo}

set_option maxRecDepth 20000 in
theorem c_X10_find (hl : l.stackTraces = false) {n : Nat} (hO : OkM M) (hn : (n : Int) = M.1 30) : Cr l D kA b t0 mo ad yX10_find cX10_find 5 (some FieldType.int) 3 73 [rv (some mo)] M (fun v M2 => M2 = bp M (BM M n) (powM M n) ∧ v = some (iv (sumF (powM M n) n))) := by
  refine Cr_mk hl (by decide) (Nat.le_of_ble_eq_true rfl) rfl ?_
  intro X0 p e s m args below meth c C hr
  have h0 := hO.1
  unfold okSc at h0
  refine R_aload_n C dX10_find_0 rfl ?_
  refine R_getS C cl11 fX10_7 (x := M.1 3) rfl (by decide) dX10_find_1 ?_
  refine R_aload_n C dX10_find_4 rfl ?_
  refine R_getS C cl11 fX10_175 (x := M.1 4) rfl (by decide) dX10_find_5 ?_
  refine R_iadd C dX10_find_8 ?_
  refine R_istore_n C dX10_find_9 (by decide) rfl ?_
  refine R_iconst C dX10_find_10 ?_
  refine R_istore_n C dX10_find_11 (by decide) rfl ?_
  refine R_while C (St := Nat × Option Value × Option Value) (f := fun x => bp M (pre (bndM M) (M.2 48) x.1) (pre (dwnM M) (M.2 49) x.1)) (g := fun x => [some (rv (some mo)), some (iv (M.1 3 + M.1 4 - sumF (dwnM M) x.1)), some (iv (x.1 : Int)), x.2.1, x.2.2]) (μ := fun x => 41 - x.1) (I := fun x => x.1 ≤ n) (x0 := (0, none, none)) (by show bp M (pre (bndM M) (M.2 48) 0) (pre (dwnM M) (M.2 49) 0) = M; rw [pre_0, pre_0]; exact bp_self M) (by show [_, some (iv (M.1 3 + M.1 4 - 0)), _, _, _] = _; rw [Int.sub_zero]; rfl) (Nat.zero_le _) ?_
  rintro ⟨k, u3, u4⟩ hkn ih
  dsimp only at hkn ih ⊢
  have hsm := sumF_in (f := dwnM M) (n := k) (fun j hj => dwnM_in hO (by omega))
  refine R_iload_n C dX10_find_12 rfl ?_
  refine R_aload_n C dX10_find_13 rfl ?_
  refine R_getS C cl11 fX10_151 (x := M.1 30) rfl (by decide) dX10_find_14 ?_
  refine R_icmp_ge C dX10_find_17 (by omega) (by omega) (fun h17 => ?_) (fun h17 => ?_)
  · have ekn : n = k := by omega
    subst ekn
    have hlf : lfM M n ≤ 300000 := by have hsm4 := sumF_in (f := dwnM M) (n := n) (fun j hj => dwnM_in hO (by omega)); unfold lfM; omega
    have hsm2 := sumF_in (f := dwnM M) (n := n) (fun j hj => dwnM_in hO (by omega))
    have hBn : ∀ j, j < n → 0 ≤ BM M n j ∧ BM M n j ≤ 50000 := fun j hj => by rw [show BM M n j = bndM M j from if_pos hj]; exact bndM_in hO (by omega)
    have ebp : bp M (pre (bndM M) (M.2 48) n) (pre (dwnM M) (M.2 49) n) = bp M (BM M n) (PM M n) := rfl
    rw [ebp]
    refine R_aload_n C dX10_find_165 rfl ?_
    refine R_aload_n C dX10_find_166 rfl ?_
    refine R_aload_n C dX10_find_167 rfl ?_
    refine R_join C (pcm := 177) (P := fun z => z = (if 0 < lfM M n then lfM M n else 0)) (fun hj => ?_) (fun z4 hz4 => ?_)
    · refine R_iload_n C dX10_find_168 rfl ?_
      refine R_if_le C dX10_find_169 (by omega) (fun h169 => ?_) (fun h169 => ?_)
      · refine R_iconst C dX10_find_176 ?_
        exact hj _ (by unfold lfM; split <;> omega)
      · refine R_iload_n C dX10_find_172 rfl ?_
        refine R_goto C dX10_find_173 ?_
        exact hj _ (by unfold lfM; split <;> omega)
    have hz4b : 0 ≤ z4 ∧ z4 ≤ 300000 := by rw [hz4]; split <;> omega
    refine R_iconst C dX10_find_177 ?_
    refine R_callVi C (As := [_, _]) (c_X10_serve hl (M := M) (B := BM M n) (P := PM M n) (q := z4) (g := 1) (n := n) hO hn hBn hz4b (Or.inr rfl)) kX10_241 rfl rfl (Nat.le_of_ble_eq_true rfl) ⟨by decide, by decide⟩ ⟨Nat.le_refl _, Nat.le_refl _⟩ dX10_find_178 ?_
    have hl1 := srv_le (M := M) (n := n) (B := BM M n) (g := 1) (P := PM M n) (fun j hj => (hBn j hj).1) hz4b.1 256
    rw [hz4] at hl1 ⊢
    rw [show srvTo M n (BM M n) 1 256 (PM M n, if 0 < lfM M n then lfM M n else 0) = s1M M n from rfl] at hl1 ⊢
    have hl1b : 0 ≤ (s1M M n).2 ∧ (s1M M n).2 ≤ 300000 := by rw [← hz4] at hl1; omega
    refine R_iconst C dX10_find_181 ?_
    refine R_callVi C (As := [_, _]) (c_X10_serve hl (M := M) (B := BM M n) (P := (s1M M n).1) (q := (s1M M n).2) (g := 0) (n := n) hO hn hBn hl1b (Or.inl rfl)) kX10_241 rfl rfl (Nat.le_of_ble_eq_true rfl) ⟨by decide, by decide⟩ ⟨Nat.le_refl _, Nat.le_refl _⟩ dX10_find_182 ?_
    have hl2 := srv_le (M := M) (n := n) (B := BM M n) (g := 0) (P := (s1M M n).1) (fun j hj => (hBn j hj).1) hl1b.1 256
    rw [show srvTo M n (BM M n) 0 256 ((s1M M n).1, (s1M M n).2) = s2M M n from rfl] at hl2 ⊢
    have hl2b : 0 ≤ (s2M M n).2 ∧ (s2M M n).2 ≤ 300000 := by omega
    have hvv : ∀ j, j < n → 0 ≤ (s2M M n).1 j ∧ (s2M M n).1 j ≤ 50000 ∧ (svd M j → 1400 ≤ (s2M M n).1 j → (s2M M n).1 j = 1400 ∧ 1400 ≤ BM M n j) := fun j hj => by
      have hb := hBn j hj
      have hd := dwnM_in hO (by omega : (j : Int) < M.1 30)
      have e2 : PM M n j = dwnM M j := if_pos hj
      have hd4 : svd M j → dwnM M j = 0 := fun h => by
        unfold dwnM
        unfold svd at h
        rw [if_neg (fun z => by omega)]
      have v1 := srv_val (M := M) (n := n) (B := BM M n) (g := 1) (s := (PM M n, if 0 < lfM M n then lfM M n else 0)) (Or.inr rfl) 256 j
      have v2 := srv_val (M := M) (n := n) (B := BM M n) (g := 0) (s := s1M M n) (Or.inl rfl) 256 j
      rw [show srvTo M n (BM M n) 1 256 (PM M n, if 0 < lfM M n then lfM M n else 0) = s1M M n from rfl] at v1
      rw [show srvTo M n (BM M n) 0 256 (s1M M n) = s2M M n from rfl] at v2
      dsimp only at v1
      rw [e2] at v1
      refine ⟨by omega, by omega, fun h1 h2 => ?_⟩
      have := hd4 h1
      omega
    refine R_callVv C (As := [_]) (c_X10_share hl (M := M) (B := BM M n) (P := (s2M M n).1) (tb := tbM M n) (q0 := (s2M M n).2) (n := n) hO hn hBn (fun j hj => ⟨(hvv j hj).1, (hvv j hj).2.1⟩) ⟨fun j hj => by have h9 := of_decide_eq_true hj; exact ⟨h9.1, h9.2.1, h9.2.2, ((hvv j h9.1).2.2 h9.2.1 (by omega)).2⟩, fun j hj hs hp => decide_eq_true ⟨hj, hs, ((hvv j hj).2.2 hs hp).1⟩⟩ hl2b) kX10_245 rfl rfl (Nat.le_of_ble_eq_true rfl) ⟨by decide, by decide⟩ ⟨Nat.le_refl _, Nat.le_refl _⟩ dX10_find_185 ?_
    refine R_iconst C dX10_find_188 ?_
    refine R_istore_n C dX10_find_189 (by decide) rfl ?_
    refine R_iconst C dX10_find_190 ?_
    refine R_istore_n C dX10_find_191 (by decide) rfl ?_
    refine R_while C (St := Nat) (f := fun x => bp M (BM M n) (powM M n)) (g := fun x => [some (rv (some mo)), _, some (iv (sumF (powM M n) x)), some (iv (x : Int)), _]) (μ := fun x => 41 - x) (I := fun x => x ≤ n) (x0 := 0) rfl rfl (Nat.zero_le _) ?_
    intro k hkn ih
    try dsimp only at hkn ih ⊢
    have hsm3 := sumF_in (f := powM M n) (n := k) (fun j hj => by have z1 := powM_in hO hn (by omega : j < n); have z2 := bndM_in hO (by omega : (j : Int) < M.1 30); omega)
    refine R_iload_n C dX10_find_192 rfl ?_
    refine R_aload_n C dX10_find_193 rfl ?_
    refine R_getS C cl11 fX10_151 (x := M.1 30) rfl (by decide) dX10_find_194 ?_
    refine R_icmp_ge C dX10_find_197 (by omega) (by omega) (fun h197 => ?_) (fun h197 => ?_)
    · refine R_iload_n C dX10_find_215 rfl ?_
      exact R_iret C ⟨rfl, by rw [show k = n by omega]⟩ hr dX10_find_216
    · refine R_iload_n C dX10_find_200 rfl ?_
      refine R_aload_n C dX10_find_201 rfl ?_
      refine R_getA C cl11 fX10_135 (by decide) dX10_find_202 ?_
      refine R_iload_n C dX10_find_205 rfl ?_
      refine R_iald C (j := k) (kf := 49) rfl (show k < 40 by omega) rfl (x := powM M n k) rfl dX10_find_206 ?_
      refine R_iadd C dX10_find_207 ?_
      refine R_istore_n C dX10_find_208 (by decide) rfl ?_
      refine R_iinc C dX10_find_209 (by decide) rfl rfl ?_
      refine R_goto C dX10_find_212 ?_
      exact ih (k + 1) (by show k + 1 ≤ n; omega) (by show 41 - (k + 1) < 41 - k; omega)
  · have hk2 : (k : Int) < M.1 30 := by omega
    have h1 := (hO.2.2.2.2.1 k hk2).1
    unfold okSe at h1
    have h2 := hO.2.1 (M.2 31 k).toNat (by omega)
    unfold okSo at h2
    have h3 := wantM_in hO.1 (hO.2.2.1 (M.2 32 k).toNat (by omega))
    have h4 := bndM_in hO hk2
    have h5 := capM_in hO hk2
    have h6 := dwnM_in hO hk2
    have e48 : bp M (pre (bndM M) (M.2 48) (k + 1)) (pre (dwnM M) (M.2 49) (k + 1)) = bp M (fun i => if i = k then bndM M k else pre (bndM M) (M.2 48) k i) (fun i => if i = k then dwnM M k else pre (dwnM M) (M.2 49) k i) := by rw [pre_1, pre_1]
    refine R_aload_n C dX10_find_20 rfl ?_
    refine R_getA C cl11 fX10_81 (by decide) dX10_find_21 ?_
    refine R_iload_n C dX10_find_24 rfl ?_
    refine R_iald C (j := k) (kf := 31) rfl (show k < 40 by omega) rfl (x := M.2 31 k) rfl dX10_find_25 ?_
    refine R_istore_n C dX10_find_26 (by decide) rfl ?_
    refine R_join C (pcm := 60) (P := fun z => z = wntM M k) (fun hj => ?_) (fun z1 hz1 => ?_)
    · refine R_aload_n C dX10_find_27 rfl ?_
      refine R_getA C cl11 fX10_90 (by decide) dX10_find_28 ?_
      refine R_iload_n C dX10_find_31 rfl ?_
      refine R_iald C (j := k) (kf := 34) rfl (show k < 40 by omega) rfl (x := M.2 34 k) rfl dX10_find_32 ?_
      refine R_iconst C dX10_find_33 ?_
      refine R_icmp_ne C dX10_find_34 (by omega) (by decide) (fun h34 => ?_) (fun h34 => ?_)
      · refine R_iconst C dX10_find_59 ?_
        exact hj _ (by unfold wntM; split <;> omega)
      · refine R_aload_n C dX10_find_37 rfl ?_
        refine R_getA C cl11 fX10_23 (by decide) dX10_find_38 ?_
        refine R_iload_n C dX10_find_41 rfl ?_
        refine R_zald C (j := (M.2 31 k).toNat) (kf := 9) rfl (show (M.2 31 k).toNat < 8 by omega) (by omega) (x := M.2 9 (M.2 31 k).toNat) rfl dX10_find_42 ?_
        refine R_if_ne C dX10_find_43 (by omega) (fun h43 => ?_) (fun h43 => ?_)
        · refine R_iconst C dX10_find_59 ?_
          exact hj _ (by unfold wntM; split <;> omega)
        · refine R_aload_n C dX10_find_46 rfl ?_
          refine R_aload_n C dX10_find_47 rfl ?_
          refine R_getA C cl11 fX10_84 (by decide) dX10_find_48 ?_
          refine R_iload_n C dX10_find_51 rfl ?_
          refine R_iald C (j := k) (kf := 32) rfl (show k < 40 by omega) rfl (x := M.2 32 k) rfl dX10_find_52 ?_
          refine R_callVi C (As := [_]) (r := wantM M (M.2 32 k).toNat) (c_X10_wants hl (M := bp M (pre (bndM M) (M.2 48) k) (pre (dwnM M) (M.2 49) k)) (i := (M.2 32 k).toNat) hO (show ((M.2 32 k).toNat : Int) < M.1 13 by omega) (by omega)) kX10_235 rfl rfl (Nat.le_of_ble_eq_true rfl) ⟨by decide, by decide⟩ ⟨Nat.le_refl _, Nat.le_refl _⟩ dX10_find_53 ?_
          refine R_goto C dX10_find_56 ?_
          exact hj _ (by unfold wntM; split <;> omega)
    have hz1b : 0 ≤ z1 ∧ z1 ≤ 50000 := by rw [hz1]; unfold wntM; split <;> omega
    refine R_istore C dX10_find_60 (by decide) rfl ?_
    refine R_aload_n C dX10_find_62 rfl ?_
    refine R_getA C cl11 fX10_132 (by decide) dX10_find_63 ?_
    refine R_iload_n C dX10_find_66 rfl ?_
    refine R_join C (pcm := 89) (P := fun z => z = bndM M k) (fun hj => ?_) (fun z2 hz2 => ?_)
    · refine R_iload C dX10_find_67 rfl ?_
      refine R_aload_n C dX10_find_69 rfl ?_
      refine R_getA C cl11 fX10_20 (by decide) dX10_find_70 ?_
      refine R_iload_n C dX10_find_73 rfl ?_
      refine R_iald C (j := (M.2 31 k).toNat) (kf := 8) rfl (show (M.2 31 k).toNat < 8 by omega) (by omega) (x := M.2 8 (M.2 31 k).toNat) rfl dX10_find_74 ?_
      refine R_icmp_ge C dX10_find_75 (by omega) (by omega) (fun h75 => ?_) (fun h75 => ?_)
      · refine R_aload_n C dX10_find_83 rfl ?_
        refine R_getA C cl11 fX10_20 (by decide) dX10_find_84 ?_
        refine R_iload_n C dX10_find_87 rfl ?_
        refine R_iald C (j := (M.2 31 k).toNat) (kf := 8) rfl (show (M.2 31 k).toNat < 8 by omega) (by omega) (x := M.2 8 (M.2 31 k).toNat) rfl dX10_find_88 ?_
        exact hj _ (by unfold bndM; split <;> omega)
      · refine R_iload C dX10_find_78 rfl ?_
        refine R_goto C dX10_find_80 ?_
        exact hj _ (by unfold bndM; split <;> omega)
    subst hz2
    refine R_iast C (j := k) (kf := 48) rfl (show k < 40 by omega) rfl dX10_find_89 ?_
    rw [setA_48]
    refine R_aload_n C dX10_find_90 rfl ?_
    refine R_getA C cl11 fX10_135 (by decide) dX10_find_91 ?_
    refine R_iload_n C dX10_find_94 rfl ?_
    refine R_iconst C dX10_find_95 ?_
    refine R_iast C (j := k) (kf := 49) rfl (show k < 40 by omega) rfl dX10_find_96 ?_
    rw [setA_49]
    refine R_cond C (P := M.2 34 k = 1 ∧ M.2 10 (M.2 31 k).toNat = 1) (pt := 116) (pf := 159) (fun hkt hkf => ?_) (fun ho => ?_) (fun ho => ?_)
    · refine R_aload_n C dX10_find_97 rfl ?_
      refine R_getA C cl11 fX10_90 (by decide) dX10_find_98 ?_
      refine R_iload_n C dX10_find_101 rfl ?_
      refine R_iald C (j := k) (kf := 34) rfl (show k < 40 by omega) rfl (x := M.2 34 k) rfl dX10_find_102 ?_
      refine R_iconst C dX10_find_103 ?_
      refine R_icmp_ne C dX10_find_104 (by omega) (by decide) (fun h104 => ?_) (fun h104 => ?_)
      · exact hkf (by omega)
      · refine R_aload_n C dX10_find_107 rfl ?_
        refine R_getA C cl11 fX10_27 (by decide) dX10_find_108 ?_
        refine R_iload_n C dX10_find_111 rfl ?_
        refine R_zald C (j := (M.2 31 k).toNat) (kf := 10) rfl (show (M.2 31 k).toNat < 8 by omega) (by omega) (x := M.2 10 (M.2 31 k).toNat) rfl dX10_find_112 ?_
        refine R_if_eq C dX10_find_113 (by omega) (fun h113 => ?_) (fun h113 => ?_)
        · exact hkf (by omega)
        · exact hkt (by omega)
    · refine R_aload_n C dX10_find_116 rfl ?_
      refine R_getA C cl11 fX10_135 (by decide) dX10_find_117 ?_
      refine R_iload_n C dX10_find_120 rfl ?_
      refine R_join C (pcm := 149) (P := fun z => z = (if bndM M k < capM M k then bndM M k else capM M k)) (fun hj => ?_) (fun z3 hz3 => ?_)
      · refine R_aload_n C dX10_find_121 rfl ?_
        refine R_getA C cl11 fX10_132 (by decide) dX10_find_122 ?_
        refine R_iload_n C dX10_find_125 rfl ?_
        refine R_iald C (j := k) (kf := 48) rfl (show k < 40 by omega) rfl (x := bndM M k) (if_pos rfl) dX10_find_126 ?_
        refine R_aload_n C dX10_find_127 rfl ?_
        refine R_iload_n C dX10_find_128 rfl ?_
        refine R_callVi C (As := [_]) (r := capM M k) (c_X10_cap hl (M := bp M (fun i => if i = k then bndM M k else pre (bndM M) (M.2 48) k i) (fun i => if i = k then 0 else pre (dwnM M) (M.2 49) k i)) hO hk2) kX10_238 rfl rfl (Nat.le_of_ble_eq_true rfl) ⟨by decide, by decide⟩ ⟨Nat.le_refl _, Nat.le_refl _⟩ dX10_find_129 ?_
        refine R_icmp_ge C dX10_find_132 (by omega) (by omega) (fun h132 => ?_) (fun h132 => ?_)
        · refine R_aload_n C dX10_find_144 rfl ?_
          refine R_iload_n C dX10_find_145 rfl ?_
          refine R_callVi C (As := [_]) (r := capM M k) (c_X10_cap hl (M := bp M (fun i => if i = k then bndM M k else pre (bndM M) (M.2 48) k i) (fun i => if i = k then 0 else pre (dwnM M) (M.2 49) k i)) hO hk2) kX10_238 rfl rfl (Nat.le_of_ble_eq_true rfl) ⟨by decide, by decide⟩ ⟨Nat.le_refl _, Nat.le_refl _⟩ dX10_find_146 ?_
          exact hj _ (by split <;> omega)
        · refine R_aload_n C dX10_find_135 rfl ?_
          refine R_getA C cl11 fX10_132 (by decide) dX10_find_136 ?_
          refine R_iload_n C dX10_find_139 rfl ?_
          refine R_iald C (j := k) (kf := 48) rfl (show k < 40 by omega) rfl (x := bndM M k) (if_pos rfl) dX10_find_140 ?_
          refine R_goto C dX10_find_141 ?_
          exact hj _ (by split <;> omega)
      refine R_iast C (j := k) (kf := 49) rfl (show k < 40 by omega) rfl dX10_find_149 ?_
      rw [setA_49]
      refine R_iload_n C dX10_find_150 rfl ?_
      refine R_aload_n C dX10_find_151 rfl ?_
      refine R_getA C cl11 fX10_135 (by decide) dX10_find_152 ?_
      refine R_iload_n C dX10_find_155 rfl ?_
      refine R_iald C (j := k) (kf := 49) rfl (show k < 40 by omega) rfl (x := (if bndM M k < capM M k then bndM M k else capM M k)) ((if_pos rfl).trans hz3) dX10_find_156 ?_
      refine R_isub C dX10_find_157 ?_
      refine R_istore_n C dX10_find_158 (by decide) rfl ?_
      refine R_iinc C dX10_find_159 (by decide) rfl rfl ?_
      refine R_goto C dX10_find_162 ?_
      have ed : dwnM M k = z3 := by unfold dwnM; rw [if_pos ho, ← hz3]
      have h8 := ih (k + 1, some (iv (M.2 31 k)), some (iv z1)) (by show k + 1 ≤ n; omega) (by show 41 - (k + 1) < 41 - k; omega)
      rw [show sumF (dwnM M) (k + 1) = sumF (dwnM M) k + z3 by rw [← ed]; rfl, show M.1 3 + M.1 4 - (sumF (dwnM M) k + z3) = M.1 3 + M.1 4 - sumF (dwnM M) k - z3 by omega, ← pre_2 (dwnM M) (M.2 49) k 0, ← pre_1 (bndM M), ed] at h8
      rw [← hz3]
      exact h8
    · refine R_iinc C dX10_find_159 (by decide) rfl rfl ?_
      refine R_goto C dX10_find_162 ?_
      have ed : dwnM M k = 0 := by unfold dwnM; rw [if_neg ho]
      have h8 := ih (k + 1, some (iv (M.2 31 k)), some (iv z1)) (by show k + 1 ≤ n; omega) (by show 41 - (k + 1) < 41 - k; omega)
      rw [show sumF (dwnM M) (k + 1) = sumF (dwnM M) k by show sumF (dwnM M) k + dwnM M k = _; rw [ed, Int.add_zero], ← pre_1 (dwnM M), ← pre_1 (bndM M), ed] at h8
      exact h8
end REF6
