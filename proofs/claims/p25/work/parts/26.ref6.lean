/-! the reference: the powers of a minute -/
def wntM (M : Mo) (k : Nat) : Int := if M.2 34 k = 1 ∧ M.2 9 (M.2 31 k).toNat = 0 then wantM M (M.2 32 k).toNat else 0
def bndM (M : Mo) (k : Nat) : Int := if wntM M k < M.2 8 (M.2 31 k).toNat then wntM M k else M.2 8 (M.2 31 k).toNat
def dwnM (M : Mo) (k : Nat) : Int := if M.2 34 k = 1 ∧ M.2 10 (M.2 31 k).toNat = 1 then (if bndM M k < capM M k then bndM M k else capM M k) else 0
def sumF (f : Nat → Int) : Nat → Int
  | 0 => 0
  | n + 1 => sumF f n + f n
def pre (f g : Nat → Int) (k i : Nat) : Int := if i < k then f i else g i
theorem pre_0 (f g : Nat → Int) : pre f g 0 = g := by
  funext i
  unfold pre
  rw [if_neg (Nat.not_lt_zero i)]
theorem pre_1 (f g : Nat → Int) (k : Nat) : (fun i => if i = k then f k else pre f g k i) = pre f g (k + 1) := by
  funext i
  unfold pre
  by_cases e : i = k
  · subst e
    rw [if_pos rfl, if_pos (Nat.lt_succ_self i)]
  · rw [if_neg e]
    have e2 : i < k + 1 ↔ i < k := by omega
    simp only [e2]
theorem pre_2 (f g : Nat → Int) (k : Nat) (v : Int) : (fun i => if i = k then f k else (fun i => if i = k then v else pre f g k i) i) = pre f g (k + 1) := by
  rw [← pre_1]
  funext i
  by_cases e : i = k
  · rw [if_pos e, if_pos e]
  · rw [if_neg e, if_neg e]
    exact if_neg e
def BM (M : Mo) (n : Nat) : Nat → Int := pre (bndM M) (M.2 48) n
def PM (M : Mo) (n : Nat) : Nat → Int := pre (dwnM M) (M.2 49) n
def lfM (M : Mo) (n : Nat) : Int := M.1 3 + M.1 4 - sumF (dwnM M) n
def s1M (M : Mo) (n : Nat) : (Nat → Int) × Int := srvTo M n (BM M n) 1 256 (PM M n, if 0 < lfM M n then lfM M n else 0)
def s2M (M : Mo) (n : Nat) : (Nat → Int) × Int := srvTo M n (BM M n) 0 256 (s1M M n)
def tbM (M : Mo) (n : Nat) (k : Nat) : Bool := decide (k < n ∧ (M.2 34 k = 1 ∧ M.2 10 (M.2 31 k).toNat = 0) ∧ (s2M M n).1 k = 1400)
/-- the powers of the minute that begins now, of n sessions -/
def powM (M : Mo) (n : Nat) : Nat → Int := shF (tbM M n) (BM M n) (s2M M n).1 n (s2M M n).2
theorem bndM_in {M : Mo} {k : Nat} (hO : OkM M) (hk : (k : Int) < M.1 30) : 0 ≤ bndM M k ∧ bndM M k ≤ 50000 := by
  have h0 := hO.1
  have h1 := (hO.2.2.2.2.1 k hk).1
  unfold okSe at h1
  have h0' := h0
  unfold okSc at h0'
  have h2 := hO.2.1 (M.2 31 k).toNat (by omega)
  unfold okSo at h2
  have h3 := hO.2.2.1 (M.2 32 k).toNat (by omega)
  have h4 := wantM_in h0 h3
  have h5 : 0 ≤ wantM M (M.2 32 k).toNat := h4.1
  unfold bndM wntM
  split <;> split <;> omega
theorem capM_in {M : Mo} {k : Nat} (hO : OkM M) (hk : (k : Int) < M.1 30) : 0 ≤ capM M k ∧ capM M k ≤ 50000 := by
  have h1 := (hO.2.2.2.2.1 k hk).1
  unfold okSe at h1
  unfold capM
  split <;> omega
theorem dwnM_in {M : Mo} {k : Nat} (hO : OkM M) (hk : (k : Int) < M.1 30) : 0 ≤ dwnM M k ∧ dwnM M k ≤ 50000 := by
  have h1 := bndM_in hO hk
  have h2 := capM_in hO hk
  unfold dwnM
  split
  · split <;> omega
  · omega
theorem sumF_in {f : Nat → Int} {n : Nat} (h : ∀ k, k < n → 0 ≤ f k ∧ f k ≤ 50000) : 0 ≤ sumF f n ∧ sumF f n ≤ 50000 * n := by
  induction n with
  | zero => exact ⟨Int.le_refl _, Int.le_refl _⟩
  | succ n ih =>
    have h1 := ih (fun k hk => h k (Nat.lt_succ_of_lt hk))
    have h2 := h n (Nat.lt_succ_self n)
    show 0 ≤ sumF f n + f n ∧ sumF f n + f n ≤ 50000 * ((n + 1 : Nat) : Int)
    omega
/-- what serving does to each -/
theorem srv_val {M : Mo} {n : Nat} {B : Nat → Int} {g : Int} {s : (Nat → Int) × Int} (hg : g = 0 ∨ g = 1) (c k : Nat) : (srvTo M n B g c s).1 k = s.1 k ∨ (k < n ∧ svd M k ∧ ((g = 1 ∧ 1400 ≤ B k ∧ (srvTo M n B g c s).1 k = 1400) ∨ (g = 0 ∧ B k < 1400 ∧ (srvTo M n B g c s).1 k = B k))) := by
  induction c with
  | zero => exact Or.inl rfl
  | succ c ih =>
    show (srvAt M n B g c (srvTo M n B g c s)).1 k = s.1 k ∨ (k < n ∧ svd M k ∧ ((g = 1 ∧ 1400 ≤ B k ∧ (srvAt M n B g c (srvTo M n B g c s)).1 k = 1400) ∨ (g = 0 ∧ B k < 1400 ∧ (srvAt M n B g c (srvTo M n B g c s)).1 k = B k)))
    unfold srvAt
    split
    · rename_i h
      unfold srvK
      generalize hm : (if g = 1 then 1400 else B (c % 64)) = mm
      split
      · rename_i h2
        dsimp only
        by_cases e : k = c % 64
        · subst e
          right
          refine ⟨h.1, h.2.1, ?_⟩
          rw [if_pos rfl]
          have h3 := h2.1
          rcases hg with rfl | rfl
          · rw [if_neg (by decide)] at hm
            right
            omega
          · rw [if_pos rfl] at hm
            left
            omega
        · rw [if_neg e]
          exact ih
      · exact ih
    · exact ih
theorem wfF_in {tb : Nat → Bool} {B : Nat → Int} {n : Nat} : ∀ (f : Nat) (left : Int), 50000 - (f : Int) ≤ (wfF tb B n f left).1 ∧ (wfF tb B n f left).1 ≤ 50000 := by
  intro f
  induction f with
  | zero => exact fun left => ⟨by show (50000 : Int) - ((0 : Nat) : Int) ≤ 50000; omega, by show (50000 : Int) ≤ 50000; omega⟩
  | succ f ih =>
    intro left
    show 50000 - ((f + 1 : Nat) : Int) ≤ (if left < cntF tb B (50000 - ((f + 1 : Nat) : Int)) n ∨ cntF tb B (50000 - ((f + 1 : Nat) : Int)) n = 0 then ((50000 : Int) - ((f + 1 : Nat) : Int), left) else wfF tb B n f (left - cntF tb B (50000 - ((f + 1 : Nat) : Int)) n)).1 ∧ (if left < cntF tb B (50000 - ((f + 1 : Nat) : Int)) n ∨ cntF tb B (50000 - ((f + 1 : Nat) : Int)) n = 0 then ((50000 : Int) - ((f + 1 : Nat) : Int), left) else wfF tb B n f (left - cntF tb B (50000 - ((f + 1 : Nat) : Int)) n)).1 ≤ 50000
    split
    · dsimp only
      omega
    · have := ih (left - cntF tb B (50000 - ((f + 1 : Nat) : Int)) n)
      omega
/-- no power is above its bound where one takes -/
theorem shF_in {tb : Nat → Bool} {B P : Nat → Int} {n : Nat} {q : Int} {k : Nat} (hb : tb k = true → 1400 ≤ B k) : (tb k = true → 1400 ≤ shF tb B P n q k ∧ shF tb B P n q k ≤ B k) ∧ (¬ tb k = true → shF tb B P n q k = P k) := by
  have h1 := wfF_in (tb := tb) (B := B) (n := n) 48600 q
  unfold shF fnF lvF
  constructor
  · intro ht
    have := hb ht
    split
    · omega
    · first | (rw [if_pos ht]; split <;> omega) | (split <;> omega)
  · intro ht
    rw [if_neg (fun z => ht z.1), if_neg ht]
theorem powM_in {M : Mo} {n k : Nat} (hO : OkM M) (hn : (n : Int) = M.1 30) (hk : k < n) : 0 ≤ powM M n k ∧ powM M n k ≤ bndM M k ∧ (M.2 34 k ≠ 1 → powM M n k = 0) := by
  have hb := bndM_in hO (by omega : (k : Int) < M.1 30)
  have hd := dwnM_in hO (by omega : (k : Int) < M.1 30)
  have e1 : BM M n k = bndM M k := if_pos hk
  have e2 : PM M n k = dwnM M k := if_pos hk
  have hd2 : dwnM M k ≤ bndM M k := by
    unfold dwnM
    split
    · split <;> omega
    · omega
  have hd3 : M.2 34 k ≠ 1 → dwnM M k = 0 := fun h => by
    unfold dwnM
    rw [if_neg (fun z => h z.1)]
  have v1 := srv_val (M := M) (n := n) (B := BM M n) (g := 1) (s := (PM M n, if 0 < lfM M n then lfM M n else 0)) (Or.inr rfl) 256 k
  have v2 := srv_val (M := M) (n := n) (B := BM M n) (g := 0) (s := s1M M n) (Or.inl rfl) 256 k
  have hp : 0 ≤ (s2M M n).1 k ∧ (s2M M n).1 k ≤ bndM M k ∧ (M.2 34 k ≠ 1 → (s2M M n).1 k = 0) := by
    show 0 ≤ (srvTo M n (BM M n) 0 256 (s1M M n)).1 k ∧ (srvTo M n (BM M n) 0 256 (s1M M n)).1 k ≤ bndM M k ∧ (M.2 34 k ≠ 1 → (srvTo M n (BM M n) 0 256 (s1M M n)).1 k = 0)
    rw [e1] at v1 v2
    have v3 : (s1M M n).1 k = (srvTo M n (BM M n) 1 256 (PM M n, if 0 < lfM M n then lfM M n else 0)).1 k := rfl
    dsimp only at v1
    rw [e2, ← v3] at v1
    unfold svd at v1 v2
    refine ⟨by omega, by omega, fun h => ?_⟩
    have := hd3 h
    omega
  have hs := shF_in (tb := tbM M n) (B := BM M n) (P := (s2M M n).1) (n := n) (q := (s2M M n).2) (k := k) (fun h => by
    have h2 := of_decide_eq_true h
    rw [e1]
    have := hp.2.1
    omega)
  unfold powM
  by_cases ht : tbM M n k = true
  · have h2 := of_decide_eq_true ht
    have h3 := hs.1 ht
    rw [e1] at h3
    refine ⟨by omega, h3.2, fun h => absurd h2.2.1.1 h⟩
  · rw [hs.2 ht]
    exact hp
section REF6
variable {l : Launch} {D : va_G} {kA : Nat → ClassId} {b t0 mo : Nat} {ad : Nat → Nat} {M : Mo}

end REF6
