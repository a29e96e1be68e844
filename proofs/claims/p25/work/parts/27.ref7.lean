/-! the reference: bookings -/
def bkM (M : Mo) (c a f t : Nat → Int) : Mo := setR (setR (setR (setR M 26 c) 27 a) 28 f) 29 t
theorem bkM_self (M : Mo) : bkM M (M.2 26) (M.2 27) (M.2 28) (M.2 29) = M := by
  unfold bkM setR
  refine Prod.ext rfl ?_
  funext j
  dsimp only
  repeat' split
  all_goals simp_all
theorem bkM_bkM (M : Mo) (c a f t c2 a2 f2 t2 : Nat → Int) : bkM (bkM M c a f t) c2 a2 f2 t2 = bkM M c2 a2 f2 t2 := by
  unfold bkM setR
  refine Prod.ext rfl ?_
  funext j
  dsimp only
  repeat' split
  all_goals simp_all
theorem setA_26 (M : Mo) (c a f t : Nat → Int) (k : Nat) (v : Int) : setA (bkM M c a f t) 26 k v = bkM M (fun i => if i = k then v else c i) a f t := by
  unfold bkM setR setA
  refine Prod.ext rfl ?_
  funext j x
  dsimp only
  by_cases h : j = 26
  · subst h; simp
  · rw [if_neg h]
    repeat' split
    all_goals simp_all
theorem setA_27 (M : Mo) (c a f t : Nat → Int) (k : Nat) (v : Int) : setA (bkM M c a f t) 27 k v = bkM M c (fun i => if i = k then v else a i) f t := by
  unfold bkM setR setA
  refine Prod.ext rfl ?_
  funext j x
  dsimp only
  by_cases h : j = 27
  · subst h; simp
  · rw [if_neg h]
    repeat' split
    all_goals simp_all
theorem setA_28 (M : Mo) (c a f t : Nat → Int) (k : Nat) (v : Int) : setA (bkM M c a f t) 28 k v = bkM M c a (fun i => if i = k then v else f i) t := by
  unfold bkM setR setA
  refine Prod.ext rfl ?_
  funext j x
  dsimp only
  by_cases h : j = 28
  · subst h; simp
  · rw [if_neg h]
    repeat' split
    all_goals simp_all
theorem setA_29 (M : Mo) (c a f t : Nat → Int) (k : Nat) (v : Int) : setA (bkM M c a f t) 29 k v = bkM M c a f (fun i => if i = k then v else t i) := by
  unfold bkM setR setA
  refine Prod.ext rfl ?_
  funext j x
  dsimp only
  by_cases h : j = 29
  · subst h; simp
  · rw [if_neg h]
    repeat' split
    all_goals simp_all
/-- one place is shifted out -/
def shB (a : Nat → Int) (lo hi i : Nat) : Int := if lo ≤ i ∧ i < hi then a (i + 1) else a i
theorem shB_0 (a : Nat → Int) (lo : Nat) : shB a lo lo = a := by
  funext i
  unfold shB
  rw [if_neg (by omega)]
theorem shB_1 (a : Nat → Int) {lo k : Nat} (h : lo ≤ k) : (fun i => if i = k then a (k + 1) else shB a lo k i) = shB a lo (k + 1) := by
  funext i
  unfold shB
  by_cases e : i = k
  · subst e
    rw [if_pos rfl, if_pos (by omega)]
  · rw [if_neg e]
    have e2 : (lo ≤ i ∧ i < k + 1) ↔ (lo ≤ i ∧ i < k) := by omega
    simp only [e2]
/-- a socket's bookings -/
def blF (c a f t : Nat → Int) (s : Nat) : List (Int × Int × Int) := (List.range (c s).toNat).map fun i => (a (1500 * s + i), f (1500 * s + i), t (1500 * s + i))
def bkL (M : Mo) (s : Nat) : List (Int × Int × Int) := blF (M.2 26) (M.2 27) (M.2 28) (M.2 29) s
theorem blF_get {c a f t : Nat → Int} {s i : Nat} (h : (i : Int) < c s) : (blF c a f t s)[i]? = some (a (1500 * s + i), f (1500 * s + i), t (1500 * s + i)) := by
  unfold blF
  rw [List.getElem?_map, List.getElem?_range (by omega)]
  rfl
theorem blF_len (c a f t : Nat → Int) (s : Nat) : (blF c a f t s).length = (c s).toNat := by simp [blF]
def goC (c : Nat → Int) (s : Nat) : Nat → Int := fun u => if u = s then c s - 1 else c u
def goA (c a : Nat → Int) (s p : Nat) : Nat → Int := shB a (1500 * s + p) (1500 * s + (c s).toNat - 1)
theorem go_this {c a f t : Nat → Int} {s p : Nat} (hp : (p : Int) < c s) : blF (goC c s) (goA c a s p) (goA c f s p) (goA c t s p) s = (blF c a f t s).eraseIdx p := by
  have hc : goC c s s = c s - 1 := if_pos rfl
  refine List.ext_getElem? fun i => ?_
  rw [List.getElem?_eraseIdx]
  by_cases hi : (i : Int) < c s - 1
  · rw [blF_get (by rw [hc]; exact hi)]
    unfold goA shB
    by_cases h2 : i < p
    · rw [if_pos h2, blF_get (by omega), if_neg (by omega), if_neg (by omega), if_neg (by omega)]
    · rw [if_neg h2, blF_get (by omega), if_pos (by omega), if_pos (by omega), if_pos (by omega)]
      rfl
  · rw [List.getElem?_eq_none (by rw [blF_len, hc]; omega)]
    split
    · omega
    · rw [List.getElem?_eq_none (by rw [blF_len]; omega)]
theorem go_that {c a f t : Nat → Int} {s p u : Nat} (hu : u ≠ s) (hc : c u ≤ 1500) (hs : c s ≤ 1500) : blF (goC c s) (goA c a s p) (goA c f s p) (goA c t s p) u = blF c a f t u := by
  have hcu : goC c s u = c u := if_neg hu
  unfold blF
  rw [hcu]
  refine List.map_congr_left fun i hi => ?_
  have hi2 := List.mem_range.mp hi
  unfold goA shB
  rw [if_neg (by omega), if_neg (by omega), if_neg (by omega)]
theorem take_erase {α : Type} (l r : List α) (k : Nat) (hk : k < l.length) : (l.take (k + 1) ++ r).eraseIdx k = l.take k ++ r := by
  rw [List.eraseIdx_append_of_lt_length (by rw [List.length_take]; omega)]
  congr 1
  rw [List.eraseIdx_eq_take_drop_succ, List.take_take, Nat.min_eq_left (by omega), List.drop_take]
  simp
section REF7
variable {l : Launch} {D : va_G} {kA : Nat → ClassId} {b t0 mo : Nat} {ad : Nat → Nat} {M : Mo}

theorem filt_step {α : Type} (L : List α) (kp : α → Bool) {i : Nat} {x : α} (h : L[i]? = some x) : (L.drop i).filter kp = if kp x = true then x :: (L.drop (i + 1)).filter kp else (L.drop (i + 1)).filter kp := by
  obtain ⟨hl, hx⟩ := List.getElem?_eq_some_iff.mp h
  rw [List.drop_eq_getElem_cons hl, hx, List.filter_cons]
theorem take_step {α : Type} (L r : List α) {i : Nat} {x : α} (h : L[i]? = some x) : L.take (i + 1) ++ r = L.take i ++ (x :: r) := by
  obtain ⟨hl, hx⟩ := List.getElem?_eq_some_iff.mp h
  rw [List.take_add_one, h, List.append_assoc]
  rfl
def keepB (now : Int) (q : Int × Int × Int) : Bool := decide (now < q.2.1 + 15)
/-- bookings that are late have gone, of the sockets below s -/
def lateI (now : Int) (c a f t c2 a2 f2 t2 : Nat → Int) (s : Nat) : Prop := ∀ u : Nat, u < 8 → (0 ≤ c2 u ∧ c2 u ≤ c u) ∧ (u < s → blF c2 a2 f2 t2 u = (blF c a f t u).filter (keepB now)) ∧ (s ≤ u → blF c2 a2 f2 t2 u = blF c a f t u)
end REF7
