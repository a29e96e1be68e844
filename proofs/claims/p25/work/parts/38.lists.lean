/-! lists: adding and removing, as lists -/
section LISTS
variable {l : Launch} {D : va_G} {kA : Nat → ClassId} {b t0 : Nat} {X : Mm}
theorem Ct.weakx {y : MethodName} {cc : ByteArray} {n : Nat} {ret : Option FieldType} {fr lc : Nat} {av : List Value} {mc ms : Nat} {post post2 : Option Value → Mm → Prop} {px px2 : String → Mm → Prop} (h : Ct l D kA b t0 y cc n ret fr lc av X mc ms post px) (hp : ∀ v Y, post v Y → post2 v Y) (hx : ∀ E Y, px E Y → px2 E Y) : Ct l D kA b t0 y cc n ret fr lc av X mc ms post2 px2 := fun p e h1 h2 h3 s m args below h4 h5 h6 h7 => by
  obtain ⟨n, o, a1, a2, a3, a4⟩ := h p e h1 h2 h3 s m args below h4 h5 h6 h7
  refine ⟨n, o, a1, a2, a3, ?_⟩
  rcases a4 with ⟨⟨⟨v, Y, q1, q2, q3⟩, q4⟩, q5⟩ | ⟨q, ho, E, ce, L, ⟨⟨Y, g1, g2⟩, g3⟩, g4⟩
  · exact Or.inl ⟨⟨⟨v, Y, q1, hp v Y q2, q3⟩, q4⟩, q5⟩
  · exact Or.inr ⟨q, ho, E, ce, L, ⟨⟨Y, hx E Y g1, g2⟩, g3⟩, g4⟩
theorem Ct.weak {y : MethodName} {cc : ByteArray} {n : Nat} {ret : Option FieldType} {fr lc : Nat} {av : List Value} {mc ms : Nat} {post post2 : Option Value → Mm → Prop} {px : String → Mm → Prop} (h : Ct l D kA b t0 y cc n ret fr lc av X mc ms post px) (hp : ∀ v Y, post v Y → post2 v Y) : Ct l D kA b t0 y cc n ret fr lc av X mc ms post2 px := h.weakx hp (fun _ _ h => h)
theorem oK_ne0 {X : Mm} {v : Nat} (h : oK X v) : gK X v ≠ 0 := by
  unfold oK at h
  omega
theorem oK_eqc {X Y : Mm} {v : Nat} (h : eqc X Y v) (hv : oK X v) : oK Y v := by
  unfold oK at hv ⊢
  rw [h.1]
  exact hv
/-- a list lies as it lay where its two cells do -/
theorem LI.kept {t0 : Nat} {X Y : Mm} {a : Nat} {xs : List Nat} {d c : Nat} (h : LI t0 X a xs d c) (ha : eqc X Y a) (hd : eqc X Y d) (hx : ∀ v, v ∈ xs → eqc X Y v) : LI t0 Y a xs d c := by
  obtain ⟨h1, h2, h3, h4, h5, h6, h7, h8⟩ := h
  refine ⟨ha.1.trans h1, (ha.2.1 2).trans h2, (ha.2.2.1 1).trans h3, hd.2.2.2.1.trans h4, ?_, h6, h7, fun i v hv => ⟨(hd.2.2.2.2.2 i).trans (h8 i v hv).1, oK_eqc (hx v (List.mem_of_getElem? hv)) (h8 i v hv).2⟩⟩
  rw [hd.1]
  exact h5
theorem L_add (hl : l.stackTraces = false) {a : Nat} {xs : List Nat} {d c v : Nat} (h : LI t0 X a xs d c) (hv : oK X v) (hn9 : xs.length ≤ 600) (hda : d ≠ a) : Ct l D kA b t0 yJx4a65c_add_9ea2d cJx4a65c_add_9ea2d 2 (some FieldType.boolean) 6 158 [rv (some a), rv (some v)] X 1 (growN c) (fun r Y => r = some (iv 1) ∧ ∃ d2 c2, LI t0 Y a (xs ++ [v]) d2 c2 ∧ d2 ≠ a ∧ Fr X Y (fun q => q = a ∨ (q = d ∧ gK X d = 23)) ∧ (d2 = d ∨ (gK X d2 = 0 ∧ b ≤ d2)) ∧ ∀ q, gK X q = 0 → q ≠ d2 → gK Y q = 0) pF := by
  have hel := h.el
  obtain ⟨h1, h2, h3, h4, h5, h6, h7, h8⟩ := h
  have hla : ((xs ++ [v]).length : Int) = (xs.length : Int) + 1 := by simp
  have hcat : ∀ i w, (xs ++ [v])[i]? = some w → (i < xs.length ∧ xs[i]? = some w) ∨ (i = xs.length ∧ w = v) := by
    intro i w hw
    by_cases hi : i < xs.length
    · rw [List.getElem?_append_left hi] at hw
      exact Or.inl ⟨hi, hw⟩
    · rw [List.getElem?_append_right (by omega)] at hw
      have h9 := (List.getElem?_eq_some_iff.mp hw).1
      have h9 : i - xs.length < 1 := h9
      rw [show i - xs.length = 0 by omega] at hw
      cases hw
      exact Or.inr ⟨by omega, rfl⟩
  refine Ct.weak (c_Jx4a65c_add_9ea2d hl h1 h3 h4 h5 h7 hel h2 h6 hv) ?_
  rintro r Y ⟨hr, ⟨hlt, rfl⟩ | ⟨hlt, q, hq, hbq, rfl⟩⟩
  · have hKd : gK X d = 23 := by
      rcases h5 with h | h
      · exact h.1
      · omega
    refine ⟨hr, d, c, ⟨h1, ?_, h3, h4, h5, ?_, h7, ?_⟩, hda, ?_, Or.inl rfl, fun q hq _ => hq⟩
    · rw [hla]
      exact if_pos ⟨rfl, rfl⟩
    · simp
      omega
    · intro i w hw
      rcases hcat i w hw with ⟨hi, hw⟩ | ⟨rfl, rfl⟩
      · obtain ⟨g1, g2⟩ := h8 i w hw
        exact ⟨(if_neg (fun z => by omega)).trans g1, g2⟩
      · exact ⟨if_pos ⟨rfl, rfl⟩, hv⟩
    · intro x hx hn
      have n1 : x ≠ a := fun z => hn (Or.inl z)
      have n2 : x ≠ d := fun z => hn (Or.inr ⟨z, hKd⟩)
      exact ⟨rfl, fun f => (if_neg (fun z => n1 z.2)).trans (if_neg (fun z => n1 z.2)), fun f => rfl, rfl, fun i => rfl, fun i => if_neg (fun z => n2 z.1)⟩
  · have hqa : a ≠ q := ne_of_0 hq (by omega)
    have hqd : d ≠ q := ne_of_0 hq (by omega)
    have hkx : ∀ x, gK X x ≠ 0 → x ≠ q := fun x hx => ne_of_0 hq hx
    have hgr : c ≤ growN c ∧ 1 ≤ growN c ∧ xs.length + 1 ≤ growN c ∧ growN c ≤ 1000 := by
      unfold growN
      split
      · omega
      · split <;> omega
    refine ⟨hr, q, growN c, ⟨(if_neg hqa).trans h1, ?_, if_pos ⟨rfl, rfl⟩, if_pos rfl, Or.inl ⟨if_pos rfl, hgr.2.1⟩, ?_, hgr.2.2.2, ?_⟩, Ne.symm hqa, ?_, Or.inr ⟨hq, hbq⟩, fun x hx hxq => (if_neg hxq).trans hx⟩
    · rw [hla]
      exact if_pos ⟨rfl, rfl⟩
    · simp
      omega
    · intro i w hw
      rcases hcat i w hw with ⟨hi, hw⟩ | ⟨rfl, rfl⟩
      · obtain ⟨g1, g2⟩ := h8 i w hw
        refine ⟨?_, oK_alA (X := X) (t := 23) (n := growN c) hq g2⟩
        refine (if_neg (fun z => by omega)).trans ((congrFun (if_pos rfl) i).trans ?_)
        unfold va_cpy
        rw [if_pos (by omega), Nat.sub_zero, Nat.zero_add]
        exact (if_neg hqd).trans g1
      · exact ⟨if_pos ⟨rfl, rfl⟩, oK_alA (X := X) (t := 23) (n := growN c) hq hv⟩
    · intro x hx hn
      have n1 : x ≠ a := fun z => hn (Or.inl z)
      have n2 := hkx x hx
      exact ⟨if_neg n2, fun f => (if_neg (fun z => n1 z.2)).trans (if_neg (fun z => n1 z.2)), fun f => if_neg (fun z => n1 z.2), if_neg n2, fun i => if_neg n2, fun i => (if_neg (fun z => n2 z.1)).trans ((congrFun (if_neg n2) i).trans (if_neg n2))⟩
theorem L_remove (hl : l.stackTraces = false) {a : Nat} {xs : List Nat} {d c v i : Nat} {z : Int} (h : LI t0 X a xs d c) (hv : xs[i]? = some v) (hz : z = (i : Int)) (hda : d ≠ a) : Ct l D kA b t0 yJx4a65c_remove_915e3 cJx4a65c_remove_915e3 4 (some (FieldType.object "java/lang/Object")) 2 71 [rv (some a), iv z] X 0 0 (fun r Y => r = some (rv (some v)) ∧ LI t0 Y a (xs.eraseIdx i) d c ∧ gK Y = gK X ∧ Fr X Y (fun q => q = a ∨ q = d)) pF := by
  subst hz
  have hel := h.el
  have hi : i < xs.length := (List.getElem?_eq_some_iff.mp hv).1
  obtain ⟨h1, h2, h3, h4, h5, h6, h7, h8⟩ := h
  have hKd : gK X d = 23 := by
    rcases h5 with h | h
    · exact h.1
    · omega
  refine Ct.weak (c_Jx4a65c_remove_915e3 hl h1 hKd h4 (by omega) hel h2 h6 hi h3 (h8 i v hv).1) ?_
  rintro r Y ⟨hr, rfl⟩
  refine ⟨hr, ⟨h1, ?_, h3, h4, h5, ?_, h7, ?_⟩, rfl, ?_⟩
  · rw [List.length_eraseIdx_of_lt hi]
    refine (if_pos ⟨rfl, rfl⟩).trans ?_
    omega
  · rw [List.length_eraseIdx_of_lt hi]
    omega
  · intro j w hw
    have hj : j < xs.length - 1 := by
      have := (List.getElem?_eq_some_iff.mp hw).1
      rw [List.length_eraseIdx_of_lt hi] at this
      exact this
    rw [List.getElem?_eraseIdx] at hw
    have e : gO (rmM X a d i xs.length) d j = va_cpy (gO X d) (gO X d) (i + 1) i (xs.length - 1 - i) j := (if_neg (fun z => by omega)).trans (congrFun (if_pos rfl) j)
    have e2 : ∀ u, oK (rmM X a d i xs.length) u = oK X u := fun u => rfl
    rw [e, e2]
    unfold va_cpy
    by_cases hji : j < i
    · rw [if_pos hji] at hw
      rw [if_neg (by omega)]
      exact h8 j w hw
    · rw [if_neg hji] at hw
      rw [if_pos (by omega), show i + 1 + (j - i) = j + 1 by omega]
      exact h8 (j + 1) w hw
  · intro x hx hn
    have n1 : x ≠ a := fun z => hn (Or.inl z)
    have n2 : x ≠ d := fun z => hn (Or.inr z)
    exact ⟨rfl, fun f => (if_neg (fun z => n1 z.2)).trans (if_neg (fun z => n1 z.2)), fun f => rfl, rfl, fun i => rfl, fun i => (if_neg (fun z => n2 z.1)).trans (congrFun (if_neg n2) i)⟩
end LISTS
