/-! the law: cell and at, called -/
section LCALL
variable {p : Program} {l : Launch} {e : Env} {R : Room} {s : State} {m : MethodId} {args : Array Value} {below : List Frame} {meth : Method} {c : Code}
variable {D : va_G} {kA : Nat → ClassId} {b t0 nL cells slots : Nat} {Q : State → Prop} {nm : String} {cc : ByteArray} {X : Mm} {pc pc' : Nat} {lv : List (Option Value)} {st : List Value}
theorem V_at (C : Cx p l s m args meth c D kA b t0 nL RL nm cc) (hl : l.stackTraces = false) {x n : Int} (hn : 1 ≤ n ∧ n ≤ 2147483647) (hcat : (st.map fun v => v.category).sum ≤ 8) (hR : 1 ≤ R.frames ∧ 21 ≤ R.locals) (hf : cells ≤ R.cells ∧ slots ≤ R.slots) (d : DI cc pc (.invokestatic 19) 3 pc') (k : ∀ z : Nat, (z : Int) < n → V p l e R s m args below meth c D kA b nL (cells) (slots) (Q) X (pc') (lv) (iv (z : Int) :: st)) : V p l e R s m args below meth c D kA b nL (cells) (slots) (Q) X (pc) (lv) (iv n :: iv x :: st) := by
  refine V_callS C (As := [iv x, iv n]) (c_L_at hl hn) kL_19 rfl rfl hcat hR hf d (fun _ _ h => h.elim) (fun v Y hp => ?_)
  obtain ⟨⟨z, rfl, hz⟩, hY⟩ := hp
  rw [hY]
  have h9 := k z.toNat (by omega)
  rw [show ((z.toNat : Nat) : Int) = z by omega] at h9
  exact h9
theorem V_cell (C : Cx p l s m args meth c D kA b t0 nL RL nm cc) (hl : l.stackTraces = false) {sb L : Nat} {xs : Nat → Int32} (hX : va_X sb L xs s s.heap) (hb1 : sb < s.heap.size) (hb2 : sb < b) (hL : L ≤ 260) {k : Nat} {q : Int} (hk : k ≤ 1000) (hq : q = (k : Int)) (hcat : (st.map fun v => v.category).sum ≤ 8) (hR : 1 ≤ R.frames ∧ 21 ≤ R.locals) (hf : cells ≤ R.cells ∧ slots ≤ R.slots) (d : DI cc pc (.invokestatic 11) 3 pc') (kk : ∀ z : Int, rng z → V p l e R s m args below meth c D kA b nL (cells) (slots) (Q) X (pc') (lv) (iv z :: st)) : V p l e R s m args below meth c D kA b nL (cells) (slots) (Q) X (pc) (lv) (iv q :: rv (some sb) :: st) := by
  subst hq
  refine V_callSs C hX hb1 hb2 (As := [rv (some sb), iv (k : Int)]) (c_L_cell hl hb2 hL hk) kL_11 rfl rfl hcat hR hf d (fun _ _ h => h.elim) (fun v Y hp => ?_)
  obtain ⟨⟨z, rfl, hz⟩, hY⟩ := hp
  rw [hY]
  exact kk z hz
end LCALL
