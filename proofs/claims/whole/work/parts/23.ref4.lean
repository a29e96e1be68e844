/-! the reference: serving by ranks -/
def srvK (B : Nat → Int) (g : Int) (k : Nat) (s : (Nat → Int) × Int) : (Nat → Int) × Int := if (1400 ≤ B k ↔ g = 1) ∧ (if g = 1 then 1400 else B k) ≤ s.2 then (fun i => if i = k then (if g = 1 then 1400 else B k) else s.1 i, s.2 - (if g = 1 then 1400 else B k)) else s
def srvAt (M : Mo) (n : Nat) (B : Nat → Int) (g : Int) (c : Nat) (s : (Nat → Int) × Int) : (Nat → Int) × Int := if c % 64 < n ∧ (M.2 34 (c % 64) = 1 ∧ M.2 10 (M.2 31 (c % 64)).toNat = 0) ∧ kap M (c % 64) = c then srvK B g (c % 64) s else s
def srvTo (M : Mo) (n : Nat) (B : Nat → Int) (g : Int) : Nat → (Nat → Int) × Int → (Nat → Int) × Int
  | 0, s => s
  | c + 1, s => srvAt M n B g c (srvTo M n B g c s)
theorem kap_in {M : Mo} (hO : OkM M) {k : Nat} (hk : (k : Int) < M.1 30) : 0 ≤ kap M k ∧ kap M k < 256 ∧ (kap M k).toNat % 64 = k := by
  have h0 := hO.1
  unfold okSc at h0
  have h1 := (hO.2.2.2.2.1 k hk).1
  unfold okSe at h1
  have h3 := hO.2.2.2.1 (M.2 33 k).toNat (by omega)
  unfold okCd at h3
  unfold kap
  omega
theorem srv_skip {M : Mo} {n : Nat} {B : Nat → Int} {g : Int} {s : (Nat → Int) × Int} {c : Nat} : ∀ d : Nat, (∀ j : Nat, j < n → svd M j → kap M j < c ∨ (c + d : Nat) ≤ kap M j) → srvTo M n B g (c + d) s = srvTo M n B g c s := by
  intro d
  induction d with
  | zero => exact fun _ => rfl
  | succ d ih =>
    intro h
    show srvAt M n B g (c + d) (srvTo M n B g (c + d) s) = _
    rw [ih (fun j h1 h2 => by rcases h j h1 h2 with z | z <;> omega)]
    unfold srvAt
    rw [if_neg]
    rintro ⟨h1, h2, h3⟩
    rcases h _ h1 h2 with z | z <;> omega
theorem srv_hit {M : Mo} {n : Nat} {B : Nat → Int} {g : Int} {s : (Nat → Int) × Int} {k : Nat} (hO : OkM M) (hn : (n : Int) = M.1 30) (hk : k < n) (hs : svd M k) : srvTo M n B g ((kap M k).toNat + 1) s = srvK B g k (srvTo M n B g (kap M k).toNat s) := by
  obtain ⟨h1, h2, h3⟩ := kap_in hO (k := k) (by omega)
  show srvAt M n B g (kap M k).toNat (srvTo M n B g (kap M k).toNat s) = _
  unfold srvAt
  rw [h3, if_pos ⟨hk, hs, by omega⟩]
theorem srv_le {M : Mo} {n : Nat} {B : Nat → Int} {g : Int} {P : Nat → Int} {left : Int} (hB : ∀ k, k < n → 0 ≤ B k) (h0 : 0 ≤ left) (c : Nat) : 0 ≤ (srvTo M n B g c (P, left)).2 ∧ (srvTo M n B g c (P, left)).2 ≤ left := by
  induction c with
  | zero => exact ⟨h0, Int.le_refl _⟩
  | succ c ih =>
    show 0 ≤ (srvAt M n B g c (srvTo M n B g c (P, left))).2 ∧ (srvAt M n B g c (srvTo M n B g c (P, left))).2 ≤ left
    unfold srvAt
    split
    · rename_i h
      have hb := hB _ h.1
      unfold srvK
      generalize hm : (if g = 1 then 1400 else B (c % 64)) = mm
      have hm0 : 0 ≤ mm := by
        rw [← hm]
        split <;> omega
      split
      · dsimp only
        omega
      · exact ih
    · exact ih
section REF4
variable {l : Launch} {D : va_G} {kA : Nat → ClassId} {b t0 mo : Nat} {ad : Nat → Nat} {M : Mo}

set_option maxRecDepth 20000 in
theorem c_X10_serve (hl : l.stackTraces = false) {B P : Nat → Int} {q g : Int} {n : Nat} (hO : OkM M) (hn : (n : Int) = M.1 30) (hB : ∀ k, k < n → 0 ≤ B k ∧ B k ≤ 50000) (hq : 0 ≤ q ∧ q ≤ 300000) (hg : g = 0 ∨ g = 1) : Cr l D kA b t0 mo ad yX10_serve cX10_serve 6 (some FieldType.int) 2 48 [rv (some mo), iv q, iv g] (bp M B P) (fun v M2 => M2 = bp M B (srvTo M n B g 256 (P, q)).1 ∧ v = some (iv (srvTo M n B g 256 (P, q)).2)) := by
  refine Cr_mk hl (by decide) (Nat.le_of_ble_eq_true rfl) rfl ?_
  intro X0 p e s m args below meth c C hr
  have h0 := hO.1
  unfold okSc at h0
  have hnn : n = (M.1 30).toNat := by omega
  have hB0 : ∀ k, k < n → 0 ≤ B k := fun k hk => (hB k hk).1
  refine R_iload_n C dX10_serve_0 rfl ?_
  refine R_istore_n C dX10_serve_1 (by decide) rfl ?_
  refine R_aload_n C dX10_serve_2 rfl ?_
  refine R_iconst C dX10_serve_3 ?_
  refine R_callV C (As := [_]) (c_X10_behind hl (c0 := 0) hO (Or.inl ⟨rfl, rfl⟩)) kX10_228 rfl rfl (Nat.le_of_ble_eq_true rfl) ⟨by decide, by decide⟩ ⟨Nat.le_refl _, Nat.le_refl _⟩ dX10_serve_4 (fun v M2 hp => ?_)
  obtain ⟨rfl, r0, rfl, hfr0⟩ := hp
  refine R_istore C dX10_serve_7 (by decide) rfl ?_
  refine R_while C (St := Nat × Int × Option Value) (f := fun x => bp M B (srvTo M n B g x.1 (P, q)).1) (g := fun x => [some (rv (some mo)), some (iv q), some (iv g), some (iv (srvTo M n B g x.1 (P, q)).2), some (iv x.2.1), x.2.2]) (μ := fun x => 300 - x.1) (I := fun x => x.1 ≤ 256 ∧ fnd M x.1 n x.2.1) (x0 := (0, r0, none)) rfl rfl ⟨Nat.zero_le _, by rw [hnn]; exact hfr0⟩ ?_
  rintro ⟨c0, a, u5⟩ ⟨hc, hf⟩ ih
  dsimp only at hc hf ih ⊢
  have hle := srv_le (M := M) (n := n) (g := g) (P := P) hB0 hq.1 c0
  have hf3 : a = -1 ∨ (0 ≤ a ∧ a < n) := hf.imp (fun z => z.1) (fun z => ⟨z.1, z.2.1⟩)
  refine R_iload C dX10_serve_9 rfl ?_
  refine R_iconst C dX10_serve_11 ?_
  refine R_icmp_eq C dX10_serve_12 (by omega) (by decide) (fun h12 => ?_) (fun h12 => ?_)
  · have ef : srvTo M n B g 256 (P, q) = srvTo M n B g c0 (P, q) := by
      have h9 := srv_skip (M := M) (n := n) (B := B) (g := g) (s := (P, q)) (c := c0) (256 - c0) (fun j hj hs => by rcases hf with z | z; exact Or.inl (z.2 j hj hs); omega)
      rwa [show c0 + (256 - c0) = 256 by omega] at h9
    refine R_iload_n C dX10_serve_87 rfl ?_
    exact R_iret C ⟨by rw [ef], by rw [ef]⟩ hr dX10_serve_88
  · obtain ⟨k, rfl⟩ : ∃ k : Nat, a = (k : Int) := ⟨a.toNat, by omega⟩
    rcases hf with z | ⟨-, hkn, hsv, hc0, hmin⟩
    · exact absurd z.1 h12
    rw [show ((k : Nat) : Int).toNat = k by omega] at hsv hc0 hmin
    have hk : (k : Int) < M.1 30 := by omega
    obtain ⟨hk1, hk2, hk3⟩ := kap_in hO hk
    have hbk := hB k (by omega)
    have es : srvTo M n B g (kap M k).toNat (P, q) = srvTo M n B g c0 (P, q) := by
      have h9 := srv_skip (M := M) (n := n) (B := B) (g := g) (s := (P, q)) (c := c0) ((kap M k).toNat - c0) (fun j hj hs => by
        rcases Int.lt_or_le (kap M j) c0 with z | z
        · exact Or.inl z
        · have := hmin j hj hs z
          omega)
      rwa [show c0 + ((kap M k).toNat - c0) = (kap M k).toNat by omega] at h9
    have eh := srv_hit (B := B) (g := g) (s := (P, q)) hO hn (by omega : k < n) hsv
    rw [es] at eh
    obtain ⟨P1, l1, he⟩ : ∃ P1 l1, srvTo M n B g c0 (P, q) = (P1, l1) := ⟨_, _, rfl⟩
    rw [he] at eh hle ⊢
    dsimp only at hle ⊢
    refine R_join C (pcm := 32) (P := fun z => z = (if g = 1 then 1400 else B k)) (fun hj => ?_) (fun z1 hz1 => ?_)
    · refine R_iload_n C dX10_serve_15 rfl ?_
      refine R_if_eq C dX10_serve_16 (by omega) (fun h16 => ?_) (fun h16 => ?_)
      · refine R_aload_n C dX10_serve_25 rfl ?_
        refine R_getA C cl11 fX10_132 (by decide) dX10_serve_26 ?_
        refine R_iload C dX10_serve_29 rfl ?_
        refine R_iald C (j := k) (kf := 48) rfl (show k < 40 by omega) rfl (x := B k) rfl dX10_serve_31 ?_
        exact hj _ (by split <;> omega)
      · refine R_sipush C dX10_serve_19 (by decide) ?_
        refine R_goto C dX10_serve_22 ?_
        exact hj _ (by split <;> omega)
    have hz1b : 0 ≤ z1 ∧ z1 ≤ 50000 := by split at hz1 <;> omega
    refine R_istore C dX10_serve_32 (by decide) rfl ?_
    refine R_join C (pcm := 52) (P := fun z => (z = 1 ∧ 1400 ≤ B k) ∨ (z = 0 ∧ ¬ 1400 ≤ B k)) (fun hj => ?_) (fun z2 hz2 => ?_)
    · refine R_aload_n C dX10_serve_34 rfl ?_
      refine R_getA C cl11 fX10_132 (by decide) dX10_serve_35 ?_
      refine R_iload C dX10_serve_38 rfl ?_
      refine R_iald C (j := k) (kf := 48) rfl (show k < 40 by omega) rfl (x := B k) rfl dX10_serve_40 ?_
      refine R_sipush C dX10_serve_41 (by decide) ?_
      refine R_icmp_lt C dX10_serve_44 (by omega) (by decide) (fun h44 => ?_) (fun h44 => ?_)
      · refine R_iconst C dX10_serve_51 ?_
        exact hj _ (by omega)
      · refine R_iconst C dX10_serve_47 ?_
        refine R_goto C dX10_serve_48 ?_
        exact hj _ (by omega)
    refine R_iload_n C dX10_serve_52 rfl ?_
    refine R_icmp_ne C dX10_serve_53 (by omega) (by omega) (fun h53 => ?_) (fun h53 => ?_)
    · refine R_aload_n C dX10_serve_76 rfl ?_
      refine R_iload C dX10_serve_77 rfl ?_
      refine R_callV C (As := [_]) (c_X10_behind hl (c0 := kap M k + 1) hO (Or.inr ⟨k, hk, rfl, rfl⟩)) kX10_228 rfl rfl (Nat.le_of_ble_eq_true rfl) ⟨by decide, by decide⟩ ⟨Nat.le_refl _, Nat.le_refl _⟩ dX10_serve_79 (fun v M2 hp => ?_)
      obtain ⟨rfl, r1, rfl, hfr1⟩ := hp
      refine R_istore C dX10_serve_82 (by decide) rfl ?_
      refine R_goto C dX10_serve_84 ?_
      have e9 : srvTo M n B g ((kap M k).toNat + 1) (P, q) = (P1, l1) := by
        rw [eh]
        unfold srvK
        rw [if_neg (by rw [← hz1]; omega)]
      have h8 := ih ((kap M k).toNat + 1, r1, some (iv z1)) ⟨by show (kap M k).toNat + 1 ≤ 256; omega, by rw [hnn]; show fnd M (((kap M k).toNat + 1 : Nat) : Int) (M.1 30).toNat r1; rw [show (((kap M k).toNat + 1 : Nat) : Int) = kap M k + 1 by omega]; exact hfr1⟩ (by show 300 - ((kap M k).toNat + 1) < 300 - c0; omega)
      rw [e9] at h8
      exact h8
    · refine R_iload C dX10_serve_56 rfl ?_
      refine R_iload_n C dX10_serve_58 rfl ?_
      refine R_icmp_gt C dX10_serve_59 (by omega) (by omega) (fun h59 => ?_) (fun h59 => ?_)
      · refine R_aload_n C dX10_serve_76 rfl ?_
        refine R_iload C dX10_serve_77 rfl ?_
        refine R_callV C (As := [_]) (c_X10_behind hl (c0 := kap M k + 1) hO (Or.inr ⟨k, hk, rfl, rfl⟩)) kX10_228 rfl rfl (Nat.le_of_ble_eq_true rfl) ⟨by decide, by decide⟩ ⟨Nat.le_refl _, Nat.le_refl _⟩ dX10_serve_79 (fun v M2 hp => ?_)
        obtain ⟨rfl, r1, rfl, hfr1⟩ := hp
        refine R_istore C dX10_serve_82 (by decide) rfl ?_
        refine R_goto C dX10_serve_84 ?_
        have e9 : srvTo M n B g ((kap M k).toNat + 1) (P, q) = (P1, l1) := by
          rw [eh]
          unfold srvK
          rw [if_neg (by rw [← hz1]; omega)]
        have h8 := ih ((kap M k).toNat + 1, r1, some (iv z1)) ⟨by show (kap M k).toNat + 1 ≤ 256; omega, by rw [hnn]; show fnd M (((kap M k).toNat + 1 : Nat) : Int) (M.1 30).toNat r1; rw [show (((kap M k).toNat + 1 : Nat) : Int) = kap M k + 1 by omega]; exact hfr1⟩ (by show 300 - ((kap M k).toNat + 1) < 300 - c0; omega)
        rw [e9] at h8
        exact h8
      · refine R_aload_n C dX10_serve_62 rfl ?_
        refine R_getA C cl11 fX10_135 (by decide) dX10_serve_63 ?_
        refine R_iload C dX10_serve_66 rfl ?_
        refine R_iload C dX10_serve_68 rfl ?_
        refine R_iast C (j := k) (kf := 49) rfl (show k < 40 by omega) rfl dX10_serve_70 ?_
        refine R_iload_n C dX10_serve_71 rfl ?_
        refine R_iload C dX10_serve_72 rfl ?_
        refine R_isub C dX10_serve_74 ?_
        refine R_istore_n C dX10_serve_75 (by decide) rfl ?_
        refine R_aload_n C dX10_serve_76 rfl ?_
        refine R_iload C dX10_serve_77 rfl ?_
        refine R_callV C (As := [_]) (c_X10_behind hl (c0 := kap M k + 1) hO (Or.inr ⟨k, hk, rfl, rfl⟩)) kX10_228 rfl rfl (Nat.le_of_ble_eq_true rfl) ⟨by decide, by decide⟩ ⟨Nat.le_refl _, Nat.le_refl _⟩ dX10_serve_79 (fun v M2 hp => ?_)
        obtain ⟨rfl, r1, rfl, hfr1⟩ := hp
        refine R_istore C dX10_serve_82 (by decide) rfl ?_
        refine R_goto C dX10_serve_84 ?_
        have e9 : srvTo M n B g ((kap M k).toNat + 1) (P, q) = (fun i => if i = k then z1 else P1 i, l1 - z1) := by
          rw [eh]
          unfold srvK
          rw [if_pos (by rw [← hz1]; omega), ← hz1]
        have h8 := ih ((kap M k).toNat + 1, r1, some (iv z1)) ⟨by show (kap M k).toNat + 1 ≤ 256; omega, by rw [hnn]; show fnd M (((kap M k).toNat + 1 : Nat) : Int) (M.1 30).toNat r1; rw [show (((kap M k).toNat + 1 : Nat) : Int) = kap M k + 1 by omega]; exact hfr1⟩ (by show 300 - ((kap M k).toNat + 1) < 300 - c0; omega)
        rw [e9] at h8
        rw [setA_49]; exact h8
end REF4
