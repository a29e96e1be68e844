/-! the class: settling, a minute's flow -/
def flM (X : Mm) (a k : Nat) (fl h en : Int) : Mm := sI (sI (sI X 326 a fl) 131 k (h + fl)) 325 a (en + fl)
def mkM (X : Mm) (a k v q md : Nat) (fl h en u : Int) : Mm := sI (sA (flM X a k fl h en) q md (2 * (en + fl) + u)) 578 v ((md : Int) + 1)
def mgM (X : Mm) (a k v q q2 cap n2 : Nat) (fl h en u : Int) : Mm := sI (sA (sP (sAr (alA (flM X a k fl h en) q2 20 n2) q2 (va_cpy (gA (alA (flM X a k fl h en) q2 20 n2) q) (gA (alA (flM X a k fl h en) q2 20 n2) q2) 0 0 cap)) 577 v (some q2)) q2 cap (2 * (en + fl) + u)) 578 v ((cap : Int) + 1)
section CLS6
variable {l : Launch} {D : va_G} {kA : Nat → ClassId} {b t0 : Nat} {X : Mm}
set_option maxHeartbeats 2000000 in
set_option maxRecDepth 20000 in
theorem c_X9_settleIfDue (hl : l.stackTraces = false) {a s k f g v r p : Nat} {dk bg bf hd md un bi p0 p1 p2 p3 ce : Int} {t : Ta} (hKa : gK X a = 6) (hKs : gK X s = 7) (hKk : gK X k = 4) (hKf : gK X f = 5) (hKg : gK X g = 5) (hs : gP X 320 a = some s) (hk : gP X 322 a = some k) (hf : gP X 385 s = some f) (hg : gP X 192 k = some g) (hdk : gI X 196 k = dk) (hbg : gI X 257 g = bg) (hbf : gI X 257 f = bf) (hKv : gK X v = 10) (hKr : gK X r = 8) (hKp : gK X p = 9) (hv : gP X 324 a = some v) (hr0 : gP X 580 v = some r) (hp : gP X 323 a = some p) (hhd : gI X 579 v = hd) (hmd : gI X 578 v = md) (hun : gI X 329 a = un) (hbi : gI X 330 a = bi) (hun1 : un = 0 ∨ un = 1) (hbi1 : bi = 0 ∨ bi = 1) (q1 : 0 ≤ hd ∧ hd ≤ 20000) (q2 : 0 ≤ md ∧ md ≤ 20000) (ht : tlI X r t) (hp0 : gI X 512 p = p0) (hp1 : gI X 513 p = p1) (hp2 : gI X 514 p = p2) (hp3 : gI X 515 p = p3) (hd1 : 0 ≤ t.2.1 ∧ t.2.1 ≤ 6000000) (hn : 0 ≤ t.2.2.1 ∧ t.2.2.1 ≤ 6000000) (hi : 0 ≤ t.2.2.2 ∧ t.2.2.2 ≤ 20000) (g0 : 0 ≤ p0 ∧ p0 ≤ 1000) (g1 : 0 ≤ p1 ∧ p1 ≤ 1000) (g2 : 0 ≤ p2 ∧ p2 ≤ 1000) (g3 : 0 ≤ p3 ∧ p3 ≤ 1000) (hce : ceS t.2.1 t.2.2.1 t.2.2.2 p1 p2 p3 p0 = ce) (hce1 : 0 ≤ ce ∧ ce ≤ 21000000) : Ct l D kA b t0 yX9_settleIfDue cX9_settleIfDue 3 none 3 68 [rv (some a)] X 0 0 (pD none (if un = 1 ∧ md ≤ hd ∧ bi = 0 then oweC (sI X 330 a 1) k f g dk bg bf ce ((ce * 95).tdiv 100) else X)) (pF) := by
  refine Ct_mk hl (by decide) (Nat.le_of_ble_eq_true rfl) rfl ?_
  intro p9 e9 s9 m9 args9 below9 meth9 c9 C hr hx0
  refine V_join C (pcm := 22) (P := fun z => z = (if md ≤ hd then 1 else 0)) (fun hj => ?_) (fun z1 hz1 => ?_)
  · refine V_aload_n C dX9_settleIfDue_0 rfl ?_
    refine V_getP C cl5 fX9_200 (r := some v) hKa hv dX9_settleIfDue_1 ?_
    refine V_getIx C cl9 fX9_209 (x := hd) hKv hhd dX9_settleIfDue_4 ?_
    refine V_aload_n C dX9_settleIfDue_7 rfl ?_
    refine V_getP C cl5 fX9_200 (r := some v) hKa hv dX9_settleIfDue_8 ?_
    refine V_getIx C cl9 fX9_204 (x := md) hKv hmd dX9_settleIfDue_11 ?_
    refine V_icmp_lt C dX9_settleIfDue_14 (by omega) (by omega) (fun h14 => ?_) (fun h14 => ?_)
    · refine V_iconst C dX9_settleIfDue_21 ?_
      exact hj _ (by split <;> omega)
    · refine V_iconst C dX9_settleIfDue_17 ?_
      refine V_goto C dX9_settleIfDue_18 ?_
      exact hj _ (by split <;> omega)
  refine V_istore_n C dX9_settleIfDue_22 (by decide) rfl ?_
  refine V_aload_n C dX9_settleIfDue_23 rfl ?_
  refine V_getIx C cl5 fX9_174 (x := un) hKa hun dX9_settleIfDue_24 ?_
  refine V_if_eq C dX9_settleIfDue_27 (by omega) (fun h27 => ?_) (fun h27 => ?_)
  · exact V_vret C (by omega) (by omega) ⟨rfl, by first | (rw [if_pos (show un = 1 ∧ md ≤ hd ∧ bi = 0 by omega)]; done) | (rw [if_neg (show ¬ (un = 1 ∧ md ≤ hd ∧ bi = 0) by omega)]; done)⟩ hr dX9_settleIfDue_62
  · refine V_iload_n C dX9_settleIfDue_30 rfl ?_
    refine V_if_eq C dX9_settleIfDue_31 (by omega) (fun h31 => ?_) (fun h31 => ?_)
    · exact V_vret C (by omega) (by omega) ⟨rfl, by first | (rw [if_pos (show un = 1 ∧ md ≤ hd ∧ bi = 0 by omega)]; done) | (rw [if_neg (show ¬ (un = 1 ∧ md ≤ hd ∧ bi = 0) by omega)]; done)⟩ hr dX9_settleIfDue_62
    · refine V_aload_n C dX9_settleIfDue_34 rfl ?_
      refine V_getIx C cl5 fX9_256 (x := bi) hKa hbi dX9_settleIfDue_35 ?_
      refine V_if_ne C dX9_settleIfDue_38 (by omega) (fun h38 => ?_) (fun h38 => ?_)
      · exact V_vret C (by omega) (by omega) ⟨rfl, by first | (rw [if_pos (show un = 1 ∧ md ≤ hd ∧ bi = 0 by omega)]; done) | (rw [if_neg (show ¬ (un = 1 ∧ md ≤ hd ∧ bi = 0) by omega)]; done)⟩ hr dX9_settleIfDue_62
      · refine V_aload_n C dX9_settleIfDue_41 rfl ?_
        refine V_iconst C dX9_settleIfDue_42 ?_
        refine V_putZ C cl5 fX9_256 (Or.inl rfl) rfl (by first | decide | omega | (split <;> omega)) hKa dX9_settleIfDue_43 ?_
        refine V_aload_n C dX9_settleIfDue_46 rfl ?_
        refine V_callV1 C (As := []) (c_X4_billHeard hl (X := sI X 330 a 1) hKa hKv hKr hKp hv hr0 hp ht hp0 hp1 hp2 hp3 hd1 hn hi g0 g1 g2 g3) kX9_250 hKa rfl rfl (Nat.le_of_ble_eq_true rfl) ⟨Nat.le_of_ble_eq_true rfl, Nat.le_of_ble_eq_true rfl⟩ ⟨Nat.le_of_ble_eq_true rfl, Nat.le_of_ble_eq_true rfl⟩ dX9_settleIfDue_47 ?_
        rw [hce]
        refine V_istore_n C dX9_settleIfDue_50 (by decide) rfl ?_
        refine V_aload_n C dX9_settleIfDue_51 rfl ?_
        refine V_iload_n C dX9_settleIfDue_52 rfl ?_
        refine V_iload_n C dX9_settleIfDue_53 rfl ?_
        refine V_bipush C dX9_settleIfDue_54 (by decide) ?_
        refine V_callS1 C (As := [_, _]) (c_X9_partOf hl (x := ce) (h := 95) (by omega) (by decide) (by omega)) kX9_264 rfl rfl (Nat.le_of_ble_eq_true rfl) ⟨Nat.le_of_ble_eq_true rfl, Nat.le_of_ble_eq_true rfl⟩ ⟨Nat.le_of_ble_eq_true rfl, Nat.le_of_ble_eq_true rfl⟩ dX9_settleIfDue_56 ?_
        refine V_callS0 C (As := [_, _, _]) (c_X9_owe hl (X := sI X 330 a 1) hKa hKs hKk hKf hKg hs hk hf hg hdk hbg hbf) kX9_268 rfl rfl (Nat.le_of_ble_eq_true rfl) ⟨Nat.le_of_ble_eq_true rfl, Nat.le_of_ble_eq_true rfl⟩ ⟨Nat.le_of_ble_eq_true rfl, Nat.le_of_ble_eq_true rfl⟩ dX9_settleIfDue_59 ?_
        exact V_vret C (by omega) (by omega) ⟨rfl, by first | (rw [if_pos (show un = 1 ∧ md ≤ hd ∧ bi = 0 by omega)]; done) | (rw [if_neg (show ¬ (un = 1 ∧ md ≤ hd ∧ bi = 0) by omega)]; done)⟩ hr dX9_settleIfDue_62
set_option maxHeartbeats 2000000 in
set_option maxRecDepth 20000 in
theorem c_X9_letFlow0 (hl : l.stackTraces = false) {a k v s q r cap md hd : Nat} {fl h cp en up fm : Int} {t : Ta} (hKa : gK X a = 6) (hKk : gK X k = 3) (hKv : gK X v = 10) (hKs : gK X s = 7) (hKr : gK X r = 8) (hk : gP X 321 a = some k) (hv : gP X 324 a = some v) (hs : gP X 320 a = some s) (hfl : gI X 333 a = fl) (hh : gI X 131 k = h) (hcp : gI X 129 k = cp) (hen : gI X 325 a = en) (hup : gI X 388 s = up) (hup1 : up = 0 ∨ up = 1) (hfm : gI X 576 v = fm) (hq : gP X 577 v = some q) (hKq : gK X q = 20) (hN : gN X q = cap) (hmd : gI X 578 v = (md : Int)) (hmc : md < cap) (hc9 : cap ≤ 20000) (hrow : ∀ i, i < md → 0 ≤ gA X q i ∧ gA X q i ≤ 12000001) (hm : 0 ≤ fm ∧ fm + md + 1 ≤ 20000) (ht : tlI X r t) (h1 : 0 ≤ t.1 ∧ t.1 ≤ 6000000) (hs9 : hd ≤ md) (hr0 : gP X 580 v = some r) (hhd : gI X 579 v = (hd : Int)) (b1 : 0 ≤ fl ∧ fl ≤ 50000) (b2 : 0 ≤ h ∧ h ≤ 6000000) (b3 : 0 ≤ cp ∧ cp ≤ 6000000) (b4 : 0 ≤ en ∧ en + fl ≤ 6000000) : Ct l D kA b t0 yX9_letFlow cX9_letFlow 2 none 3 92 [rv (some a)] X 0 0 (pD none (if up = 1 then sI (tlM (mkM X a k v q md fl h en (if cp ≤ h then 1 else 0)) r (tkF (gA (mkM X a k v q md fl h en (if cp ≤ h then 1 else 0)) q) fm hd (md + 1 - hd) t)) 579 v ((md + 1 : Nat) : Int) else mkM X a k v q md fl h en (if cp ≤ h then 1 else 0))) (pF) := by
  refine Ct_mk hl (by decide) (Nat.le_of_ble_eq_true rfl) rfl ?_
  intro p9 e9 s9 m9 args9 below9 meth9 c9 C hr hx0
  have hrw : ∀ i, i < md + 1 → 0 ≤ gA (mkM X a k v q md fl h en (if cp ≤ h then 1 else 0)) q i ∧ gA (mkM X a k v q md fl h en (if cp ≤ h then 1 else 0)) q i ≤ 12000001 := by
    intro i hi
    by_cases e : i = md
    · subst e
      rw [show gA (mkM X a k v q i fl h en (if cp ≤ h then 1 else 0)) q i = 2 * (en + fl) + (if cp ≤ h then 1 else 0) from if_pos ⟨rfl, rfl⟩]
      split <;> omega
    · rw [show gA (mkM X a k v q md fl h en (if cp ≤ h then 1 else 0)) q i = gA X q i from if_neg (fun z => e z.2)]
      exact hrow i (by omega)
  refine V_aload_n C dX9_letFlow_0 rfl ?_
  refine V_getP C cl5 fX9_179 (r := some k) hKa hk dX9_letFlow_1 ?_
  refine V_callV1 C (As := []) (c_X1_isFull hl hKk hh hcp (by omega) (by omega)) kX9_381 hKk rfl rfl (Nat.le_of_ble_eq_true rfl) ⟨Nat.le_of_ble_eq_true rfl, Nat.le_of_ble_eq_true rfl⟩ ⟨Nat.le_of_ble_eq_true rfl, Nat.le_of_ble_eq_true rfl⟩ dX9_letFlow_4 ?_
  refine V_istore_n C dX9_letFlow_7 (by decide) rfl ?_
  refine V_aload_n C dX9_letFlow_8 rfl ?_
  refine V_aload_n C dX9_letFlow_9 rfl ?_
  refine V_getIx C cl5 fX9_244 (x := fl) hKa hfl dX9_letFlow_10 ?_
  refine V_putI C cl5 fX9_220 (Or.inl rfl) rfl hKa dX9_letFlow_13 ?_
  refine V_aload_n C dX9_letFlow_16 rfl ?_
  refine V_getP C cl5 fX9_179 (r := some k) hKa hk dX9_letFlow_17 ?_
  refine V_dup C dX9_letFlow_20 rfl ?_
  refine V_getIx C cl2 fX9_234 (x := h) hKk hh dX9_letFlow_21 ?_
  refine V_aload_n C dX9_letFlow_24 rfl ?_
  refine V_getIx C cl5 fX9_244 (x := fl) hKa hfl dX9_letFlow_25 ?_
  refine V_iadd C dX9_letFlow_28 ?_
  refine V_putI C cl2 fX9_234 (Or.inl rfl) rfl hKk dX9_letFlow_29 ?_
  refine V_aload_n C dX9_letFlow_32 rfl ?_
  refine V_dup C dX9_letFlow_33 rfl ?_
  refine V_getIx C cl5 fX9_223 (x := en) hKa hen dX9_letFlow_34 ?_
  refine V_aload_n C dX9_letFlow_37 rfl ?_
  refine V_getIx C cl5 fX9_244 (x := fl) hKa hfl dX9_letFlow_38 ?_
  refine V_iadd C dX9_letFlow_41 ?_
  refine V_putI C cl5 fX9_223 (Or.inl rfl) rfl hKa dX9_letFlow_42 ?_
  refine V_aload_n C dX9_letFlow_45 rfl ?_
  refine V_getP C cl5 fX9_200 (r := some v) hKa hv dX9_letFlow_46 ?_
  refine V_aload_n C dX9_letFlow_49 rfl ?_
  refine V_getIx C cl5 fX9_223 (x := (en + fl)) hKa (if_pos ⟨rfl, rfl⟩) dX9_letFlow_50 ?_
  refine V_iload_n C dX9_letFlow_53 rfl ?_
  refine V_callV0 C (As := [_, _]) (c_X8_make0 hl (X := flM X a k fl h en) (e := en + fl) (u := if cp ≤ h then 1 else 0) hKv hq hKq hN hmd hc9 (by omega) (by split <;> omega) hmc) kX9_384 hKv rfl rfl (Nat.le_of_ble_eq_true rfl) ⟨Nat.le_of_ble_eq_true rfl, Nat.le_of_ble_eq_true rfl⟩ ⟨Nat.le_of_ble_eq_true rfl, Nat.le_of_ble_eq_true rfl⟩ dX9_letFlow_54 ?_
  refine V_aload_n C dX9_letFlow_57 rfl ?_
  refine V_getP C cl5 fX9_186 (r := some s) hKa hs dX9_letFlow_58 ?_
  refine V_getIx C cl6 fX9_116 (x := up) hKs hup dX9_letFlow_61 ?_
  refine V_if_eq C dX9_letFlow_64 (by omega) (fun h64 => ?_) (fun h64 => ?_)
  · exact V_vret C (by omega) (by omega) ⟨rfl, by first | (rw [if_pos (show up = 1 by omega)]; done) | (rw [if_neg (show ¬ up = 1 by omega)]; done) | (rw [if_neg (show ¬ up = 1 by omega)]; rfl)⟩ hr dX9_letFlow_75
  · refine V_aload_n C dX9_letFlow_67 rfl ?_
    refine V_getP C cl5 fX9_200 (r := some v) hKa hv dX9_letFlow_68 ?_
    refine V_callV1 C (As := []) (c_X8_hearAll hl (X := mkM X a k v q md fl h en (if cp ≤ h then 1 else 0)) (s := hd) (t := t) (r := r) (md := md + 1) (cap := cap) (fm := fm) (q := q) hKv hfm hq hKq hN (if_pos ⟨rfl, rfl⟩) (by omega) hc9 (fun i hi => hrw i hi) (by omega) hKr ht h1 (by omega) hr0 hhd) kX9_310 hKv rfl rfl (Nat.le_of_ble_eq_true rfl) ⟨Nat.le_of_ble_eq_true rfl, Nat.le_of_ble_eq_true rfl⟩ ⟨Nat.le_of_ble_eq_true rfl, Nat.le_of_ble_eq_true rfl⟩ dX9_letFlow_71 ?_
    refine V_pop C dX9_letFlow_74 rfl ?_
    exact V_vret C (by omega) (by omega) ⟨rfl, by first | (rw [if_pos (show up = 1 by omega)]; done) | (rw [if_neg (show ¬ up = 1 by omega)]; done) | (rw [if_neg (show ¬ up = 1 by omega)]; rfl)⟩ hr dX9_letFlow_75
set_option maxHeartbeats 2000000 in
set_option maxRecDepth 20000 in
theorem c_X9_letFlow1 (hl : l.stackTraces = false) {a k v s q r cap n2 hd : Nat} {fl h cp en up fm : Int} {t : Ta} (hKa : gK X a = 6) (hKk : gK X k = 3) (hKv : gK X v = 10) (hKs : gK X s = 7) (hKr : gK X r = 8) (hk : gP X 321 a = some k) (hv : gP X 324 a = some v) (hs : gP X 320 a = some s) (hfl : gI X 333 a = fl) (hh : gI X 131 k = h) (hcp : gI X 129 k = cp) (hen : gI X 325 a = en) (hup : gI X 388 s = up) (hup1 : up = 0 ∨ up = 1) (hfm : gI X 576 v = fm) (hq : gP X 577 v = some q) (hKq : gK X q = 20) (hN : gN X q = cap) (hmd : gI X 578 v = (cap : Int)) (hmc : 1 ≤ cap ∧ cap < 20000) (hn2 : n2 = if 2 * cap < 20000 then 2 * cap else 20000) (hc9 : cap ≤ 20000) (hrow : ∀ i, i < cap → 0 ≤ gA X q i ∧ gA X q i ≤ 12000001) (hm : 0 ≤ fm ∧ fm + cap + 1 ≤ 20000) (ht : tlI X r t) (h1 : 0 ≤ t.1 ∧ t.1 ≤ 6000000) (hs9 : hd ≤ cap) (hr0 : gP X 580 v = some r) (hhd : gI X 579 v = (hd : Int)) (b1 : 0 ≤ fl ∧ fl ≤ 50000) (b2 : 0 ≤ h ∧ h ≤ 6000000) (b3 : 0 ≤ cp ∧ cp ≤ 6000000) (b4 : 0 ≤ en ∧ en + fl ≤ 6000000) : Ct l D kA b t0 yX9_letFlow cX9_letFlow 2 none 3 92 [rv (some a)] X 1 n2 (fun w Y => w = none ∧ ∃ q2, gK X q2 = 0 ∧ b ≤ q2 ∧ Y = if up = 1 then sI (tlM (mgM X a k v q q2 cap n2 fl h en (if cp ≤ h then 1 else 0)) r (tkF (gA (mgM X a k v q q2 cap n2 fl h en (if cp ≤ h then 1 else 0)) q2) fm hd (cap + 1 - hd) t)) 579 v ((cap + 1 : Nat) : Int) else mgM X a k v q q2 cap n2 fl h en (if cp ≤ h then 1 else 0)) (pF) := by
  refine Ct_mk hl (by decide) (Nat.le_of_ble_eq_true rfl) rfl ?_
  intro p9 e9 s9 m9 args9 below9 meth9 c9 C hr hx0
  refine V_aload_n C dX9_letFlow_0 rfl ?_
  refine V_getP C cl5 fX9_179 (r := some k) hKa hk dX9_letFlow_1 ?_
  refine V_callV1 C (As := []) (c_X1_isFull hl hKk hh hcp (by omega) (by omega)) kX9_381 hKk rfl rfl (Nat.le_of_ble_eq_true rfl) ⟨Nat.le_of_ble_eq_true rfl, Nat.le_of_ble_eq_true rfl⟩ ⟨Nat.le_of_ble_eq_true rfl, Nat.le_of_ble_eq_true rfl⟩ dX9_letFlow_4 ?_
  refine V_istore_n C dX9_letFlow_7 (by decide) rfl ?_
  refine V_aload_n C dX9_letFlow_8 rfl ?_
  refine V_aload_n C dX9_letFlow_9 rfl ?_
  refine V_getIx C cl5 fX9_244 (x := fl) hKa hfl dX9_letFlow_10 ?_
  refine V_putI C cl5 fX9_220 (Or.inl rfl) rfl hKa dX9_letFlow_13 ?_
  refine V_aload_n C dX9_letFlow_16 rfl ?_
  refine V_getP C cl5 fX9_179 (r := some k) hKa hk dX9_letFlow_17 ?_
  refine V_dup C dX9_letFlow_20 rfl ?_
  refine V_getIx C cl2 fX9_234 (x := h) hKk hh dX9_letFlow_21 ?_
  refine V_aload_n C dX9_letFlow_24 rfl ?_
  refine V_getIx C cl5 fX9_244 (x := fl) hKa hfl dX9_letFlow_25 ?_
  refine V_iadd C dX9_letFlow_28 ?_
  refine V_putI C cl2 fX9_234 (Or.inl rfl) rfl hKk dX9_letFlow_29 ?_
  refine V_aload_n C dX9_letFlow_32 rfl ?_
  refine V_dup C dX9_letFlow_33 rfl ?_
  refine V_getIx C cl5 fX9_223 (x := en) hKa hen dX9_letFlow_34 ?_
  refine V_aload_n C dX9_letFlow_37 rfl ?_
  refine V_getIx C cl5 fX9_244 (x := fl) hKa hfl dX9_letFlow_38 ?_
  refine V_iadd C dX9_letFlow_41 ?_
  refine V_putI C cl5 fX9_223 (Or.inl rfl) rfl hKa dX9_letFlow_42 ?_
  refine V_aload_n C dX9_letFlow_45 rfl ?_
  refine V_getP C cl5 fX9_200 (r := some v) hKa hv dX9_letFlow_46 ?_
  refine V_aload_n C dX9_letFlow_49 rfl ?_
  refine V_getIx C cl5 fX9_223 (x := (en + fl)) hKa (if_pos ⟨rfl, rfl⟩) dX9_letFlow_50 ?_
  refine V_iload_n C dX9_letFlow_53 rfl ?_
  refine V_callV C (As := [_, _]) (c_X8_make1 hl (X := flM X a k fl h en) (e := en + fl) (u := if cp ≤ h then 1 else 0) (n2 := n2) hKv hq hKq hN hmd hc9 (by omega) (by split <;> omega) hmc hn2) kX9_384 hKv rfl rfl (Nat.le_of_ble_eq_true rfl) ⟨Nat.le_of_ble_eq_true rfl, Nat.le_of_ble_eq_true rfl⟩ ⟨(by first | exact Nat.le_of_ble_eq_true rfl | (dsimp only; omega)), (by first | exact Nat.le_of_ble_eq_true rfl | (dsimp only; omega))⟩ dX9_letFlow_54 (fun _ _ h => h.elim) (fun v9 Y hp => ?_)
  obtain ⟨rfl, q2, hq2, hb2, rfl⟩ := hp
  have h2a : a ≠ q2 := ne_of_0 (X := X) hq2 (by omega)
  have h2v : v ≠ q2 := ne_of_0 (X := X) hq2 (by omega)
  have h2s : s ≠ q2 := ne_of_0 (X := X) hq2 (by omega)
  have h2k : k ≠ q2 := ne_of_0 (X := X) hq2 (by omega)
  have h2r : r ≠ q2 := ne_of_0 (X := X) hq2 (by omega)
  have h2q : q ≠ q2 := ne_of_0 (X := X) hq2 (by omega)
  obtain ⟨Z, hZ⟩ : ∃ Z, Z = mgM X a k v q q2 cap n2 fl h en (if cp ≤ h then 1 else 0) := ⟨_, rfl⟩
  have hrw : ∀ i, i < cap + 1 → 0 ≤ gA (mgM X a k v q q2 cap n2 fl h en (if cp ≤ h then 1 else 0)) q2 i ∧ gA (mgM X a k v q q2 cap n2 fl h en (if cp ≤ h then 1 else 0)) q2 i ≤ 12000001 := by
    intro i hi
    by_cases e : i = cap
    · subst e
      rw [show gA (mgM X a k v q q2 i n2 fl h en (if cp ≤ h then 1 else 0)) q2 i = 2 * (en + fl) + (if cp ≤ h then 1 else 0) from if_pos ⟨rfl, rfl⟩]
      split <;> omega
    · have e1 : gA (mgM X a k v q q2 cap n2 fl h en (if cp ≤ h then 1 else 0)) q2 i = va_cpy (gA (alA (flM X a k fl h en) q2 20 n2) q) (gA (alA (flM X a k fl h en) q2 20 n2) q2) 0 0 cap i := (if_neg (fun z => e z.2)).trans (congrFun (if_pos rfl) i)
      have e2 : gA (alA (flM X a k fl h en) q2 20 n2) q (0 + (i - 0)) = gA X q i := by rw [Nat.zero_add, Nat.sub_zero]; exact if_neg h2q
      rw [e1]
      unfold va_cpy
      rw [if_pos (by omega), e2]
      exact hrow i (by omega)
  refine V_aload_n C dX9_letFlow_57 rfl ?_
  refine V_getP C cl5 fX9_186 (r := some s) ((if_neg h2a).trans hKa) hs dX9_letFlow_58 ?_
  refine V_getIx C cl6 fX9_116 (x := up) ((if_neg h2s).trans hKs) hup dX9_letFlow_61 ?_
  refine V_if_eq C dX9_letFlow_64 (by omega) (fun h64 => ?_) (fun h64 => ?_)
  · exact V_vret C (by omega) (by omega) ⟨rfl, q2, hq2, hb2, by first | (rw [if_pos (show up = 1 by omega)]; done) | (rw [if_neg (show ¬ up = 1 by omega)]; done) | (rw [if_neg (show ¬ up = 1 by omega)]; rfl)⟩ hr dX9_letFlow_75
  · refine V_aload_n C dX9_letFlow_67 rfl ?_
    refine V_getP C cl5 fX9_200 (r := some v) ((if_neg h2a).trans hKa) hv dX9_letFlow_68 ?_
    refine V_callV1 C (As := []) (c_X8_hearAll hl (X := mgM X a k v q q2 cap n2 fl h en (if cp ≤ h then 1 else 0)) (s := hd) (t := t) (r := r) (md := cap + 1) (cap := n2) (fm := fm) (q := q2) ((if_neg h2v).trans hKv) hfm (if_pos ⟨rfl, rfl⟩) (if_pos rfl) (if_pos rfl) (if_pos ⟨rfl, rfl⟩) (by rw [hn2]; split <;> omega) (by rw [hn2]; split <;> omega) (fun i hi => hrw i hi) (by omega) ((if_neg h2r).trans hKr) ht h1 (by omega) hr0 hhd) kX9_310 ((if_neg h2v).trans hKv) rfl rfl (Nat.le_of_ble_eq_true rfl) ⟨Nat.le_of_ble_eq_true rfl, Nat.le_of_ble_eq_true rfl⟩ ⟨(by first | exact Nat.le_of_ble_eq_true rfl | (dsimp only; omega)), (by first | exact Nat.le_of_ble_eq_true rfl | (dsimp only; omega))⟩ dX9_letFlow_71 ?_
    refine V_pop C dX9_letFlow_74 rfl ?_
    exact V_vret C (by omega) (by omega) ⟨rfl, q2, hq2, hb2, by first | (rw [if_pos (show up = 1 by omega)]; done) | (rw [if_neg (show ¬ up = 1 by omega)]; done) | (rw [if_neg (show ¬ up = 1 by omega)]; rfl)⟩ hr dX9_letFlow_75
end CLS6
