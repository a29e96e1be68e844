/-! the law: its calls, 3 -/
section LC2
variable {p : Program} {l : Launch} {e : Env} {s : State} {m : MethodId} {args : Array Value} {below : List Frame} {meth : Method} {c : Code}
variable {D : va_G} {kA : Nat → ClassId} {b t0 cells slots : Nat} {Q : State → Prop} {X : Mm} {ao mo sb Ls j : Nat} {ad : Nat → Nat} {L : Ly} {Z : Zs} {M : Mo} {xs : Nat → Int32} {q : Nat → Int} {u5 u6 : Option Value}
set_option maxHeartbeats 2000000 in
set_option maxRecDepth 20000 in
theorem lc_book {nm : String} (C : Cx p l s m args meth c D kA b t0 7 RL nm cL_law) (hl : l.stackTraces = false) (hX : va_X sb Ls xs s s.heap) (hb1 : sb < s.heap.size) (hb2 : sb < b) (hL6 : 6 * j + 6 ≤ Ls) (hL : Ls ≤ 3072) (h : CX t0 ao mo ad L X Z M) (hZ : ZM Z M) (hI : Iv M j) (hq : Lsc xs j q) (hc : cells + budC M ≤ 400 + 26 * j) (hs : slots + budS M ≤ 2440000 + 4402 * j) (hend : LEnd p l e s m args below meth c D kA b Q t0 ao mo ad sb L j) : V p l e room_1 s m args below meth c D kA b 7 cells slots Q X 778 [some (rv (some sb)), some (rv (some (lA L 11 0))), some (rv (some mo)), some (rv (some ao)), some (iv (6 * (j : Int))), u5, u6] [] := by
  have hKy := (yd_C h hZ.1).1
  have hn : ((yC Z 6 : Nat) : Int) = M.1 30 := hZ.1.1.2.2.2.2.2.1
  refine V_aload_n C dL_law_778 rfl ?_
  refine V_aload_n C dL_law_779 rfl ?_
  refine V_iload C dL_law_780 rfl ?_
  refine V_iconst C dL_law_782 ?_
  refine V_iadd C dL_law_783 ?_
  refine V_sld C (j := 6 * j + 1) hX hb1 hb2 (by omega) hL (by omega) (hq 1 (by decide)).2 dL_law_784 ?_
  refine V_aload_n C dL_law_785 rfl ?_
  refine V_iload C dL_law_786 rfl ?_
  refine V_iconst C dL_law_788 ?_
  refine V_iadd C dL_law_789 ?_
  refine V_sld C (j := 6 * j + 2) hX hb1 hb2 (by omega) hL (by omega) (hq 2 (by decide)).2 dL_law_790 ?_
  refine V_aload_n C dL_law_791 rfl ?_
  refine V_iload C dL_law_792 rfl ?_
  refine V_iconst C dL_law_794 ?_
  refine V_iadd C dL_law_795 ?_
  refine V_sld C (j := 6 * j + 3) hX hb1 hb2 (by omega) hL (by omega) (hq 3 (by decide)).2 dL_law_796 ?_
  refine V_aload_n C dL_law_797 rfl ?_
  refine V_iload C dL_law_798 rfl ?_
  refine V_iconst C dL_law_800 ?_
  refine V_iadd C dL_law_801 ?_
  refine V_sld C (j := 6 * j + 4) hX hb1 hb2 (by omega) hL (by omega) (hq 4 (by decide)).2 dL_law_802 ?_
  refine V_aload_n C dL_law_803 rfl ?_
  refine V_callSH C (As := [_, _, _, _, _, _]) (c_L_book hl h hZ hI (hq 1 (by decide)).1 (hq 2 (by decide)).1 (hq 3 (by decide)).1 (hq 4 (by decide)).1) sL_book rfl rfl (Nat.le_of_ble_eq_true rfl) ⟨(Nat.le_of_ble_eq_true rfl), (Nat.le_of_ble_eq_true rfl)⟩ ⟨(by show cells + 8 ≤ 601024; omega), (by show slots + 2100 ≤ 7293034; omega)⟩ dL_law_804 (fun _ _ h => h.elim) (fun v Y hp => ?_)
  obtain ⟨hRR, k, rfl, hk, hU⟩ := hp
  refine V_istore C dL_law_807 (by decide) rfl ?_
  refine V_aload_n C dL_law_809 rfl ?_
  refine V_aload_n C dL_law_810 rfl ?_
  refine V_iload C dL_law_811 rfl ?_
  refine V_iconst C dL_law_813 ?_
  refine V_iadd C dL_law_814 ?_
  refine V_sld C (j := 6 * j + 1) hX hb1 hb2 (by omega) hL (by omega) (hq 1 (by decide)).2 dL_law_815 ?_
  refine V_aload_n C dL_law_816 rfl ?_
  refine V_iload C dL_law_817 rfl ?_
  refine V_iconst C dL_law_819 ?_
  refine V_iadd C dL_law_820 ?_
  refine V_sld C (j := 6 * j + 2) hX hb1 hb2 (by omega) hL (by omega) (hq 2 (by decide)).2 dL_law_821 ?_
  refine V_aload_n C dL_law_822 rfl ?_
  refine V_iload C dL_law_823 rfl ?_
  refine V_iconst C dL_law_825 ?_
  refine V_iadd C dL_law_826 ?_
  refine V_sld C (j := 6 * j + 3) hX hb1 hb2 (by omega) hL (by omega) (hq 3 (by decide)).2 dL_law_827 ?_
  refine V_aload_n C dL_law_828 rfl ?_
  refine V_iload C dL_law_829 rfl ?_
  refine V_iconst C dL_law_831 ?_
  refine V_iadd C dL_law_832 ?_
  refine V_sld C (j := 6 * j + 4) hX hb1 hb2 (by omega) hL (by omega) (hq 4 (by decide)).2 dL_law_833 ?_
  refine V_callV C (As := [_, _, _, _]) ((c_X10_book hl (hq 1 (by decide)).1 (hq 2 (by decide)).1 (hq 3 (by decide)).1 (hq 4 (by decide)).1 hI.1 hI.2.2.2.2.2.2.1) Y hRR) kL_126 hRR.1 rfl rfl (Nat.le_of_ble_eq_true rfl) ⟨(Nat.le_of_ble_eq_true rfl), (Nat.le_of_ble_eq_true rfl)⟩ ⟨(by show cells + 8 + 0 ≤ 601024; omega), (by show slots + 2100 + 0 ≤ 7293034; omega)⟩ dL_law_834 (fun _ _ h => h.elim) (fun v Y2 hp => ?_)
  obtain ⟨M2, hp, hR2, hq2⟩ := hp
  obtain ⟨r, rfl, hP⟩ := hp
  obtain ⟨hk0, hzz, hcl⟩ := hU M2 r hP
  have hst := stK_boo hI (by omega) hP
  obtain ⟨L2, Z2, hcx, hzm, hy2⟩ := hcl
  obtain ⟨hcx2, hga2⟩ := ref_aft hcx hR2 hq2
  obtain ⟨rr, hrr, er⟩ := iv_rng (r)
  rw [← er]
  refine V_istore C dL_law_837 (by decide) rfl ?_
  refine V_aload_n C dL_law_839 rfl ?_
  refine V_callV C (As := []) (c_X10_thrown hl Y2 hcx2.1) kL_95 hcx2.1.1 rfl rfl (Nat.le_of_ble_eq_true rfl) ⟨(Nat.le_of_ble_eq_true rfl), (Nat.le_of_ble_eq_true rfl)⟩ ⟨(by show cells + 8 + 0 + 0 ≤ 601024; omega), (by show slots + 2100 + 0 + 0 ≤ 7293034; omega)⟩ dL_law_840 (fun _ _ h => h.elim) (fun v Y3 hp => ?_)
  obtain ⟨M3, ⟨hM3, rfl⟩, hR3, hq3⟩ := hp
  rw [hM3] at hR3
  obtain ⟨hcx3, hga3⟩ := ref_aft hcx2 hR3 hq3
  rw [hk0]
  refine V_iload C dL_law_843 rfl ?_
  refine V_icmp_eq C dL_law_845 (by omega) (by omega) (fun h845 => ?_) (fun h845 => ?_)
  · refine V_iload C dL_law_850 rfl ?_
    refine V_if_ne C dL_law_852 (by omega) (fun h852 => ?_) (fun h852 => ?_)
    · refine V_goto C dL_law_867 ?_
      exact hend _ _ _ _ _ _ _ _ hcx3 hzm hst.1 hy2 (by have := hst.2.1; omega) (by have := hst.2.2; omega)
    · refine V_aload_n C dL_law_855 rfl ?_
      refine V_iconst C dL_law_856 ?_
      obtain ⟨zz, hz, ez, hga⟩ := hzz (by omega)
      obtain rfl : rr = zz := iv_inj hrr hz (er.trans ez.symm)
      have hao := hcx3.ao
      have hga4 : gA Y3 ao 0 = rr := (hga3.trans hga2).trans hga
      refine V_lald C (j := 0) (n := 1) hao.1 hao.2 (by decide) (by decide) rfl dL_law_857 ?_
      rw [hga4]
      refine V_iload C dL_law_858 rfl ?_
      refine V_i2l C dL_law_860 hrr ?_
      refine V_lcmp C dL_law_861 (by first | omega | decide) (by first | omega | decide) ?_
      rw [lc0]
      refine V_if_eq C dL_law_862 (by decide) (fun h862 => ?_) (fun h862 => ?_)
      · refine V_goto C dL_law_867 ?_
        exact hend _ _ _ _ _ _ _ _ hcx3 hzm hst.1 hy2 (by have := hst.2.1; omega) (by have := hst.2.2; omega)
      · exact absurd rfl h862
  · exact absurd rfl h845
set_option maxHeartbeats 2000000 in
set_option maxRecDepth 20000 in
theorem lc_plug {nm : String} (C : Cx p l s m args meth c D kA b t0 7 RL nm cL_law) (hl : l.stackTraces = false) (hX : va_X sb Ls xs s s.heap) (hb1 : sb < s.heap.size) (hb2 : sb < b) (hL6 : 6 * j + 6 ≤ Ls) (hL : Ls ≤ 3072) (h : CX t0 ao mo ad L X Z M) (hZ : ZM Z M) (hI : Iv M j) (hq : Lsc xs j q) (hc : cells + budC M ≤ 400 + 26 * j) (hs : slots + budS M ≤ 2440000 + 4402 * j) (hend : LEnd p l e s m args below meth c D kA b Q t0 ao mo ad sb L j) : V p l e room_1 s m args below meth c D kA b 7 cells slots Q X 870 [some (rv (some sb)), some (rv (some (lA L 11 0))), some (rv (some mo)), some (rv (some ao)), some (iv (6 * (j : Int))), u5, u6] [] := by
  have hKy := (yd_C h hZ.1).1
  have hn : ((yC Z 6 : Nat) : Int) = M.1 30 := hZ.1.1.2.2.2.2.2.1
  refine V_aload_n C dL_law_870 rfl ?_
  refine V_aload_n C dL_law_871 rfl ?_
  refine V_iload C dL_law_872 rfl ?_
  refine V_iconst C dL_law_874 ?_
  refine V_iadd C dL_law_875 ?_
  refine V_sld C (j := 6 * j + 1) hX hb1 hb2 (by omega) hL (by omega) (hq 1 (by decide)).2 dL_law_876 ?_
  refine V_aload_n C dL_law_877 rfl ?_
  refine V_iload C dL_law_878 rfl ?_
  refine V_iconst C dL_law_880 ?_
  refine V_iadd C dL_law_881 ?_
  refine V_sld C (j := 6 * j + 2) hX hb1 hb2 (by omega) hL (by omega) (hq 2 (by decide)).2 dL_law_882 ?_
  refine V_aload_n C dL_law_883 rfl ?_
  refine V_iload C dL_law_884 rfl ?_
  refine V_iconst C dL_law_886 ?_
  refine V_iadd C dL_law_887 ?_
  refine V_sld C (j := 6 * j + 3) hX hb1 hb2 (by omega) hL (by omega) (hq 3 (by decide)).2 dL_law_888 ?_
  refine V_aload_n C dL_law_889 rfl ?_
  refine V_callSH C (As := [_, _, _, _, _]) (c_L_plug hl h hZ hI (hq 1 (by decide)).1 (hq 2 (by decide)).1 (hq 3 (by decide)).1) sL_plug rfl rfl (Nat.le_of_ble_eq_true rfl) ⟨(Nat.le_of_ble_eq_true rfl), (Nat.le_of_ble_eq_true rfl)⟩ ⟨(by show cells + 24 ≤ 601024; omega), (by show slots + 4400 ≤ 7293034; omega)⟩ dL_law_890 (fun _ _ h => h.elim) (fun v Y hp => ?_)
  obtain ⟨hRR, k, rfl, hk, hU⟩ := hp
  refine V_istore C dL_law_893 (by decide) rfl ?_
  refine V_aload_n C dL_law_895 rfl ?_
  refine V_aload_n C dL_law_896 rfl ?_
  refine V_iload C dL_law_897 rfl ?_
  refine V_iconst C dL_law_899 ?_
  refine V_iadd C dL_law_900 ?_
  refine V_sld C (j := 6 * j + 1) hX hb1 hb2 (by omega) hL (by omega) (hq 1 (by decide)).2 dL_law_901 ?_
  refine V_aload_n C dL_law_902 rfl ?_
  refine V_iload C dL_law_903 rfl ?_
  refine V_iconst C dL_law_905 ?_
  refine V_iadd C dL_law_906 ?_
  refine V_sld C (j := 6 * j + 2) hX hb1 hb2 (by omega) hL (by omega) (hq 2 (by decide)).2 dL_law_907 ?_
  refine V_aload_n C dL_law_908 rfl ?_
  refine V_iload C dL_law_909 rfl ?_
  refine V_iconst C dL_law_911 ?_
  refine V_iadd C dL_law_912 ?_
  refine V_sld C (j := 6 * j + 3) hX hb1 hb2 (by omega) hL (by omega) (hq 3 (by decide)).2 dL_law_913 ?_
  refine V_callV C (As := [_, _, _]) ((c_X10_plug hl (hq 1 (by decide)).1 (hq 2 (by decide)).1 (hq 3 (by decide)).1 hI.1 hI.2.2.2.2.2.2.1 hn) Y hRR) kL_129 hRR.1 rfl rfl (Nat.le_of_ble_eq_true rfl) ⟨(Nat.le_of_ble_eq_true rfl), (Nat.le_of_ble_eq_true rfl)⟩ ⟨(by show cells + 24 + 0 ≤ 601024; omega), (by show slots + 4400 + 0 ≤ 7293034; omega)⟩ dL_law_914 (fun _ _ h => h.elim) (fun v Y2 hp => ?_)
  obtain ⟨M2, hp, hR2, hq2⟩ := hp
  obtain ⟨r, rfl, hP⟩ := hp
  obtain ⟨hk0, hzz, hcl⟩ := hU M2 r hP
  have hst := stK_plu hI hn hP
  obtain ⟨L2, Z2, hcx, hzm, hy2⟩ := hcl
  obtain ⟨hcx2, hga2⟩ := ref_aft hcx hR2 hq2
  obtain ⟨rr, hrr, er⟩ := iv_rng (r)
  rw [← er]
  refine V_istore C dL_law_917 (by decide) rfl ?_
  refine V_aload_n C dL_law_919 rfl ?_
  refine V_callV C (As := []) (c_X10_thrown hl Y2 hcx2.1) kL_95 hcx2.1.1 rfl rfl (Nat.le_of_ble_eq_true rfl) ⟨(Nat.le_of_ble_eq_true rfl), (Nat.le_of_ble_eq_true rfl)⟩ ⟨(by show cells + 24 + 0 + 0 ≤ 601024; omega), (by show slots + 4400 + 0 + 0 ≤ 7293034; omega)⟩ dL_law_920 (fun _ _ h => h.elim) (fun v Y3 hp => ?_)
  obtain ⟨M3, ⟨hM3, rfl⟩, hR3, hq3⟩ := hp
  rw [hM3] at hR3
  obtain ⟨hcx3, hga3⟩ := ref_aft hcx2 hR3 hq3
  rw [hk0]
  refine V_iload C dL_law_923 rfl ?_
  refine V_icmp_eq C dL_law_925 (by omega) (by omega) (fun h925 => ?_) (fun h925 => ?_)
  · refine V_iload C dL_law_930 rfl ?_
    refine V_if_ne C dL_law_932 (by omega) (fun h932 => ?_) (fun h932 => ?_)
    · refine V_goto C dL_law_947 ?_
      exact hend _ _ _ _ _ _ _ _ hcx3 hzm hst.1 hy2 (by have := hst.2.1; omega) (by have := hst.2.2; omega)
    · refine V_aload_n C dL_law_935 rfl ?_
      refine V_iconst C dL_law_936 ?_
      obtain ⟨zz, hz, ez, hga⟩ := hzz (by omega)
      obtain rfl : rr = zz := iv_inj hrr hz (er.trans ez.symm)
      have hao := hcx3.ao
      have hga4 : gA Y3 ao 0 = rr := (hga3.trans hga2).trans hga
      refine V_lald C (j := 0) (n := 1) hao.1 hao.2 (by decide) (by decide) rfl dL_law_937 ?_
      rw [hga4]
      refine V_iload C dL_law_938 rfl ?_
      refine V_i2l C dL_law_940 hrr ?_
      refine V_lcmp C dL_law_941 (by first | omega | decide) (by first | omega | decide) ?_
      rw [lc0]
      refine V_if_eq C dL_law_942 (by decide) (fun h942 => ?_) (fun h942 => ?_)
      · refine V_goto C dL_law_947 ?_
        exact hend _ _ _ _ _ _ _ _ hcx3 hzm hst.1 hy2 (by have := hst.2.1; omega) (by have := hst.2.2; omega)
      · exact absurd rfl h942
  · exact absurd rfl h925
set_option maxHeartbeats 2000000 in
set_option maxRecDepth 20000 in
theorem lc_unplug {nm : String} (C : Cx p l s m args meth c D kA b t0 7 RL nm cL_law) (hl : l.stackTraces = false) (hX : va_X sb Ls xs s s.heap) (hb1 : sb < s.heap.size) (hb2 : sb < b) (hL6 : 6 * j + 6 ≤ Ls) (hL : Ls ≤ 3072) (h : CX t0 ao mo ad L X Z M) (hZ : ZM Z M) (hI : Iv M j) (hq : Lsc xs j q) (hc : cells + budC M ≤ 400 + 26 * j) (hs : slots + budS M ≤ 2440000 + 4402 * j) (hend : LEnd p l e s m args below meth c D kA b Q t0 ao mo ad sb L j) : V p l e room_1 s m args below meth c D kA b 7 cells slots Q X 950 [some (rv (some sb)), some (rv (some (lA L 11 0))), some (rv (some mo)), some (rv (some ao)), some (iv (6 * (j : Int))), u5, u6] [] := by
  have hKy := (yd_C h hZ.1).1
  have hn : ((yC Z 6 : Nat) : Int) = M.1 30 := hZ.1.1.2.2.2.2.2.1
  refine V_aload_n C dL_law_950 rfl ?_
  refine V_aload_n C dL_law_951 rfl ?_
  refine V_iload C dL_law_952 rfl ?_
  refine V_iconst C dL_law_954 ?_
  refine V_iadd C dL_law_955 ?_
  refine V_sld C (j := 6 * j + 1) hX hb1 hb2 (by omega) hL (by omega) (hq 1 (by decide)).2 dL_law_956 ?_
  refine V_aload_n C dL_law_957 rfl ?_
  refine V_callSH C (As := [_, _, _]) (c_L_unplug hl h hZ hI (hq 1 (by decide)).1) sL_unplug rfl rfl (Nat.le_of_ble_eq_true rfl) ⟨(Nat.le_of_ble_eq_true rfl), (Nat.le_of_ble_eq_true rfl)⟩ ⟨(by show cells + 2 ≤ 601024; omega), (by show slots + 12 ≤ 7293034; omega)⟩ dL_law_958 (fun _ _ h => h.elim) (fun v Y hp => ?_)
  obtain ⟨hRR, k, rfl, hk, hU⟩ := hp
  refine V_istore C dL_law_961 (by decide) rfl ?_
  refine V_aload_n C dL_law_963 rfl ?_
  refine V_aload_n C dL_law_964 rfl ?_
  refine V_iload C dL_law_965 rfl ?_
  refine V_iconst C dL_law_967 ?_
  refine V_iadd C dL_law_968 ?_
  refine V_sld C (j := 6 * j + 1) hX hb1 hb2 (by omega) hL (by omega) (hq 1 (by decide)).2 dL_law_969 ?_
  refine V_callV C (As := [_]) ((c_X10_unplug hl (hq 1 (by decide)).1 hI.1) Y hRR) kL_133 hRR.1 rfl rfl (Nat.le_of_ble_eq_true rfl) ⟨(Nat.le_of_ble_eq_true rfl), (Nat.le_of_ble_eq_true rfl)⟩ ⟨(by show cells + 2 + 0 ≤ 601024; omega), (by show slots + 12 + 0 ≤ 7293034; omega)⟩ dL_law_970 (fun _ _ h => h.elim) (fun v Y2 hp => ?_)
  obtain ⟨M2, hp, hR2, hq2⟩ := hp
  obtain ⟨hM2, rfl⟩ := hp
  obtain ⟨hk0, hzz, hcl⟩ := hU M2 _ ⟨hM2, rfl⟩
  have hst : stK M M2 j := by rw [hM2]; exact stK_unp hI
  obtain ⟨L2, Z2, hcx, hzm, hy2⟩ := hcl
  obtain ⟨hcx2, hga2⟩ := ref_aft hcx hR2 hq2
  obtain ⟨rr, hrr, er⟩ := iv_rng ((unpS M (q 1)).2)
  rw [← er]
  refine V_istore C dL_law_973 (by decide) rfl ?_
  refine V_aload_n C dL_law_975 rfl ?_
  refine V_callV C (As := []) (c_X10_thrown hl Y2 hcx2.1) kL_95 hcx2.1.1 rfl rfl (Nat.le_of_ble_eq_true rfl) ⟨(Nat.le_of_ble_eq_true rfl), (Nat.le_of_ble_eq_true rfl)⟩ ⟨(by show cells + 2 + 0 + 0 ≤ 601024; omega), (by show slots + 12 + 0 + 0 ≤ 7293034; omega)⟩ dL_law_976 (fun _ _ h => h.elim) (fun v Y3 hp => ?_)
  obtain ⟨M3, ⟨hM3, rfl⟩, hR3, hq3⟩ := hp
  rw [hM3] at hR3
  obtain ⟨hcx3, hga3⟩ := ref_aft hcx2 hR3 hq3
  rw [hk0]
  refine V_iload C dL_law_979 rfl ?_
  refine V_icmp_eq C dL_law_981 (by omega) (by omega) (fun h981 => ?_) (fun h981 => ?_)
  · refine V_iload C dL_law_986 rfl ?_
    refine V_if_ne C dL_law_988 (by omega) (fun h988 => ?_) (fun h988 => ?_)
    · refine V_goto C dL_law_1003 ?_
      exact hend _ _ _ _ _ _ _ _ hcx3 hzm hst.1 hy2 (by have := hst.2.1; omega) (by have := hst.2.2; omega)
    · refine V_aload_n C dL_law_991 rfl ?_
      refine V_iconst C dL_law_992 ?_
      obtain ⟨zz, hz, ez, hga⟩ := hzz (by omega)
      obtain rfl : rr = zz := iv_inj hrr hz (er.trans ez.symm)
      have hao := hcx3.ao
      have hga4 : gA Y3 ao 0 = rr := (hga3.trans hga2).trans hga
      refine V_lald C (j := 0) (n := 1) hao.1 hao.2 (by decide) (by decide) rfl dL_law_993 ?_
      rw [hga4]
      refine V_iload C dL_law_994 rfl ?_
      refine V_i2l C dL_law_996 hrr ?_
      refine V_lcmp C dL_law_997 (by first | omega | decide) (by first | omega | decide) ?_
      rw [lc0]
      refine V_if_eq C dL_law_998 (by decide) (fun h998 => ?_) (fun h998 => ?_)
      · refine V_goto C dL_law_1003 ?_
        exact hend _ _ _ _ _ _ _ _ hcx3 hzm hst.1 hy2 (by have := hst.2.1; omega) (by have := hst.2.2; omega)
      · exact absurd rfl h998
  · exact absurd rfl h981
set_option maxHeartbeats 2000000 in
set_option maxRecDepth 20000 in
theorem lc_of {nm : String} (C : Cx p l s m args meth c D kA b t0 7 RL nm cL_law) (hl : l.stackTraces = false) (hX : va_X sb Ls xs s s.heap) (hb1 : sb < s.heap.size) (hb2 : sb < b) (hL6 : 6 * j + 6 ≤ Ls) (hL : Ls ≤ 3072) (h : CX t0 ao mo ad L X Z M) (hZ : ZM Z M) (hI : Iv M j) (hq : Lsc xs j q) (hc : cells + budC M ≤ 400 + 26 * j) (hs : slots + budS M ≤ 2440000 + 4402 * j) (hend : LEnd p l e s m args below meth c D kA b Q t0 ao mo ad sb L j) : V p l e room_1 s m args below meth c D kA b 7 cells slots Q X 1062 [some (rv (some sb)), some (rv (some (lA L 11 0))), some (rv (some mo)), some (rv (some ao)), some (iv (6 * (j : Int))), u5, u6] [] := by
  have hKy := (yd_C h hZ.1).1
  have hn : ((yC Z 6 : Nat) : Int) = M.1 30 := hZ.1.1.2.2.2.2.2.1
  refine V_aload_n C dL_law_1062 rfl ?_
  refine V_aload_n C dL_law_1063 rfl ?_
  refine V_iload C dL_law_1064 rfl ?_
  refine V_iconst C dL_law_1066 ?_
  refine V_iadd C dL_law_1067 ?_
  refine V_sld C (j := 6 * j + 1) hX hb1 hb2 (by omega) hL (by omega) (hq 1 (by decide)).2 dL_law_1068 ?_
  refine V_aload_n C dL_law_1069 rfl ?_
  refine V_iload C dL_law_1070 rfl ?_
  refine V_iconst C dL_law_1072 ?_
  refine V_iadd C dL_law_1073 ?_
  refine V_sld C (j := 6 * j + 2) hX hb1 hb2 (by omega) hL (by omega) (hq 2 (by decide)).2 dL_law_1074 ?_
  refine V_aload_n C dL_law_1075 rfl ?_
  refine V_callSH C (As := [_, _, _, _]) (c_L_of hl h hZ hI (hq 1 (by decide)).1 (hq 2 (by decide)).1) sL_of rfl rfl (Nat.le_of_ble_eq_true rfl) ⟨(Nat.le_of_ble_eq_true rfl), (Nat.le_of_ble_eq_true rfl)⟩ ⟨(by show cells + 2 ≤ 601024; omega), (by show slots + 12 ≤ 7293034; omega)⟩ dL_law_1076 (fun _ _ h => h.elim) (fun v Y hp => ?_)
  obtain ⟨hRR, k, rfl, hk, hU⟩ := hp
  refine V_istore C dL_law_1079 (by decide) rfl ?_
  refine V_aload_n C dL_law_1081 rfl ?_
  refine V_aload_n C dL_law_1082 rfl ?_
  refine V_iload C dL_law_1083 rfl ?_
  refine V_iconst C dL_law_1085 ?_
  refine V_iadd C dL_law_1086 ?_
  refine V_sld C (j := 6 * j + 1) hX hb1 hb2 (by omega) hL (by omega) (hq 1 (by decide)).2 dL_law_1087 ?_
  refine V_aload_n C dL_law_1088 rfl ?_
  refine V_iload C dL_law_1089 rfl ?_
  refine V_iconst C dL_law_1091 ?_
  refine V_iadd C dL_law_1092 ?_
  refine V_sld C (j := 6 * j + 2) hX hb1 hb2 (by omega) hL (by omega) (hq 2 (by decide)).2 dL_law_1093 ?_
  refine V_callV C (As := [_, _]) ((c_X10_of hl (hq 1 (by decide)).1 (hq 2 (by decide)).1 hI.1) Y hRR) kL_139 hRR.1 rfl rfl (Nat.le_of_ble_eq_true rfl) ⟨(Nat.le_of_ble_eq_true rfl), (Nat.le_of_ble_eq_true rfl)⟩ ⟨(by show cells + 2 + 0 ≤ 601024; omega), (by show slots + 12 + 0 ≤ 7293034; omega)⟩ dL_law_1094 (fun _ _ h => h.elim) (fun v Y2 hp => ?_)
  obtain ⟨M2, hp, hR2, hq2⟩ := hp
  obtain ⟨hM2, rfl⟩ := hp
  obtain ⟨hk0, hzz, hcl⟩ := hU M2 _ ⟨hM2, rfl⟩
  have hst : stK M M2 j := by rw [hM2]; exact stK_of hI
  obtain ⟨L2, Z2, hcx, hzm, hy2⟩ := hcl
  obtain ⟨hcx2, hga2⟩ := ref_aft hcx hR2 hq2
  obtain ⟨rr, hrr, er⟩ := iv_rng ((ofS M (q 1) (q 2)).2)
  rw [← er]
  refine V_istore C dL_law_1097 (by decide) rfl ?_
  refine V_aload_n C dL_law_1099 rfl ?_
  refine V_callV C (As := []) (c_X10_thrown hl Y2 hcx2.1) kL_95 hcx2.1.1 rfl rfl (Nat.le_of_ble_eq_true rfl) ⟨(Nat.le_of_ble_eq_true rfl), (Nat.le_of_ble_eq_true rfl)⟩ ⟨(by show cells + 2 + 0 + 0 ≤ 601024; omega), (by show slots + 12 + 0 + 0 ≤ 7293034; omega)⟩ dL_law_1100 (fun _ _ h => h.elim) (fun v Y3 hp => ?_)
  obtain ⟨M3, ⟨hM3, rfl⟩, hR3, hq3⟩ := hp
  rw [hM3] at hR3
  obtain ⟨hcx3, hga3⟩ := ref_aft hcx2 hR3 hq3
  rw [hk0]
  refine V_iload C dL_law_1103 rfl ?_
  refine V_icmp_eq C dL_law_1105 (by omega) (by omega) (fun h1105 => ?_) (fun h1105 => ?_)
  · refine V_iload C dL_law_1110 rfl ?_
    refine V_if_ne C dL_law_1112 (by omega) (fun h1112 => ?_) (fun h1112 => ?_)
    · refine V_goto C dL_law_1127 ?_
      exact hend _ _ _ _ _ _ _ _ hcx3 hzm hst.1 hy2 (by have := hst.2.1; omega) (by have := hst.2.2; omega)
    · refine V_aload_n C dL_law_1115 rfl ?_
      refine V_iconst C dL_law_1116 ?_
      obtain ⟨zz, hz, ez, hga⟩ := hzz (by omega)
      obtain rfl : rr = zz := iv_inj hrr hz (er.trans ez.symm)
      have hao := hcx3.ao
      have hga4 : gA Y3 ao 0 = rr := (hga3.trans hga2).trans hga
      refine V_lald C (j := 0) (n := 1) hao.1 hao.2 (by decide) (by decide) rfl dL_law_1117 ?_
      rw [hga4]
      refine V_iload C dL_law_1118 rfl ?_
      refine V_i2l C dL_law_1120 hrr ?_
      refine V_lcmp C dL_law_1121 (by first | omega | decide) (by first | omega | decide) ?_
      rw [lc0]
      refine V_if_eq C dL_law_1122 (by decide) (fun h1122 => ?_) (fun h1122 => ?_)
      · refine V_goto C dL_law_1127 ?_
        exact hend _ _ _ _ _ _ _ _ hcx3 hzm hst.1 hy2 (by have := hst.2.1; omega) (by have := hst.2.2; omega)
      · exact absurd rfl h1122
  · exact absurd rfl h1105
end LC2
