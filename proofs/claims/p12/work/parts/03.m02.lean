noncomputable def bX10_startsBy_82 (σ : gS) (c82_1 : Int32) (c82_2 : Int32) (rec82 : Int32 → gS → Option (gS)) (a3 : Int32) (σ1 : gS) : Option (gS) :=
  if 2 ≤ a3 then gd (gb c82_1 12) <| nm (gsI σ1 29 c82_1.toNatClampNeg (vp_nar .boolean 1)) fun σ13 => some σ13 else bd (fX10_startedRow σ1 c82_2) fun r15 => bd (fX10_put σ1 r15 a3) fun r17 => bd (fX10_rowOf σ1 c82_1 c82_2) fun r19 => bd (fX10_turned σ1 r19 a3) fun r21 => gd (gb ((38 * a3) + c82_1) 76) <| nm (gsI σ1 28 ((38 * a3) + c82_1).toNatClampNeg (r17 - r21)) fun σ22 => nm (a3 + 1 : Int32) fun x23 => rec82 x23 σ22
noncomputable def bX10_startsBy_55 (σ : gS) (c55_1 : Int32) (rec55 : Int32 → Option (gS)) (a2 : Int32) : Option (gS) :=
  bd (fX10_rowOf σ c55_1 a2) fun r5 => (if r5 = ((-1)) then nm (a2 + 1 : Int32) fun x7 => rec55 x7 else bd (fX10_startedRow σ a2) fun r9 => (if r9 = ((-1)) then nm (a2 + 1 : Int32) fun x24 => rec55 x24 else nm (0 : Int32) fun x11 => lpc (S := Int32 × gS) K9 (fun rec s => bX10_startsBy_82 σ c55_1 a2 (fun a3 σ1 => rec (a3, σ1)) s.1 s.2) (x11, σ)))
noncomputable def bX10_startsBy_17 (σ : gS) (c17_1 : Int32) (rec17 : Int32 → Int32 → Option (gS)) (a2 : Int32) (a3 : Int32) : Option (gS) :=
  if 4 ≤ a3 then gd (gb c17_1 12) <| nm (gsI σ 27 c17_1.toNatClampNeg a2) fun σ28 => nm (0 : Int32) fun x29 => lpc (S := Int32) K9 (fun rec s => bX10_startsBy_55 σ28 c17_1 (fun a2 => rec (a2)) s) (x29) else bd (fX10_unlike σ c17_1 a3) fun r31 => bd (fX10_unlike σ c17_1 a2) fun r33 => (if r33 ≤ r31 then nm (a3 + 1 : Int32) fun x35 => rec17 a2 x35 else nm (a3 : Int32) fun x36 => nm (a3 + 1 : Int32) fun x37 => rec17 x36 x37)
noncomputable def fX10_startsBy (σ : gS) (p1 : Int32) : Option (gS) :=
  gd (gb (12 + p1) 24) <| nm (σ.1 17 (12 + p1).toNatClampNeg) fun v1 => (if v1 = 4 then nm (0 : Int32) fun x25 => nm (1 : Int32) fun x26 => lpc (S := Int32 × Int32) K9 (fun rec s => bX10_startsBy_17 σ p1 (fun a2 a3 => rec (a2, a3)) s.1 s.2) (x25, x26) else nm (0 : Int32) fun x3 => lpc (S := Int32) K9 (fun rec s => bX10_startsBy_55 σ p1 (fun a2 => rec (a2)) s) (x3))
noncomputable abbrev rmX10_startsBy : Room := { frames := 4, cells := 0, slots := 0, locals := 99 }
set_option maxRecDepth 100000 in
set_option maxHeartbeats 4000000 in
theorem wbX10_startsBy_82 {M : gM} {G : gG} {out : gS} (X : gX M G zM cX10_startsBy RX10 4 wsX10_startsBy rmX10_startsBy none) (σ : gS) (c82_1 : Int32) (c82_2 : Int32) (rec82 : Int32 → gS → Option (gS)) (ih82 : ∀ (a3 : Int32) (σ1 : gS), rec82 a3 σ1 = some out → WW M (gQv M G zM out) G zM 4 σ1 82 [(0, .ref (G.2.1 0)), (1, .int c82_1), (2, .int c82_2), (3, .int a3)] []) (a3 : Int32) (σ1 : gS) (hF : bX10_startsBy_82 σ c82_1 c82_2 rec82 a3 σ1 = some out) : WW M (gQv M G zM out) G zM 4 σ1 82 [(0, .ref (G.2.1 0)), (1, .int c82_1), (2, .int c82_2), (3, .int a3)] [] := by
  unfold bX10_startsBy_82 at hF
  refine ww_iload_n (pc := 82) X (j := 3) dX10_startsBy_82 rfl rfl ?_
  refine ww_iconst (pc := 83) X (v := 2) dX10_startsBy_83 (by decide) ?_
  refine ww_icmp_ge (pc := 84) (tgt := 126) X dX10_startsBy_84 (by decide) hF (fun h12 hF => ?_) (fun h12 hF => ?_)
  · refine ww_aload_n (pc := 126) X (j := 0) dX10_startsBy_126 rfl rfl ?_
    refine ww_get (pc := 127) X (ref := "PictureBlockModel") (T := TX10) (j := 39) dX10_startsBy_127 inX10_startsBy_RX10 shzM_0 clzM_10 (by decide) rfl (List.mem_of_getElem? (i := 4) rfl) rfl ?_
    refine ww_iload_n (pc := 130) X (j := 1) dX10_startsBy_130 rfl rfl ?_
    refine ww_iconst (pc := 131) X (v := 1) dX10_startsBy_131 (by decide) ?_
    refine ww_zast (pc := 132) X dX10_startsBy_132 shzM_29 rfl hF (fun σ13 eσ13 bσ13 hF => ?_)
    exact ww_vret (pc := 133) X dX10_startsBy_133 (by cases hF; rfl)
  · refine ww_aload_n (pc := 87) X (j := 0) dX10_startsBy_87 rfl rfl ?_
    refine ww_get (pc := 88) X (ref := "PictureBlockModel") (T := TX10) (j := 38) dX10_startsBy_88 inX10_startsBy_RX10 shzM_0 clzM_10 (by decide) rfl (List.mem_of_getElem? (i := 3) rfl) rfl ?_
    refine ww_bipush (pc := 91) X (v := 38) dX10_startsBy_91 (by decide) ?_
    refine ww_iload_n (pc := 93) X (j := 3) dX10_startsBy_93 rfl rfl ?_
    refine ww_imul (pc := 94) X dX10_startsBy_94 ?_
    refine ww_iload_n (pc := 95) X (j := 1) dX10_startsBy_95 rfl rfl ?_
    refine ww_iadd (pc := 96) X dX10_startsBy_96 ?_
    refine ww_aload_n (pc := 97) X (j := 0) dX10_startsBy_97 rfl rfl ?_
    refine ww_aload_n (pc := 98) X (j := 0) dX10_startsBy_98 rfl rfl ?_
    refine ww_iload_n (pc := 99) X (j := 2) dX10_startsBy_99 rfl rfl ?_
    obtain ⟨r15, h14, hF⟩ := bd_some hF
    refine ww_callVi (pc := 100) X (As := [.int c82_2]) (rest := [.ref (G.2.1 0), .int ((38 * a3) + c82_1), .ref (G.2.1 28)]) dX10_startsBy_100 (kX10_startedRow (mL M) G X.2.2.2.2.2.2.1 X.2.2.2.2.2.2.2.1 σ1 c82_2 r15 h14) rfl shzM_0 clzM_10 gX10_startsBy_X10_startedRow hyX10_startedRow ⟨rfl, rfl⟩ ⟨Nat.le_of_ble_eq_true rfl, Nat.le_of_ble_eq_true rfl⟩ rfl rfl (Nat.le_of_ble_eq_true rfl) ?_
    refine ww_iload_n (pc := 103) X (j := 3) dX10_startsBy_103 rfl rfl ?_
    obtain ⟨r17, h16, hF⟩ := bd_some hF
    refine ww_callVi (pc := 104) X (As := [.int r15, .int a3]) (rest := [.int ((38 * a3) + c82_1), .ref (G.2.1 28)]) dX10_startsBy_104 (kX10_put (mL M) G X.2.2.2.2.2.2.1 X.2.2.2.2.2.2.2.1 σ1 r15 a3 r17 h16) rfl shzM_0 clzM_10 gX10_startsBy_X10_put hyX10_put ⟨rfl, rfl⟩ ⟨Nat.le_of_ble_eq_true rfl, Nat.le_of_ble_eq_true rfl⟩ rfl rfl (Nat.le_of_ble_eq_true rfl) ?_
    refine ww_aload_n (pc := 107) X (j := 0) dX10_startsBy_107 rfl rfl ?_
    refine ww_aload_n (pc := 108) X (j := 0) dX10_startsBy_108 rfl rfl ?_
    refine ww_iload_n (pc := 109) X (j := 1) dX10_startsBy_109 rfl rfl ?_
    refine ww_iload_n (pc := 110) X (j := 2) dX10_startsBy_110 rfl rfl ?_
    obtain ⟨r19, h18, hF⟩ := bd_some hF
    refine ww_callVi (pc := 111) X (As := [.int c82_1, .int c82_2]) (rest := [.ref (G.2.1 0), .int r17, .int ((38 * a3) + c82_1), .ref (G.2.1 28)]) dX10_startsBy_111 (kX10_rowOf (mL M) G X.2.2.2.2.2.2.1 X.2.2.2.2.2.2.2.1 σ1 c82_1 c82_2 r19 h18) rfl shzM_0 clzM_10 gX10_startsBy_X10_rowOf hyX10_rowOf ⟨rfl, rfl⟩ ⟨Nat.le_of_ble_eq_true rfl, Nat.le_of_ble_eq_true rfl⟩ rfl rfl (Nat.le_of_ble_eq_true rfl) ?_
    refine ww_iload_n (pc := 114) X (j := 3) dX10_startsBy_114 rfl rfl ?_
    obtain ⟨r21, h20, hF⟩ := bd_some hF
    refine ww_callVi (pc := 115) X (As := [.int r19, .int a3]) (rest := [.int r17, .int ((38 * a3) + c82_1), .ref (G.2.1 28)]) dX10_startsBy_115 (kX10_turned (mL M) G X.2.2.2.2.2.2.1 X.2.2.2.2.2.2.2.1 σ1 r19 a3 r21 h20) rfl shzM_0 clzM_10 gX10_startsBy_X10_turned hyX10_turned ⟨rfl, rfl⟩ ⟨Nat.le_of_ble_eq_true rfl, Nat.le_of_ble_eq_true rfl⟩ rfl rfl (Nat.le_of_ble_eq_true rfl) ?_
    refine ww_isub (pc := 118) X dX10_startsBy_118 ?_
    refine ww_iast (pc := 119) X dX10_startsBy_119 shzM_28 rfl hF (fun σ22 eσ22 bσ22 hF => ?_)
    refine ww_iinc (pc := 120) X (j := 3) (v := 1) (lv' := [(0, .ref (G.2.1 0)), (1, .int c82_1), (2, .int c82_2)]) dX10_startsBy_120 rfl rfl (by decide) rfl hF (fun x23 ex23 hF => ?_)
    refine ww_goto (pc := 123) X (tgt := 82) dX10_startsBy_123 (by decide) ?_
    exact ww_sub [1, 2, 3, 0] rfl (ih82 x23 σ22 hF)
set_option maxRecDepth 100000 in
set_option maxHeartbeats 4000000 in
theorem wbX10_startsBy_55 {M : gM} {G : gG} {out : gS} (X : gX M G zM cX10_startsBy RX10 4 wsX10_startsBy rmX10_startsBy none) (σ : gS) (c55_1 : Int32) (rec55 : Int32 → Option (gS)) (ih55 : ∀ (a2 : Int32), rec55 a2 = some out → WW M (gQv M G zM out) G zM 4 σ 55 [(0, .ref (G.2.1 0)), (1, .int c55_1), (2, .int a2)] []) (a2 : Int32) (hF : bX10_startsBy_55 σ c55_1 rec55 a2 = some out) : WW M (gQv M G zM out) G zM 4 σ 55 [(0, .ref (G.2.1 0)), (1, .int c55_1), (2, .int a2)] [] := by
  unfold bX10_startsBy_55 at hF
  refine ww_aload_n (pc := 55) X (j := 0) dX10_startsBy_55 rfl rfl ?_
  refine ww_iload_n (pc := 56) X (j := 1) dX10_startsBy_56 rfl rfl ?_
  refine ww_iload_n (pc := 57) X (j := 2) dX10_startsBy_57 rfl rfl ?_
  obtain ⟨r5, h4, hF⟩ := bd_some hF
  refine ww_callVi (pc := 58) X (As := [.int c55_1, .int a2]) (rest := []) dX10_startsBy_58 (kX10_rowOf (mL M) G X.2.2.2.2.2.2.1 X.2.2.2.2.2.2.2.1 σ c55_1 a2 r5 h4) rfl shzM_0 clzM_10 gX10_startsBy_X10_rowOf hyX10_rowOf ⟨rfl, rfl⟩ ⟨Nat.le_of_ble_eq_true rfl, Nat.le_of_ble_eq_true rfl⟩ rfl rfl (Nat.le_of_ble_eq_true rfl) ?_
  refine ww_iconst (pc := 61) X (v := (-1)) dX10_startsBy_61 (by decide) ?_
  refine ww_icmp_eq (pc := 62) (tgt := 74) X dX10_startsBy_62 (by decide) hF (fun h6 hF => ?_) (fun h6 hF => ?_)
  · refine ww_iinc (pc := 74) X (j := 2) (v := 1) (lv' := [(0, .ref (G.2.1 0)), (1, .int c55_1)]) dX10_startsBy_74 rfl rfl (by decide) rfl hF (fun x7 ex7 hF => ?_)
    refine ww_goto (pc := 77) X (tgt := 55) dX10_startsBy_77 (by decide) ?_
    exact ww_sub [1, 2, 0] rfl (ih55 x7 hF)
  · refine ww_aload_n (pc := 65) X (j := 0) dX10_startsBy_65 rfl rfl ?_
    refine ww_iload_n (pc := 66) X (j := 2) dX10_startsBy_66 rfl rfl ?_
    obtain ⟨r9, h8, hF⟩ := bd_some hF
    refine ww_callVi (pc := 67) X (As := [.int a2]) (rest := []) dX10_startsBy_67 (kX10_startedRow (mL M) G X.2.2.2.2.2.2.1 X.2.2.2.2.2.2.2.1 σ a2 r9 h8) rfl shzM_0 clzM_10 gX10_startsBy_X10_startedRow hyX10_startedRow ⟨rfl, rfl⟩ ⟨Nat.le_of_ble_eq_true rfl, Nat.le_of_ble_eq_true rfl⟩ rfl rfl (Nat.le_of_ble_eq_true rfl) ?_
    refine ww_iconst (pc := 70) X (v := (-1)) dX10_startsBy_70 (by decide) ?_
    refine ww_icmp_ne (pc := 71) (tgt := 80) X dX10_startsBy_71 (by decide) hF (fun h10 hF => ?_) (fun h10 hF => ?_)
    · refine ww_iconst (pc := 80) X (v := 0) dX10_startsBy_80 (by decide) ?_
      refine ww_istore_n (pc := 81) X (lv' := [(0, .ref (G.2.1 0)), (1, .int c55_1), (2, .int a2)]) dX10_startsBy_81 rfl (by decide) rfl hF (fun x11 ex11 hF => ?_)
      exact ww_sub [1, 2, 3, 0] rfl (lpc_ind (P := (fun (s : Int32 × gS) => WW M (gQv M G zM out) G zM 4 s.2 82 [(0, .ref (G.2.1 0)), (1, .int c55_1), (2, .int a2), (3, .int s.1)] [])) (fun rec s ih hF => wbX10_startsBy_82 X σ c55_1 a2 (fun a3 σ1 => rec (a3, σ1)) (fun a3 σ1 h => ih (a3, σ1) h) s.1 s.2 hF) K9 (x11, σ) hF)
    · refine ww_iinc (pc := 74) X (j := 2) (v := 1) (lv' := [(0, .ref (G.2.1 0)), (1, .int c55_1)]) dX10_startsBy_74 rfl rfl (by decide) rfl hF (fun x24 ex24 hF => ?_)
      refine ww_goto (pc := 77) X (tgt := 55) dX10_startsBy_77 (by decide) ?_
      exact ww_sub [1, 2, 0] rfl (ih55 x24 hF)
set_option maxRecDepth 100000 in
set_option maxHeartbeats 4000000 in
theorem wbX10_startsBy_17 {M : gM} {G : gG} {out : gS} (X : gX M G zM cX10_startsBy RX10 4 wsX10_startsBy rmX10_startsBy none) (σ : gS) (c17_1 : Int32) (rec17 : Int32 → Int32 → Option (gS)) (ih17 : ∀ (a2 : Int32) (a3 : Int32), rec17 a2 a3 = some out → WW M (gQv M G zM out) G zM 4 σ 17 [(0, .ref (G.2.1 0)), (1, .int c17_1), (2, .int a2), (3, .int a3)] []) (a2 : Int32) (a3 : Int32) (hF : bX10_startsBy_17 σ c17_1 rec17 a2 a3 = some out) : WW M (gQv M G zM out) G zM 4 σ 17 [(0, .ref (G.2.1 0)), (1, .int c17_1), (2, .int a2), (3, .int a3)] [] := by
  unfold bX10_startsBy_17 at hF
  refine ww_iload_n (pc := 17) X (j := 3) dX10_startsBy_17 rfl rfl ?_
  refine ww_iconst (pc := 18) X (v := 4) dX10_startsBy_18 (by decide) ?_
  refine ww_icmp_ge (pc := 19) (tgt := 46) X dX10_startsBy_19 (by decide) hF (fun h27 hF => ?_) (fun h27 hF => ?_)
  · refine ww_aload_n (pc := 46) X (j := 0) dX10_startsBy_46 rfl rfl ?_
    refine ww_get (pc := 47) X (ref := "PictureBlockModel") (T := TX10) (j := 37) dX10_startsBy_47 inX10_startsBy_RX10 shzM_0 clzM_10 (by decide) rfl (List.mem_of_getElem? (i := 2) rfl) rfl ?_
    refine ww_iload_n (pc := 50) X (j := 1) dX10_startsBy_50 rfl rfl ?_
    refine ww_iload_n (pc := 51) X (j := 2) dX10_startsBy_51 rfl rfl ?_
    refine ww_iast (pc := 52) X dX10_startsBy_52 shzM_27 rfl hF (fun σ28 eσ28 bσ28 hF => ?_)
    refine ww_iconst (pc := 53) X (v := 0) dX10_startsBy_53 (by decide) ?_
    refine ww_istore_n (pc := 54) X (lv' := [(0, .ref (G.2.1 0)), (1, .int c17_1), (3, .int a3)]) dX10_startsBy_54 rfl (by decide) rfl hF (fun x29 ex29 hF => ?_)
    exact ww_sub [1, 2, 0] rfl (lpc_ind (P := (fun (s : Int32) => WW M (gQv M G zM out) G zM 4 σ28 55 [(0, .ref (G.2.1 0)), (1, .int c17_1), (2, .int s)] [])) (fun rec s ih hF => wbX10_startsBy_55 X σ28 c17_1 (fun a2 => rec (a2)) (fun a2 h => ih (a2) h) s hF) K9 (x29) hF)
  · refine ww_aload_n (pc := 22) X (j := 0) dX10_startsBy_22 rfl rfl ?_
    refine ww_iload_n (pc := 23) X (j := 1) dX10_startsBy_23 rfl rfl ?_
    refine ww_iload_n (pc := 24) X (j := 3) dX10_startsBy_24 rfl rfl ?_
    obtain ⟨r31, h30, hF⟩ := bd_some hF
    refine ww_callVl (pc := 25) X (As := [.int c17_1, .int a3]) (rest := []) dX10_startsBy_25 (kX10_unlike (mL M) G X.2.2.2.2.2.2.1 X.2.2.2.2.2.2.2.1 σ c17_1 a3 r31 h30) rfl shzM_0 clzM_10 gX10_startsBy_X10_unlike hyX10_unlike ⟨rfl, rfl⟩ ⟨Nat.le_of_ble_eq_true rfl, Nat.le_of_ble_eq_true rfl⟩ rfl rfl (Nat.le_of_ble_eq_true rfl) ?_
    refine ww_aload_n (pc := 28) X (j := 0) dX10_startsBy_28 rfl rfl ?_
    refine ww_iload_n (pc := 29) X (j := 1) dX10_startsBy_29 rfl rfl ?_
    refine ww_iload_n (pc := 30) X (j := 2) dX10_startsBy_30 rfl rfl ?_
    obtain ⟨r33, h32, hF⟩ := bd_some hF
    refine ww_callVl (pc := 31) X (As := [.int c17_1, .int a2]) (rest := [.long r31]) dX10_startsBy_31 (kX10_unlike (mL M) G X.2.2.2.2.2.2.1 X.2.2.2.2.2.2.2.1 σ c17_1 a2 r33 h32) rfl shzM_0 clzM_10 gX10_startsBy_X10_unlike hyX10_unlike ⟨rfl, rfl⟩ ⟨Nat.le_of_ble_eq_true rfl, Nat.le_of_ble_eq_true rfl⟩ rfl rfl (Nat.le_of_ble_eq_true rfl) ?_
    refine ww_lcmp_ge (pc := 34) (tgt := 40) X dX10_startsBy_34 dX10_startsBy_35 (by decide) hF (fun h34 hF => ?_) (fun h34 hF => ?_)
    · refine ww_iinc (pc := 40) X (j := 3) (v := 1) (lv' := [(0, .ref (G.2.1 0)), (1, .int c17_1), (2, .int a2)]) dX10_startsBy_40 rfl rfl (by decide) rfl hF (fun x35 ex35 hF => ?_)
      refine ww_goto (pc := 43) X (tgt := 17) dX10_startsBy_43 (by decide) ?_
      exact ww_sub [1, 2, 3, 0] rfl (ih17 a2 x35 hF)
    · refine ww_iload_n (pc := 38) X (j := 3) dX10_startsBy_38 rfl rfl ?_
      refine ww_istore_n (pc := 39) X (lv' := [(0, .ref (G.2.1 0)), (1, .int c17_1), (3, .int a3)]) dX10_startsBy_39 rfl (by decide) rfl hF (fun x36 ex36 hF => ?_)
      refine ww_iinc (pc := 40) X (j := 3) (v := 1) (lv' := [(2, .int x36), (0, .ref (G.2.1 0)), (1, .int c17_1)]) dX10_startsBy_40 rfl rfl (by decide) rfl hF (fun x37 ex37 hF => ?_)
      refine ww_goto (pc := 43) X (tgt := 17) dX10_startsBy_43 (by decide) ?_
      exact ww_sub [2, 3, 1, 0] rfl (ih17 x36 x37 hF)
set_option maxRecDepth 100000 in
set_option maxHeartbeats 4000000 in
theorem wX10_startsBy {M : gM} {G : gG} {out : gS} (X : gX M G zM cX10_startsBy RX10 4 wsX10_startsBy rmX10_startsBy none) (σ : gS) (p1 : Int32) (hF : fX10_startsBy σ p1 = some out) : WW M (gQv M G zM out) G zM 4 σ 0 [(0, .ref (G.2.1 0)), (1, .int p1)] [] := by
  unfold fX10_startsBy at hF
  refine ww_aload_n (pc := 0) X (j := 0) dX10_startsBy_0 rfl rfl ?_
  refine ww_get (pc := 1) X (ref := "PictureBlockModel") (T := TX10) (j := 25) dX10_startsBy_1 inX10_startsBy_RX10 shzM_0 clzM_10 (by decide) rfl (List.mem_of_getElem? (i := 1) rfl) rfl ?_
  refine ww_bipush (pc := 4) X (v := 12) dX10_startsBy_4 (by decide) ?_
  refine ww_iload_n (pc := 6) X (j := 1) dX10_startsBy_6 rfl rfl ?_
  refine ww_iadd (pc := 7) X dX10_startsBy_7 ?_
  refine ww_iald (pc := 8) X dX10_startsBy_8 shzM_17 rfl hF (fun v1 ev1 bv1 hF => ?_)
  refine ww_iconst (pc := 9) X (v := 4) dX10_startsBy_9 (by decide) ?_
  refine ww_icmp_ne (pc := 10) (tgt := 53) X dX10_startsBy_10 (by decide) hF (fun h2 hF => ?_) (fun h2 hF => ?_)
  · refine ww_iconst (pc := 53) X (v := 0) dX10_startsBy_53 (by decide) ?_
    refine ww_istore_n (pc := 54) X (lv' := [(0, .ref (G.2.1 0)), (1, .int p1)]) dX10_startsBy_54 rfl (by decide) rfl hF (fun x3 ex3 hF => ?_)
    exact ww_sub [1, 2, 0] rfl (lpc_ind (P := (fun (s : Int32) => WW M (gQv M G zM out) G zM 4 σ 55 [(0, .ref (G.2.1 0)), (1, .int p1), (2, .int s)] [])) (fun rec s ih hF => wbX10_startsBy_55 X σ p1 (fun a2 => rec (a2)) (fun a2 h => ih (a2) h) s hF) K9 (x3) hF)
  · refine ww_iconst (pc := 13) X (v := 0) dX10_startsBy_13 (by decide) ?_
    refine ww_istore_n (pc := 14) X (lv' := [(0, .ref (G.2.1 0)), (1, .int p1)]) dX10_startsBy_14 rfl (by decide) rfl hF (fun x25 ex25 hF => ?_)
    refine ww_iconst (pc := 15) X (v := 1) dX10_startsBy_15 (by decide) ?_
    refine ww_istore_n (pc := 16) X (lv' := [(2, .int x25), (0, .ref (G.2.1 0)), (1, .int p1)]) dX10_startsBy_16 rfl (by decide) rfl hF (fun x26 ex26 hF => ?_)
    exact ww_sub [2, 3, 1, 0] rfl (lpc_ind (P := (fun (s : Int32 × Int32) => WW M (gQv M G zM out) G zM 4 σ 17 [(0, .ref (G.2.1 0)), (1, .int p1), (2, .int s.1), (3, .int s.2)] [])) (fun rec s ih hF => wbX10_startsBy_17 X σ p1 (fun a2 a3 => rec (a2, a3)) (fun a2 a3 h => ih (a2, a3) h) s.1 s.2 hF) K9 (x25, x26) hF)
set_option maxRecDepth 100000 in
set_option maxHeartbeats 4000000 in
theorem kX10_startsBy (l : Launch) (G : gG) (hG : gOK G zM.1) (hT : G.2.2.1.map (fun q => q.2) = zM.2.1) (σ : gS) (p1 : Int32) (out : gS) (hF : fX10_startsBy σ p1 = some out) : gCv l yX10_startsBy wsX10_startsBy rmX10_startsBy G zM [.ref (G.2.1 0), .int p1] σ out :=
  gEnter (by decide) rfl ⟨rfl, rfl⟩ hG hT (Nat.le_of_ble_eq_true rfl) rfl (fun M X hl => wX10_startsBy X σ p1 hF)
noncomputable def bX10_starts_161 (σ : gS) (c133_1 : Int32) (c161_2 : Int32) (c161_3 : Int32) (rec133 : Int32 → gS → Option (Int32 × gS)) (rec161 : Int32 → gS → Option (Int32 × gS)) (a4 : Int32) (σ1 : gS) : Option (Int32 × gS) :=
  if 2 ≤ a4 then nm (c161_2 + 1 : Int32) fun x26 => rec133 x26 σ1 else if c161_3 = ((-1)) then gd (gb (((38 * a4) + 12) + c161_2) 76) <| nm (gsI σ1 28 (((38 * a4) + 12) + c161_2).toNatClampNeg 0) fun σ32 => nm (a4 + 1 : Int32) fun x33 => rec161 x33 σ32 else bd (fX10_put σ1 c161_3 a4) fun r29 => gd (gb (((38 * a4) + 12) + c161_2) 76) <| nm (gsI σ1 28 (((38 * a4) + 12) + c161_2).toNatClampNeg r29) fun σ30 => nm (a4 + 1 : Int32) fun x31 => rec161 x31 σ30
noncomputable def bX10_starts_133 (σ : gS) (c133_1 : Int32) (rec133 : Int32 → gS → Option (Int32 × gS)) (a2 : Int32) (σ1 : gS) : Option (Int32 × gS) :=
  bd (fX10_points σ1) fun r14 => (if r14 ≤ a2 then bd (fX10_standControls σ1) fun σ17 => some (c133_1, σ17) else bd (fX10_pictures σ1) fun r19 => (if r19 = 0 then nm ((-1) : Int32) fun x34 => nm (0 : Int32) fun x35 => lpc (S := Int32 × gS) K9 (fun rec s => bX10_starts_161 σ1 c133_1 a2 x34 rec133 (fun a4 σ1 => rec (a4, σ1)) s.1 s.2) (x35, σ1) else bd (fX10_startedRow σ1 a2) fun r22 => nm (r22 : Int32) fun x23 => nm (0 : Int32) fun x24 => lpc (S := Int32 × gS) K9 (fun rec s => bX10_starts_161 σ1 c133_1 a2 x23 rec133 (fun a4 σ1 => rec (a4, σ1)) s.1 s.2) (x24, σ1)))
noncomputable def bX10_starts_89 (σ : gS) (rec89 : Int32 → gS → Option (Int32 × gS)) (a1 : Int32) (σ1 : gS) : Option (Int32 × gS) :=
  bd (fX10_firstNotStarted σ1) fun r10 => (if r10 = ((-1)) then nm (0 : Int32) fun x12 => lpc (S := Int32 × gS) K9 (fun rec s => bX10_starts_133 σ1 a1 (fun a2 σ1 => rec (a2, σ1)) s.1 s.2) (x12, σ1) else bd (fX10_nextStarted σ1) fun r37 => nm (r37 : Int32) fun x38 => (if x38 = ((-1)) then bd (fX10_firstNotStarted σ1) fun r41 => gd (gb r41 12) <| nm (gsI σ1 29 r41.toNatClampNeg (vp_nar .boolean 1)) fun σ42 => nm (a1 + 1 : Int32) fun x43 => rec89 x43 σ42 else bd (fX10_startsBy σ1 x38) fun σ45 => rec89 a1 σ45))
noncomputable def jX10_starts_54 (σ : gS) (rec23 : Int32 → gS → Option (Int32 × gS)) (a1 : Int32) (z0 : Int32) (z1 : Int32) : Option (Int32 × gS) :=
  gd (gb z1 12) <| nm (gsI σ 27 z1.toNatClampNeg z0) fun σ50 => (if a1 = 0 then gd (gb a1 12) <| nm (gsI σ50 29 a1.toNatClampNeg (vp_nar .boolean 1)) fun σ54 => nm (a1 + 1 : Int32) fun x55 => rec23 x55 σ54 else gd (gb a1 12) <| nm (gsI σ50 29 a1.toNatClampNeg (vp_nar .boolean 0)) fun σ52 => nm (a1 + 1 : Int32) fun x53 => rec23 x53 σ52)
noncomputable def bX10_starts_23 (σ : gS) (rec23 : Int32 → gS → Option (Int32 × gS)) (a1 : Int32) (σ1 : gS) : Option (Int32 × gS) :=
  if 12 ≤ a1 then bd (fX10_pictures σ1) fun r6 => (if r6 = 0 then nm (0 : Int32) fun x46 => lpc (S := Int32 × gS) K9 (fun rec s => bX10_starts_89 σ1 (fun a1 σ1 => rec (a1, σ1)) s.1 s.2) (x46, σ1) else nm (1 : Int32) fun x8 => lpc (S := Int32 × gS) K9 (fun rec s => bX10_starts_89 σ1 (fun a1 σ1 => rec (a1, σ1)) s.1 s.2) (x8, σ1)) else gd (gb (12 + a1) 24) <| nm (σ1.1 17 (12 + a1).toNatClampNeg) fun v47 => nm (v47 : Int32) fun x48 => (if x48 = 4 then jX10_starts_54 σ1 rec23 a1 0 a1 else jX10_starts_54 σ1 rec23 a1 x48 a1)
noncomputable def bX10_starts_2 (σ : gS) (rec2 : Int32 → gS → Option (Int32 × gS)) (a1 : Int32) (σ1 : gS) : Option (Int32 × gS) :=
  if 76 ≤ a1 then nm (0 : Int32) fun x3 => lpc (S := Int32 × gS) K9 (fun rec s => bX10_starts_23 σ1 (fun a1 σ1 => rec (a1, σ1)) s.1 s.2) (x3, σ1) else gd (gb a1 76) <| nm (gsI σ1 28 a1.toNatClampNeg 0) fun σ56 => nm (a1 + 1 : Int32) fun x57 => rec2 x57 σ56
noncomputable def fX10_starts (σ : gS) : Option (Int32 × gS) :=
  nm (0 : Int32) fun x1 => lpc (S := Int32 × gS) K9 (fun rec s => bX10_starts_2 σ (fun a1 σ1 => rec (a1, σ1)) s.1 s.2) (x1, σ)
noncomputable abbrev rmX10_starts : Room := { frames := 5, cells := 0, slots := 0, locals := 122 }
set_option maxRecDepth 100000 in
set_option maxHeartbeats 4000000 in
theorem wbX10_starts_161 {M : gM} {G : gG} {out : Int32 × gS} (X : gX M G zM cX10_starts RX10 5 wsX10_starts rmX10_starts (some .int)) (σ : gS) (c133_1 : Int32) (c161_2 : Int32) (c161_3 : Int32) (rec133 : Int32 → gS → Option (Int32 × gS)) (ih133 : ∀ (a2 : Int32) (σ1 : gS), rec133 a2 σ1 = some out → WW M (gQi M G zM out.1 out.2) G zM 5 σ1 133 [(0, .ref (G.2.1 0)), (1, .int c133_1), (2, .int a2)] []) (rec161 : Int32 → gS → Option (Int32 × gS)) (ih161 : ∀ (a4 : Int32) (σ1 : gS), rec161 a4 σ1 = some out → WW M (gQi M G zM out.1 out.2) G zM 5 σ1 161 [(0, .ref (G.2.1 0)), (1, .int c133_1), (2, .int c161_2), (3, .int c161_3), (4, .int a4)] []) (a4 : Int32) (σ1 : gS) (hF : bX10_starts_161 σ c133_1 c161_2 c161_3 rec133 rec161 a4 σ1 = some out) : WW M (gQi M G zM out.1 out.2) G zM 5 σ1 161 [(0, .ref (G.2.1 0)), (1, .int c133_1), (2, .int c161_2), (3, .int c161_3), (4, .int a4)] [] := by
  unfold bX10_starts_161 at hF
  refine ww_iload (pc := 161) X (j := 4) dX10_starts_161 rfl ?_
  refine ww_iconst (pc := 163) X (v := 2) dX10_starts_163 (by decide) ?_
  refine ww_icmp_ge (pc := 164) (tgt := 204) X dX10_starts_164 (by decide) hF (fun h25 hF => ?_) (fun h25 hF => ?_)
  · refine ww_iinc (pc := 204) X (j := 2) (v := 1) (lv' := [(0, .ref (G.2.1 0)), (1, .int c133_1), (3, .int c161_3), (4, .int a4)]) dX10_starts_204 rfl rfl (by decide) rfl hF (fun x26 ex26 hF => ?_)
    refine ww_goto (pc := 207) X (tgt := 133) dX10_starts_207 (by decide) ?_
    exact ww_sub [1, 2, 0] rfl (ih133 x26 σ1 hF)
  · refine ww_aload_n (pc := 167) X (j := 0) dX10_starts_167 rfl rfl ?_
    refine ww_get (pc := 168) X (ref := "PictureBlockModel") (T := TX10) (j := 38) dX10_starts_168 inX10_starts_RX10 shzM_0 clzM_10 (by decide) rfl (List.mem_of_getElem? (i := 1) rfl) rfl ?_
    refine ww_bipush (pc := 171) X (v := 38) dX10_starts_171 (by decide) ?_
    refine ww_iload (pc := 173) X (j := 4) dX10_starts_173 rfl ?_
    refine ww_imul (pc := 175) X dX10_starts_175 ?_
    refine ww_bipush (pc := 176) X (v := 12) dX10_starts_176 (by decide) ?_
    refine ww_iadd (pc := 178) X dX10_starts_178 ?_
    refine ww_iload_n (pc := 179) X (j := 2) dX10_starts_179 rfl rfl ?_
    refine ww_iadd (pc := 180) X dX10_starts_180 ?_
    refine ww_iload_n (pc := 181) X (j := 3) dX10_starts_181 rfl rfl ?_
    refine ww_iconst (pc := 182) X (v := (-1)) dX10_starts_182 (by decide) ?_
    refine ww_icmp_ne (pc := 183) (tgt := 190) X dX10_starts_183 (by decide) hF (fun h27 hF => ?_) (fun h27 hF => ?_)
    · refine ww_aload_n (pc := 190) X (j := 0) dX10_starts_190 rfl rfl ?_
      refine ww_iload_n (pc := 191) X (j := 3) dX10_starts_191 rfl rfl ?_
      refine ww_iload (pc := 192) X (j := 4) dX10_starts_192 rfl ?_
      obtain ⟨r29, h28, hF⟩ := bd_some hF
      refine ww_callVi (pc := 194) X (As := [.int c161_3, .int a4]) (rest := [.int (((38 * a4) + 12) + c161_2), .ref (G.2.1 28)]) dX10_starts_194 (kX10_put (mL M) G X.2.2.2.2.2.2.1 X.2.2.2.2.2.2.2.1 σ1 c161_3 a4 r29 h28) rfl shzM_0 clzM_10 gX10_starts_X10_put hyX10_put ⟨rfl, rfl⟩ ⟨Nat.le_of_ble_eq_true rfl, Nat.le_of_ble_eq_true rfl⟩ rfl rfl (Nat.le_of_ble_eq_true rfl) ?_
      refine ww_iast (pc := 197) X dX10_starts_197 shzM_28 rfl hF (fun σ30 eσ30 bσ30 hF => ?_)
      refine ww_iinc (pc := 198) X (j := 4) (v := 1) (lv' := [(0, .ref (G.2.1 0)), (1, .int c133_1), (2, .int c161_2), (3, .int c161_3)]) dX10_starts_198 rfl rfl (by decide) rfl hF (fun x31 ex31 hF => ?_)
      refine ww_goto (pc := 201) X (tgt := 161) dX10_starts_201 (by decide) ?_
      exact ww_sub [1, 2, 3, 4, 0] rfl (ih161 x31 σ30 hF)
    · refine ww_iconst (pc := 186) X (v := 0) dX10_starts_186 (by decide) ?_
      refine ww_goto (pc := 187) X (tgt := 197) dX10_starts_187 (by decide) ?_
      refine ww_iast (pc := 197) X dX10_starts_197 shzM_28 rfl hF (fun σ32 eσ32 bσ32 hF => ?_)
      refine ww_iinc (pc := 198) X (j := 4) (v := 1) (lv' := [(0, .ref (G.2.1 0)), (1, .int c133_1), (2, .int c161_2), (3, .int c161_3)]) dX10_starts_198 rfl rfl (by decide) rfl hF (fun x33 ex33 hF => ?_)
      refine ww_goto (pc := 201) X (tgt := 161) dX10_starts_201 (by decide) ?_
      exact ww_sub [1, 2, 3, 4, 0] rfl (ih161 x33 σ32 hF)
set_option maxRecDepth 100000 in
set_option maxHeartbeats 4000000 in
theorem wbX10_starts_133 {M : gM} {G : gG} {out : Int32 × gS} (X : gX M G zM cX10_starts RX10 5 wsX10_starts rmX10_starts (some .int)) (σ : gS) (c133_1 : Int32) (rec133 : Int32 → gS → Option (Int32 × gS)) (ih133 : ∀ (a2 : Int32) (σ1 : gS), rec133 a2 σ1 = some out → WW M (gQi M G zM out.1 out.2) G zM 5 σ1 133 [(0, .ref (G.2.1 0)), (1, .int c133_1), (2, .int a2)] []) (a2 : Int32) (σ1 : gS) (hF : bX10_starts_133 σ c133_1 rec133 a2 σ1 = some out) : WW M (gQi M G zM out.1 out.2) G zM 5 σ1 133 [(0, .ref (G.2.1 0)), (1, .int c133_1), (2, .int a2)] [] := by
  unfold bX10_starts_133 at hF
  refine ww_iload_n (pc := 133) X (j := 2) dX10_starts_133 rfl rfl ?_
  refine ww_aload_n (pc := 134) X (j := 0) dX10_starts_134 rfl rfl ?_
  obtain ⟨r14, h13, hF⟩ := bd_some hF
  refine ww_callVi (pc := 135) X (As := []) (rest := [.int a2]) dX10_starts_135 (kX10_points (mL M) G X.2.2.2.2.2.2.1 X.2.2.2.2.2.2.2.1 σ1 r14 h13) rfl shzM_0 clzM_10 gX10_starts_X10_points hyX10_points ⟨rfl, rfl⟩ ⟨Nat.le_of_ble_eq_true rfl, Nat.le_of_ble_eq_true rfl⟩ rfl rfl (Nat.le_of_ble_eq_true rfl) ?_
  refine ww_icmp_ge (pc := 138) (tgt := 210) X dX10_starts_138 (by decide) hF (fun h15 hF => ?_) (fun h15 hF => ?_)
  · refine ww_aload_n (pc := 210) X (j := 0) dX10_starts_210 rfl rfl ?_
    obtain ⟨σ17, h16, hF⟩ := bd_some hF
    refine ww_callVv (pc := 211) X (As := []) (rest := []) dX10_starts_211 (kX10_standControls (mL M) G X.2.2.2.2.2.2.1 X.2.2.2.2.2.2.2.1 σ1 σ17 h16) rfl shzM_0 clzM_10 gX10_starts_X10_standControls hyX10_standControls ⟨rfl, rfl⟩ ⟨Nat.le_of_ble_eq_true rfl, Nat.le_of_ble_eq_true rfl⟩ rfl rfl (Nat.le_of_ble_eq_true rfl) ?_
    refine ww_iload_n (pc := 214) X (j := 1) dX10_starts_214 rfl rfl ?_
    exact ww_iret (pc := 215) X dX10_starts_215 (fst_of hF) (snd_of hF)
  · refine ww_aload_n (pc := 141) X (j := 0) dX10_starts_141 rfl rfl ?_
    obtain ⟨r19, h18, hF⟩ := bd_some hF
    refine ww_callVi (pc := 142) X (As := []) (rest := []) dX10_starts_142 (kX10_pictures (mL M) G X.2.2.2.2.2.2.1 X.2.2.2.2.2.2.2.1 σ1 r19 h18) rfl shzM_0 clzM_10 gX10_starts_X10_pictures hyX10_pictures ⟨rfl, rfl⟩ ⟨Nat.le_of_ble_eq_true rfl, Nat.le_of_ble_eq_true rfl⟩ rfl rfl (Nat.le_of_ble_eq_true rfl) ?_
    refine ww_if_ne (pc := 145) (tgt := 152) X dX10_starts_145 (by decide) hF (fun h20 hF => ?_) (fun h20 hF => ?_)
    · refine ww_aload_n (pc := 152) X (j := 0) dX10_starts_152 rfl rfl ?_
      refine ww_iload_n (pc := 153) X (j := 2) dX10_starts_153 rfl rfl ?_
      obtain ⟨r22, h21, hF⟩ := bd_some hF
      refine ww_callVi (pc := 154) X (As := [.int a2]) (rest := []) dX10_starts_154 (kX10_startedRow (mL M) G X.2.2.2.2.2.2.1 X.2.2.2.2.2.2.2.1 σ1 a2 r22 h21) rfl shzM_0 clzM_10 gX10_starts_X10_startedRow hyX10_startedRow ⟨rfl, rfl⟩ ⟨Nat.le_of_ble_eq_true rfl, Nat.le_of_ble_eq_true rfl⟩ rfl rfl (Nat.le_of_ble_eq_true rfl) ?_
      refine ww_istore_n (pc := 157) X (lv' := [(0, .ref (G.2.1 0)), (1, .int c133_1), (2, .int a2)]) dX10_starts_157 rfl (by decide) rfl hF (fun x23 ex23 hF => ?_)
      refine ww_iconst (pc := 158) X (v := 0) dX10_starts_158 (by decide) ?_
      refine ww_istore (pc := 159) X (lv' := [(3, .int x23), (0, .ref (G.2.1 0)), (1, .int c133_1), (2, .int a2)]) dX10_starts_159 (by decide) rfl hF (fun x24 ex24 hF => ?_)
      exact ww_sub [2, 3, 4, 1, 0] rfl (lpc_ind (P := (fun (s : Int32 × gS) => WW M (gQi M G zM out.1 out.2) G zM 5 s.2 161 [(0, .ref (G.2.1 0)), (1, .int c133_1), (2, .int a2), (3, .int x23), (4, .int s.1)] [])) (fun rec s ih hF => wbX10_starts_161 X σ1 c133_1 a2 x23 rec133  ih133 (fun a4 σ1 => rec (a4, σ1)) (fun a4 σ1 h => ih (a4, σ1) h) s.1 s.2 hF) K9 (x24, σ1) hF)
    · refine ww_iconst (pc := 148) X (v := (-1)) dX10_starts_148 (by decide) ?_
      refine ww_goto (pc := 149) X (tgt := 157) dX10_starts_149 (by decide) ?_
      refine ww_istore_n (pc := 157) X (lv' := [(0, .ref (G.2.1 0)), (1, .int c133_1), (2, .int a2)]) dX10_starts_157 rfl (by decide) rfl hF (fun x34 ex34 hF => ?_)
      refine ww_iconst (pc := 158) X (v := 0) dX10_starts_158 (by decide) ?_
      refine ww_istore (pc := 159) X (lv' := [(3, .int x34), (0, .ref (G.2.1 0)), (1, .int c133_1), (2, .int a2)]) dX10_starts_159 (by decide) rfl hF (fun x35 ex35 hF => ?_)
      exact ww_sub [2, 3, 4, 1, 0] rfl (lpc_ind (P := (fun (s : Int32 × gS) => WW M (gQi M G zM out.1 out.2) G zM 5 s.2 161 [(0, .ref (G.2.1 0)), (1, .int c133_1), (2, .int a2), (3, .int x34), (4, .int s.1)] [])) (fun rec s ih hF => wbX10_starts_161 X σ1 c133_1 a2 x34 rec133  ih133 (fun a4 σ1 => rec (a4, σ1)) (fun a4 σ1 h => ih (a4, σ1) h) s.1 s.2 hF) K9 (x35, σ1) hF)
set_option maxRecDepth 100000 in
set_option maxHeartbeats 4000000 in
theorem wbX10_starts_89 {M : gM} {G : gG} {out : Int32 × gS} (X : gX M G zM cX10_starts RX10 5 wsX10_starts rmX10_starts (some .int)) (σ : gS) (rec89 : Int32 → gS → Option (Int32 × gS)) (ih89 : ∀ (a1 : Int32) (σ1 : gS), rec89 a1 σ1 = some out → WW M (gQi M G zM out.1 out.2) G zM 5 σ1 89 [(0, .ref (G.2.1 0)), (1, .int a1)] []) (a1 : Int32) (σ1 : gS) (hF : bX10_starts_89 σ rec89 a1 σ1 = some out) : WW M (gQi M G zM out.1 out.2) G zM 5 σ1 89 [(0, .ref (G.2.1 0)), (1, .int a1)] [] := by
  unfold bX10_starts_89 at hF
  refine ww_aload_n (pc := 89) X (j := 0) dX10_starts_89 rfl rfl ?_
  obtain ⟨r10, h9, hF⟩ := bd_some hF
  refine ww_callVi (pc := 90) X (As := []) (rest := []) dX10_starts_90 (kX10_firstNotStarted (mL M) G X.2.2.2.2.2.2.1 X.2.2.2.2.2.2.2.1 σ1 r10 h9) rfl shzM_0 clzM_10 gX10_starts_X10_firstNotStarted hyX10_firstNotStarted ⟨rfl, rfl⟩ ⟨Nat.le_of_ble_eq_true rfl, Nat.le_of_ble_eq_true rfl⟩ rfl rfl (Nat.le_of_ble_eq_true rfl) ?_
  refine ww_iconst (pc := 93) X (v := (-1)) dX10_starts_93 (by decide) ?_
  refine ww_icmp_eq (pc := 94) (tgt := 131) X dX10_starts_94 (by decide) hF (fun h11 hF => ?_) (fun h11 hF => ?_)
  · refine ww_iconst (pc := 131) X (v := 0) dX10_starts_131 (by decide) ?_
    refine ww_istore_n (pc := 132) X (lv' := [(0, .ref (G.2.1 0)), (1, .int a1)]) dX10_starts_132 rfl (by decide) rfl hF (fun x12 ex12 hF => ?_)
    exact ww_sub [1, 2, 0] rfl (lpc_ind (P := (fun (s : Int32 × gS) => WW M (gQi M G zM out.1 out.2) G zM 5 s.2 133 [(0, .ref (G.2.1 0)), (1, .int a1), (2, .int s.1)] [])) (fun rec s ih hF => wbX10_starts_133 X σ1 a1 (fun a2 σ1 => rec (a2, σ1)) (fun a2 σ1 h => ih (a2, σ1) h) s.1 s.2 hF) K9 (x12, σ1) hF)
  · refine ww_aload_n (pc := 97) X (j := 0) dX10_starts_97 rfl rfl ?_
    obtain ⟨r37, h36, hF⟩ := bd_some hF
    refine ww_callVi (pc := 98) X (As := []) (rest := []) dX10_starts_98 (kX10_nextStarted (mL M) G X.2.2.2.2.2.2.1 X.2.2.2.2.2.2.2.1 σ1 r37 h36) rfl shzM_0 clzM_10 gX10_starts_X10_nextStarted hyX10_nextStarted ⟨rfl, rfl⟩ ⟨Nat.le_of_ble_eq_true rfl, Nat.le_of_ble_eq_true rfl⟩ rfl rfl (Nat.le_of_ble_eq_true rfl) ?_
    refine ww_istore_n (pc := 101) X (lv' := [(0, .ref (G.2.1 0)), (1, .int a1)]) dX10_starts_101 rfl (by decide) rfl hF (fun x38 ex38 hF => ?_)
    refine ww_iload_n (pc := 102) X (j := 0) dX10_starts_102 rfl rfl ?_
    refine ww_iconst (pc := 103) X (v := (-1)) dX10_starts_103 (by decide) ?_
    refine ww_icmp_eq (pc := 104) (tgt := 115) X dX10_starts_104 (by decide) hF (fun h39 hF => ?_) (fun h39 hF => ?_)
    · refine ww_aload_n (pc := 115) X (j := 1) dX10_starts_115 rfl rfl ?_
      refine ww_get (pc := 116) X (ref := "PictureBlockModel") (T := TX10) (j := 39) dX10_starts_116 inX10_starts_RX10 shzM_0 clzM_10 (by decide) rfl (List.mem_of_getElem? (i := 4) rfl) rfl ?_
      refine ww_aload_n (pc := 119) X (j := 1) dX10_starts_119 rfl rfl ?_
      obtain ⟨r41, h40, hF⟩ := bd_some hF
      refine ww_callVi (pc := 120) X (As := []) (rest := [.ref (G.2.1 29)]) dX10_starts_120 (kX10_firstNotStarted (mL M) G X.2.2.2.2.2.2.1 X.2.2.2.2.2.2.2.1 σ1 r41 h40) rfl shzM_0 clzM_10 gX10_starts_X10_firstNotStarted hyX10_firstNotStarted ⟨rfl, rfl⟩ ⟨Nat.le_of_ble_eq_true rfl, Nat.le_of_ble_eq_true rfl⟩ rfl rfl (Nat.le_of_ble_eq_true rfl) ?_
      refine ww_iconst (pc := 123) X (v := 1) dX10_starts_123 (by decide) ?_
      refine ww_zast (pc := 124) X dX10_starts_124 shzM_29 rfl hF (fun σ42 eσ42 bσ42 hF => ?_)
      refine ww_iinc (pc := 125) X (j := 2) (v := 1) (lv' := [(2, .int x38), (0, .ref (G.2.1 0))]) dX10_starts_125 rfl rfl (by decide) rfl hF (fun x43 ex43 hF => ?_)
      refine ww_goto (pc := 128) X (tgt := 89) dX10_starts_128 (by decide) ?_
      exact ww_sub [2, 0] rfl (ih89 x43 σ42 hF)
    · refine ww_aload_n (pc := 107) X (j := 1) dX10_starts_107 rfl rfl ?_
      refine ww_iload_n (pc := 108) X (j := 0) dX10_starts_108 rfl rfl ?_
      obtain ⟨σ45, h44, hF⟩ := bd_some hF
      refine ww_callVv (pc := 109) X (As := [.int x38]) (rest := []) dX10_starts_109 (kX10_startsBy (mL M) G X.2.2.2.2.2.2.1 X.2.2.2.2.2.2.2.1 σ1 x38 σ45 h44) rfl shzM_0 clzM_10 gX10_starts_X10_startsBy hyX10_startsBy ⟨rfl, rfl⟩ ⟨Nat.le_of_ble_eq_true rfl, Nat.le_of_ble_eq_true rfl⟩ rfl rfl (Nat.le_of_ble_eq_true rfl) ?_
      refine ww_goto (pc := 112) X (tgt := 89) dX10_starts_112 (by decide) ?_
      exact ww_sub [1, 2] rfl (ih89 a1 σ45 hF)
set_option maxRecDepth 100000 in
set_option maxHeartbeats 4000000 in
theorem wjX10_starts_54 {M : gM} {G : gG} {out : Int32 × gS} (X : gX M G zM cX10_starts RX10 5 wsX10_starts rmX10_starts (some .int)) (σ : gS) (rec23 : Int32 → gS → Option (Int32 × gS)) (ih23 : ∀ (a1 : Int32) (σ1 : gS), rec23 a1 σ1 = some out → WW M (gQi M G zM out.1 out.2) G zM 5 σ1 23 [(0, .ref (G.2.1 0)), (1, .int a1)] []) (a1 : Int32) (z0 : Int32) (z1 : Int32) (hF : jX10_starts_54 σ rec23 a1 z0 z1 = some out) : WW M (gQi M G zM out.1 out.2) G zM 5 σ 54 [(0, .ref (G.2.1 0)), (1, .int a1)] [.int z0, .int z1, .ref (G.2.1 27)] := by
  unfold jX10_starts_54 at hF
  refine ww_iast (pc := 54) X dX10_starts_54 shzM_27 rfl hF (fun σ50 eσ50 bσ50 hF => ?_)
  refine ww_aload_n (pc := 55) X (j := 0) dX10_starts_55 rfl rfl ?_
  refine ww_get (pc := 56) X (ref := "PictureBlockModel") (T := TX10) (j := 39) dX10_starts_56 inX10_starts_RX10 shzM_0 clzM_10 (by decide) rfl (List.mem_of_getElem? (i := 4) rfl) rfl ?_
  refine ww_iload_n (pc := 59) X (j := 1) dX10_starts_59 rfl rfl ?_
  refine ww_iload_n (pc := 60) X (j := 1) dX10_starts_60 rfl rfl ?_
  refine ww_if_ne (pc := 61) (tgt := 68) X dX10_starts_61 (by decide) hF (fun h51 hF => ?_) (fun h51 hF => ?_)
  · refine ww_iconst (pc := 68) X (v := 0) dX10_starts_68 (by decide) ?_
    refine ww_zast (pc := 69) X dX10_starts_69 shzM_29 rfl hF (fun σ52 eσ52 bσ52 hF => ?_)
    refine ww_iinc (pc := 70) X (j := 1) (v := 1) (lv' := [(0, .ref (G.2.1 0))]) dX10_starts_70 rfl rfl (by decide) rfl hF (fun x53 ex53 hF => ?_)
    refine ww_goto (pc := 73) X (tgt := 23) dX10_starts_73 (by decide) ?_
    exact ww_sub [1, 0] rfl (ih23 x53 σ52 hF)
  · refine ww_iconst (pc := 64) X (v := 1) dX10_starts_64 (by decide) ?_
    refine ww_goto (pc := 65) X (tgt := 69) dX10_starts_65 (by decide) ?_
    refine ww_zast (pc := 69) X dX10_starts_69 shzM_29 rfl hF (fun σ54 eσ54 bσ54 hF => ?_)
    refine ww_iinc (pc := 70) X (j := 1) (v := 1) (lv' := [(0, .ref (G.2.1 0))]) dX10_starts_70 rfl rfl (by decide) rfl hF (fun x55 ex55 hF => ?_)
    refine ww_goto (pc := 73) X (tgt := 23) dX10_starts_73 (by decide) ?_
    exact ww_sub [1, 0] rfl (ih23 x55 σ54 hF)
set_option maxRecDepth 100000 in
set_option maxHeartbeats 4000000 in
theorem wbX10_starts_23 {M : gM} {G : gG} {out : Int32 × gS} (X : gX M G zM cX10_starts RX10 5 wsX10_starts rmX10_starts (some .int)) (σ : gS) (rec23 : Int32 → gS → Option (Int32 × gS)) (ih23 : ∀ (a1 : Int32) (σ1 : gS), rec23 a1 σ1 = some out → WW M (gQi M G zM out.1 out.2) G zM 5 σ1 23 [(0, .ref (G.2.1 0)), (1, .int a1)] []) (a1 : Int32) (σ1 : gS) (hF : bX10_starts_23 σ rec23 a1 σ1 = some out) : WW M (gQi M G zM out.1 out.2) G zM 5 σ1 23 [(0, .ref (G.2.1 0)), (1, .int a1)] [] := by
  unfold bX10_starts_23 at hF
  refine ww_iload_n (pc := 23) X (j := 1) dX10_starts_23 rfl rfl ?_
  refine ww_bipush (pc := 24) X (v := 12) dX10_starts_24 (by decide) ?_
  refine ww_icmp_ge (pc := 26) (tgt := 76) X dX10_starts_26 (by decide) hF (fun h4 hF => ?_) (fun h4 hF => ?_)
  · refine ww_aload_n (pc := 76) X (j := 0) dX10_starts_76 rfl rfl ?_
    obtain ⟨r6, h5, hF⟩ := bd_some hF
    refine ww_callVi (pc := 77) X (As := []) (rest := []) dX10_starts_77 (kX10_pictures (mL M) G X.2.2.2.2.2.2.1 X.2.2.2.2.2.2.2.1 σ1 r6 h5) rfl shzM_0 clzM_10 gX10_starts_X10_pictures hyX10_pictures ⟨rfl, rfl⟩ ⟨Nat.le_of_ble_eq_true rfl, Nat.le_of_ble_eq_true rfl⟩ rfl rfl (Nat.le_of_ble_eq_true rfl) ?_
    refine ww_if_ne (pc := 80) (tgt := 87) X dX10_starts_80 (by decide) hF (fun h7 hF => ?_) (fun h7 hF => ?_)
    · refine ww_iconst (pc := 87) X (v := 1) dX10_starts_87 (by decide) ?_
      refine ww_istore_n (pc := 88) X (lv' := [(0, .ref (G.2.1 0))]) dX10_starts_88 rfl (by decide) rfl hF (fun x8 ex8 hF => ?_)
      exact ww_sub [1, 0] rfl (lpc_ind (P := (fun (s : Int32 × gS) => WW M (gQi M G zM out.1 out.2) G zM 5 s.2 89 [(0, .ref (G.2.1 0)), (1, .int s.1)] [])) (fun rec s ih hF => wbX10_starts_89 X σ1 (fun a1 σ1 => rec (a1, σ1)) (fun a1 σ1 h => ih (a1, σ1) h) s.1 s.2 hF) K9 (x8, σ1) hF)
    · refine ww_iconst (pc := 83) X (v := 0) dX10_starts_83 (by decide) ?_
      refine ww_goto (pc := 84) X (tgt := 88) dX10_starts_84 (by decide) ?_
      refine ww_istore_n (pc := 88) X (lv' := [(0, .ref (G.2.1 0))]) dX10_starts_88 rfl (by decide) rfl hF (fun x46 ex46 hF => ?_)
      exact ww_sub [1, 0] rfl (lpc_ind (P := (fun (s : Int32 × gS) => WW M (gQi M G zM out.1 out.2) G zM 5 s.2 89 [(0, .ref (G.2.1 0)), (1, .int s.1)] [])) (fun rec s ih hF => wbX10_starts_89 X σ1 (fun a1 σ1 => rec (a1, σ1)) (fun a1 σ1 h => ih (a1, σ1) h) s.1 s.2 hF) K9 (x46, σ1) hF)
  · refine ww_aload_n (pc := 29) X (j := 0) dX10_starts_29 rfl rfl ?_
    refine ww_get (pc := 30) X (ref := "PictureBlockModel") (T := TX10) (j := 25) dX10_starts_30 inX10_starts_RX10 shzM_0 clzM_10 (by decide) rfl (List.mem_of_getElem? (i := 2) rfl) rfl ?_
    refine ww_bipush (pc := 33) X (v := 12) dX10_starts_33 (by decide) ?_
    refine ww_iload_n (pc := 35) X (j := 1) dX10_starts_35 rfl rfl ?_
    refine ww_iadd (pc := 36) X dX10_starts_36 ?_
    refine ww_iald (pc := 37) X dX10_starts_37 shzM_17 rfl hF (fun v47 ev47 bv47 hF => ?_)
    refine ww_istore_n (pc := 38) X (lv' := [(0, .ref (G.2.1 0)), (1, .int a1)]) dX10_starts_38 rfl (by decide) rfl hF (fun x48 ex48 hF => ?_)
    refine ww_aload_n (pc := 39) X (j := 1) dX10_starts_39 rfl rfl ?_
    refine ww_get (pc := 40) X (ref := "PictureBlockModel") (T := TX10) (j := 37) dX10_starts_40 inX10_starts_RX10 shzM_0 clzM_10 (by decide) rfl (List.mem_of_getElem? (i := 3) rfl) rfl ?_
    refine ww_iload_n (pc := 43) X (j := 2) dX10_starts_43 rfl rfl ?_
    refine ww_iload_n (pc := 44) X (j := 0) dX10_starts_44 rfl rfl ?_
    refine ww_iconst (pc := 45) X (v := 4) dX10_starts_45 (by decide) ?_
    refine ww_icmp_ne (pc := 46) (tgt := 53) X dX10_starts_46 (by decide) hF (fun h49 hF => ?_) (fun h49 hF => ?_)
    · refine ww_iload_n (pc := 53) X (j := 0) dX10_starts_53 rfl rfl ?_
      exact ww_sub [1, 2] rfl (wjX10_starts_54 X σ1 rec23 ih23 a1 x48 a1 hF)
    · refine ww_iconst (pc := 49) X (v := 0) dX10_starts_49 (by decide) ?_
      refine ww_goto (pc := 50) X (tgt := 54) dX10_starts_50 (by decide) ?_
      exact ww_sub [1, 2] rfl (wjX10_starts_54 X σ1 rec23 ih23 a1 0 a1 hF)
set_option maxRecDepth 100000 in
set_option maxHeartbeats 4000000 in
theorem wbX10_starts_2 {M : gM} {G : gG} {out : Int32 × gS} (X : gX M G zM cX10_starts RX10 5 wsX10_starts rmX10_starts (some .int)) (σ : gS) (rec2 : Int32 → gS → Option (Int32 × gS)) (ih2 : ∀ (a1 : Int32) (σ1 : gS), rec2 a1 σ1 = some out → WW M (gQi M G zM out.1 out.2) G zM 5 σ1 2 [(0, .ref (G.2.1 0)), (1, .int a1)] []) (a1 : Int32) (σ1 : gS) (hF : bX10_starts_2 σ rec2 a1 σ1 = some out) : WW M (gQi M G zM out.1 out.2) G zM 5 σ1 2 [(0, .ref (G.2.1 0)), (1, .int a1)] [] := by
  unfold bX10_starts_2 at hF
  refine ww_iload_n (pc := 2) X (j := 1) dX10_starts_2 rfl rfl ?_
  refine ww_bipush (pc := 3) X (v := 76) dX10_starts_3 (by decide) ?_
  refine ww_icmp_ge (pc := 5) (tgt := 21) X dX10_starts_5 (by decide) hF (fun h2 hF => ?_) (fun h2 hF => ?_)
  · refine ww_iconst (pc := 21) X (v := 0) dX10_starts_21 (by decide) ?_
    refine ww_istore_n (pc := 22) X (lv' := [(0, .ref (G.2.1 0))]) dX10_starts_22 rfl (by decide) rfl hF (fun x3 ex3 hF => ?_)
    exact ww_sub [1, 0] rfl (lpc_ind (P := (fun (s : Int32 × gS) => WW M (gQi M G zM out.1 out.2) G zM 5 s.2 23 [(0, .ref (G.2.1 0)), (1, .int s.1)] [])) (fun rec s ih hF => wbX10_starts_23 X σ1 (fun a1 σ1 => rec (a1, σ1)) (fun a1 σ1 h => ih (a1, σ1) h) s.1 s.2 hF) K9 (x3, σ1) hF)
  · refine ww_aload_n (pc := 8) X (j := 0) dX10_starts_8 rfl rfl ?_
    refine ww_get (pc := 9) X (ref := "PictureBlockModel") (T := TX10) (j := 38) dX10_starts_9 inX10_starts_RX10 shzM_0 clzM_10 (by decide) rfl (List.mem_of_getElem? (i := 1) rfl) rfl ?_
    refine ww_iload_n (pc := 12) X (j := 1) dX10_starts_12 rfl rfl ?_
    refine ww_iconst (pc := 13) X (v := 0) dX10_starts_13 (by decide) ?_
    refine ww_iast (pc := 14) X dX10_starts_14 shzM_28 rfl hF (fun σ56 eσ56 bσ56 hF => ?_)
    refine ww_iinc (pc := 15) X (j := 1) (v := 1) (lv' := [(0, .ref (G.2.1 0))]) dX10_starts_15 rfl rfl (by decide) rfl hF (fun x57 ex57 hF => ?_)
    refine ww_goto (pc := 18) X (tgt := 2) dX10_starts_18 (by decide) ?_
    exact ww_sub [1, 0] rfl (ih2 x57 σ56 hF)
set_option maxRecDepth 100000 in
set_option maxHeartbeats 4000000 in
theorem wX10_starts {M : gM} {G : gG} {out : Int32 × gS} (X : gX M G zM cX10_starts RX10 5 wsX10_starts rmX10_starts (some .int)) (σ : gS) (hF : fX10_starts σ = some out) : WW M (gQi M G zM out.1 out.2) G zM 5 σ 0 [(0, .ref (G.2.1 0))] [] := by
  unfold fX10_starts at hF
  refine ww_iconst (pc := 0) X (v := 0) dX10_starts_0 (by decide) ?_
  refine ww_istore_n (pc := 1) X (lv' := [(0, .ref (G.2.1 0))]) dX10_starts_1 rfl (by decide) rfl hF (fun x1 ex1 hF => ?_)
  exact ww_sub [1, 0] rfl (lpc_ind (P := (fun (s : Int32 × gS) => WW M (gQi M G zM out.1 out.2) G zM 5 s.2 2 [(0, .ref (G.2.1 0)), (1, .int s.1)] [])) (fun rec s ih hF => wbX10_starts_2 X σ (fun a1 σ1 => rec (a1, σ1)) (fun a1 σ1 h => ih (a1, σ1) h) s.1 s.2 hF) K9 (x1, σ) hF)
set_option maxRecDepth 100000 in
set_option maxHeartbeats 4000000 in
theorem kX10_starts (l : Launch) (G : gG) (hG : gOK G zM.1) (hT : G.2.2.1.map (fun q => q.2) = zM.2.1) (σ : gS) (out : Int32 × gS) (hF : fX10_starts σ = some out) : gCi l yX10_starts wsX10_starts rmX10_starts G zM [.ref (G.2.1 0)] σ out.1 out.2 :=
  gEnter (by decide) rfl ⟨rfl, rfl⟩ hG hT (Nat.le_of_ble_eq_true rfl) rfl (fun M X hl => wX10_starts X σ hF)
noncomputable def bX10_stands_300 (σ : gS) (rec300 : Int32 → gS → Option (gS)) (a1 : Int32) (σ1 : gS) : Option (gS) :=
  if 120 ≤ a1 then nm (gsI σ1 0 36 3) fun σ17 => bd2 (fX10_starts σ17) fun r19 σ20 => some σ20 else gd (gb a1 240) <| nm (σ1.1 24 a1.toNatClampNeg) fun v21 => gd (gb (120 + a1) 240) <| nm (gsI σ1 24 (120 + a1).toNatClampNeg v21) fun σ22 => nm (a1 + 1 : Int32) fun x23 => rec300 x23 σ22
noncomputable def bX10_stands_234 (σ : gS) (rec234 : Int32 → gS → Option (gS)) (a1 : Int32) (σ1 : gS) : Option (gS) :=
  if 60 ≤ a1 then nm (0 : Int32) fun x15 => lpc (S := Int32 × gS) K9 (fun rec s => bX10_stands_300 σ1 (fun a1 σ1 => rec (a1, σ1)) s.1 s.2) (x15, σ1) else gd (gb a1 120) <| nm (σ1.1 22 a1.toNatClampNeg) fun v24 => gd (gb (60 + a1) 120) <| nm (gsI σ1 22 (60 + a1).toNatClampNeg v24) fun σ25 => gd (gb a1 120) <| nm (σ25.1 23 a1.toNatClampNeg) fun v26 => gd (gb (60 + a1) 120) <| nm (gsI σ25 23 (60 + a1).toNatClampNeg v26) fun σ27 => gd (gb a1 120) <| nm (σ27.1 25 a1.toNatClampNeg) fun v28 => gd (gb (60 + a1) 120) <| nm (gsI σ27 25 (60 + a1).toNatClampNeg v28) fun σ29 => gd (gb a1 60) <| nm (gsI σ29 26 a1.toNatClampNeg (vp_nar .boolean 0)) fun σ30 => nm (a1 + 1 : Int32) fun x31 => rec234 x31 σ30
noncomputable def bX10_stands_205 (σ : gS) (rec205 : Int32 → gS → Option (gS)) (a1 : Int32) (σ1 : gS) : Option (gS) :=
  if 40 ≤ a1 then nm (0 : Int32) fun x13 => lpc (S := Int32 × gS) K9 (fun rec s => bX10_stands_234 σ1 (fun a1 σ1 => rec (a1, σ1)) s.1 s.2) (x13, σ1) else gd (gb a1 80) <| nm (σ1.1 21 a1.toNatClampNeg) fun v32 => gd (gb (40 + a1) 80) <| nm (gsI σ1 21 (40 + a1).toNatClampNeg v32) fun σ33 => nm (a1 + 1 : Int32) fun x34 => rec205 x34 σ33
noncomputable def bX10_stands_162 (σ : gS) (rec162 : Int32 → gS → Option (gS)) (a1 : Int32) (σ1 : gS) : Option (gS) :=
  if 20 ≤ a1 then nm (0 : Int32) fun x11 => lpc (S := Int32 × gS) K9 (fun rec s => bX10_stands_205 σ1 (fun a1 σ1 => rec (a1, σ1)) s.1 s.2) (x11, σ1) else gd (gb 2 12) <| nm (σ1.1 15 ((2 : Int32).toNatClampNeg)) fun v35 => (if v35 ≤ a1 then gd (gb (20 + a1) 40) <| nm (gsI σ1 20 (20 + a1).toNatClampNeg 0) fun σ37 => nm (a1 + 1 : Int32) fun x38 => rec162 x38 σ37 else gd (gb a1 40) <| nm (σ1.1 20 a1.toNatClampNeg) fun v39 => gd (gb (20 + a1) 40) <| nm (gsI σ1 20 (20 + a1).toNatClampNeg v39) fun σ40 => nm (a1 + 1 : Int32) fun x41 => rec162 x41 σ40)
noncomputable def bX10_stands_133 (σ : gS) (rec133 : Int32 → gS → Option (gS)) (a1 : Int32) (σ1 : gS) : Option (gS) :=
  if 24 ≤ a1 then nm (0 : Int32) fun x9 => lpc (S := Int32 × gS) K9 (fun rec s => bX10_stands_162 σ1 (fun a1 σ1 => rec (a1, σ1)) s.1 s.2) (x9, σ1) else gd (gb a1 48) <| nm (σ1.1 19 a1.toNatClampNeg) fun v42 => gd (gb (24 + a1) 48) <| nm (gsI σ1 19 (24 + a1).toNatClampNeg v42) fun σ43 => nm (a1 + 1 : Int32) fun x44 => rec133 x44 σ43
noncomputable def bX10_stands_60 (σ : gS) (rec60 : Int32 → gS → Option (gS)) (a1 : Int32) (σ1 : gS) : Option (gS) :=
  if 12 ≤ a1 then nm (0 : Int32) fun x7 => lpc (S := Int32 × gS) K9 (fun rec s => bX10_stands_133 σ1 (fun a1 σ1 => rec (a1, σ1)) s.1 s.2) (x7, σ1) else gd (gb a1 24) <| nm (σ1.1 16 a1.toNatClampNeg) fun v45 => gd (gb (12 + a1) 24) <| nm (gsI σ1 16 (12 + a1).toNatClampNeg v45) fun σ46 => gd (gb a1 24) <| nm (σ46.1 17 a1.toNatClampNeg) fun v47 => gd (gb (12 + a1) 24) <| nm (gsI σ46 17 (12 + a1).toNatClampNeg v47) fun σ48 => gd (gb 1 12) <| nm (σ48.1 15 ((1 : Int32).toNatClampNeg)) fun v49 => (if v49 ≤ a1 then gd (gb (12 + a1) 24) <| nm (gsI σ48 18 (12 + a1).toNatClampNeg 0) fun σ51 => nm (a1 + 1 : Int32) fun x52 => rec60 x52 σ51 else gd (gb a1 24) <| nm (σ48.1 18 a1.toNatClampNeg) fun v53 => gd (gb (12 + a1) 24) <| nm (gsI σ48 18 (12 + a1).toNatClampNeg v53) fun σ54 => nm (a1 + 1 : Int32) fun x55 => rec60 x55 σ54)
noncomputable def bX10_stands_31 (σ : gS) (rec31 : Int32 → gS → Option (gS)) (a1 : Int32) (σ1 : gS) : Option (gS) :=
  if 60 ≤ a1 then nm (0 : Int32) fun x5 => lpc (S := Int32 × gS) K9 (fun rec s => bX10_stands_60 σ1 (fun a1 σ1 => rec (a1, σ1)) s.1 s.2) (x5, σ1) else gd (gb a1 120) <| nm (σ1.2 14 a1.toNatClampNeg) fun v56 => gd (gb (60 + a1) 120) <| nm (gsL σ1 14 (60 + a1).toNatClampNeg v56) fun σ57 => nm (a1 + 1 : Int32) fun x58 => rec31 x58 σ57
noncomputable def bX10_stands_2 (σ : gS) (rec2 : Int32 → gS → Option (gS)) (a1 : Int32) (σ1 : gS) : Option (gS) :=
  if 6 ≤ a1 then nm (0 : Int32) fun x3 => lpc (S := Int32 × gS) K9 (fun rec s => bX10_stands_31 σ1 (fun a1 σ1 => rec (a1, σ1)) s.1 s.2) (x3, σ1) else gd (gb a1 12) <| nm (σ1.1 15 a1.toNatClampNeg) fun v59 => gd (gb (6 + a1) 12) <| nm (gsI σ1 15 (6 + a1).toNatClampNeg v59) fun σ60 => nm (a1 + 1 : Int32) fun x61 => rec2 x61 σ60
noncomputable def fX10_stands (σ : gS) : Option (gS) :=
  nm (0 : Int32) fun x1 => lpc (S := Int32 × gS) K9 (fun rec s => bX10_stands_2 σ (fun a1 σ1 => rec (a1, σ1)) s.1 s.2) (x1, σ)
noncomputable abbrev rmX10_stands : Room := { frames := 6, cells := 0, slots := 0, locals := 146 }
set_option maxRecDepth 100000 in
set_option maxHeartbeats 4000000 in
theorem wbX10_stands_300 {M : gM} {G : gG} {out : gS} (X : gX M G zM cX10_stands RX10 2 wsX10_stands rmX10_stands none) (σ : gS) (rec300 : Int32 → gS → Option (gS)) (ih300 : ∀ (a1 : Int32) (σ1 : gS), rec300 a1 σ1 = some out → WW M (gQv M G zM out) G zM 2 σ1 300 [(0, .ref (G.2.1 0)), (1, .int a1)] []) (a1 : Int32) (σ1 : gS) (hF : bX10_stands_300 σ rec300 a1 σ1 = some out) : WW M (gQv M G zM out) G zM 2 σ1 300 [(0, .ref (G.2.1 0)), (1, .int a1)] [] := by
  unfold bX10_stands_300 at hF
  refine ww_iload_n (pc := 300) X (j := 1) dX10_stands_300 rfl rfl ?_
  refine ww_bipush (pc := 301) X (v := 120) dX10_stands_301 (by decide) ?_
  refine ww_icmp_ge (pc := 303) (tgt := 327) X dX10_stands_303 (by decide) hF (fun h16 hF => ?_) (fun h16 hF => ?_)
  · refine ww_aload_n (pc := 327) X (j := 0) dX10_stands_327 rfl rfl ?_
    refine ww_iconst (pc := 328) X (v := 3) dX10_stands_328 (by decide) ?_
    refine ww_putI (pc := 329) X (ref := "PictureBlockModel") (T := TX10) (j := 36) dX10_stands_329 inX10_stands_RX10 tyX10 tyX10_ok nmX10 shzM_0 clzM_10 (by decide) rfl (List.mem_of_getElem? (i := 14) rfl) rfl rfl (by decide +kernel) hF (fun σ17 eσ17 hF => ?_)
    refine ww_aload_n (pc := 332) X (j := 0) dX10_stands_332 rfl rfl ?_
    obtain ⟨r19, σ20, h18, hF⟩ := bd2_some hF
    refine ww_callVi (pc := 333) X (As := []) (rest := []) dX10_stands_333 (kX10_starts (mL M) G X.2.2.2.2.2.2.1 X.2.2.2.2.2.2.2.1 σ17 (r19, σ20) h18) rfl shzM_0 clzM_10 gX10_stands_X10_starts hyX10_starts ⟨rfl, rfl⟩ ⟨Nat.le_of_ble_eq_true rfl, Nat.le_of_ble_eq_true rfl⟩ rfl rfl (Nat.le_of_ble_eq_true rfl) ?_
    refine ww_pop (pc := 336) X dX10_stands_336 rfl ?_
    exact ww_vret (pc := 337) X dX10_stands_337 (by cases hF; rfl)
  · refine ww_aload_n (pc := 306) X (j := 0) dX10_stands_306 rfl rfl ?_
    refine ww_get (pc := 307) X (ref := "PictureBlockModel") (T := TX10) (j := 32) dX10_stands_307 inX10_stands_RX10 shzM_0 clzM_10 (by decide) rfl (List.mem_of_getElem? (i := 13) rfl) rfl ?_
    refine ww_bipush (pc := 310) X (v := 120) dX10_stands_310 (by decide) ?_
    refine ww_iload_n (pc := 312) X (j := 1) dX10_stands_312 rfl rfl ?_
    refine ww_iadd (pc := 313) X dX10_stands_313 ?_
    refine ww_aload_n (pc := 314) X (j := 0) dX10_stands_314 rfl rfl ?_
    refine ww_get (pc := 315) X (ref := "PictureBlockModel") (T := TX10) (j := 32) dX10_stands_315 inX10_stands_RX10 shzM_0 clzM_10 (by decide) rfl (List.mem_of_getElem? (i := 13) rfl) rfl ?_
    refine ww_iload_n (pc := 318) X (j := 1) dX10_stands_318 rfl rfl ?_
    refine ww_iald (pc := 319) X dX10_stands_319 shzM_24 rfl hF (fun v21 ev21 bv21 hF => ?_)
    refine ww_iast (pc := 320) X dX10_stands_320 shzM_24 rfl hF (fun σ22 eσ22 bσ22 hF => ?_)
    refine ww_iinc (pc := 321) X (j := 1) (v := 1) (lv' := [(0, .ref (G.2.1 0))]) dX10_stands_321 rfl rfl (by decide) rfl hF (fun x23 ex23 hF => ?_)
    refine ww_goto (pc := 324) X (tgt := 300) dX10_stands_324 (by decide) ?_
    exact ww_sub [1, 0] rfl (ih300 x23 σ22 hF)
set_option maxRecDepth 100000 in
set_option maxHeartbeats 4000000 in
theorem wbX10_stands_234 {M : gM} {G : gG} {out : gS} (X : gX M G zM cX10_stands RX10 2 wsX10_stands rmX10_stands none) (σ : gS) (rec234 : Int32 → gS → Option (gS)) (ih234 : ∀ (a1 : Int32) (σ1 : gS), rec234 a1 σ1 = some out → WW M (gQv M G zM out) G zM 2 σ1 234 [(0, .ref (G.2.1 0)), (1, .int a1)] []) (a1 : Int32) (σ1 : gS) (hF : bX10_stands_234 σ rec234 a1 σ1 = some out) : WW M (gQv M G zM out) G zM 2 σ1 234 [(0, .ref (G.2.1 0)), (1, .int a1)] [] := by
  unfold bX10_stands_234 at hF
  refine ww_iload_n (pc := 234) X (j := 1) dX10_stands_234 rfl rfl ?_
  refine ww_bipush (pc := 235) X (v := 60) dX10_stands_235 (by decide) ?_
  refine ww_icmp_ge (pc := 237) (tgt := 298) X dX10_stands_237 (by decide) hF (fun h14 hF => ?_) (fun h14 hF => ?_)
  · refine ww_iconst (pc := 298) X (v := 0) dX10_stands_298 (by decide) ?_
    refine ww_istore_n (pc := 299) X (lv' := [(0, .ref (G.2.1 0))]) dX10_stands_299 rfl (by decide) rfl hF (fun x15 ex15 hF => ?_)
    exact ww_sub [1, 0] rfl (lpc_ind (P := (fun (s : Int32 × gS) => WW M (gQv M G zM out) G zM 2 s.2 300 [(0, .ref (G.2.1 0)), (1, .int s.1)] [])) (fun rec s ih hF => wbX10_stands_300 X σ1 (fun a1 σ1 => rec (a1, σ1)) (fun a1 σ1 h => ih (a1, σ1) h) s.1 s.2 hF) K9 (x15, σ1) hF)
  · refine ww_aload_n (pc := 240) X (j := 0) dX10_stands_240 rfl rfl ?_
    refine ww_get (pc := 241) X (ref := "PictureBlockModel") (T := TX10) (j := 30) dX10_stands_241 inX10_stands_RX10 shzM_0 clzM_10 (by decide) rfl (List.mem_of_getElem? (i := 9) rfl) rfl ?_
    refine ww_bipush (pc := 244) X (v := 60) dX10_stands_244 (by decide) ?_
    refine ww_iload_n (pc := 246) X (j := 1) dX10_stands_246 rfl rfl ?_
    refine ww_iadd (pc := 247) X dX10_stands_247 ?_
    refine ww_aload_n (pc := 248) X (j := 0) dX10_stands_248 rfl rfl ?_
    refine ww_get (pc := 249) X (ref := "PictureBlockModel") (T := TX10) (j := 30) dX10_stands_249 inX10_stands_RX10 shzM_0 clzM_10 (by decide) rfl (List.mem_of_getElem? (i := 9) rfl) rfl ?_
    refine ww_iload_n (pc := 252) X (j := 1) dX10_stands_252 rfl rfl ?_
    refine ww_iald (pc := 253) X dX10_stands_253 shzM_22 rfl hF (fun v24 ev24 bv24 hF => ?_)
    refine ww_iast (pc := 254) X dX10_stands_254 shzM_22 rfl hF (fun σ25 eσ25 bσ25 hF => ?_)
    refine ww_aload_n (pc := 255) X (j := 0) dX10_stands_255 rfl rfl ?_
    refine ww_get (pc := 256) X (ref := "PictureBlockModel") (T := TX10) (j := 31) dX10_stands_256 inX10_stands_RX10 shzM_0 clzM_10 (by decide) rfl (List.mem_of_getElem? (i := 10) rfl) rfl ?_
    refine ww_bipush (pc := 259) X (v := 60) dX10_stands_259 (by decide) ?_
    refine ww_iload_n (pc := 261) X (j := 1) dX10_stands_261 rfl rfl ?_
    refine ww_iadd (pc := 262) X dX10_stands_262 ?_
    refine ww_aload_n (pc := 263) X (j := 0) dX10_stands_263 rfl rfl ?_
    refine ww_get (pc := 264) X (ref := "PictureBlockModel") (T := TX10) (j := 31) dX10_stands_264 inX10_stands_RX10 shzM_0 clzM_10 (by decide) rfl (List.mem_of_getElem? (i := 10) rfl) rfl ?_
    refine ww_iload_n (pc := 267) X (j := 1) dX10_stands_267 rfl rfl ?_
    refine ww_iald (pc := 268) X dX10_stands_268 shzM_23 rfl hF (fun v26 ev26 bv26 hF => ?_)
    refine ww_iast (pc := 269) X dX10_stands_269 shzM_23 rfl hF (fun σ27 eσ27 bσ27 hF => ?_)
    refine ww_aload_n (pc := 270) X (j := 0) dX10_stands_270 rfl rfl ?_
    refine ww_get (pc := 271) X (ref := "PictureBlockModel") (T := TX10) (j := 33) dX10_stands_271 inX10_stands_RX10 shzM_0 clzM_10 (by decide) rfl (List.mem_of_getElem? (i := 11) rfl) rfl ?_
    refine ww_bipush (pc := 274) X (v := 60) dX10_stands_274 (by decide) ?_
    refine ww_iload_n (pc := 276) X (j := 1) dX10_stands_276 rfl rfl ?_
    refine ww_iadd (pc := 277) X dX10_stands_277 ?_
    refine ww_aload_n (pc := 278) X (j := 0) dX10_stands_278 rfl rfl ?_
    refine ww_get (pc := 279) X (ref := "PictureBlockModel") (T := TX10) (j := 33) dX10_stands_279 inX10_stands_RX10 shzM_0 clzM_10 (by decide) rfl (List.mem_of_getElem? (i := 11) rfl) rfl ?_
    refine ww_iload_n (pc := 282) X (j := 1) dX10_stands_282 rfl rfl ?_
    refine ww_iald (pc := 283) X dX10_stands_283 shzM_25 rfl hF (fun v28 ev28 bv28 hF => ?_)
    refine ww_iast (pc := 284) X dX10_stands_284 shzM_25 rfl hF (fun σ29 eσ29 bσ29 hF => ?_)
    refine ww_aload_n (pc := 285) X (j := 0) dX10_stands_285 rfl rfl ?_
    refine ww_get (pc := 286) X (ref := "PictureBlockModel") (T := TX10) (j := 35) dX10_stands_286 inX10_stands_RX10 shzM_0 clzM_10 (by decide) rfl (List.mem_of_getElem? (i := 12) rfl) rfl ?_
    refine ww_iload_n (pc := 289) X (j := 1) dX10_stands_289 rfl rfl ?_
    refine ww_iconst (pc := 290) X (v := 0) dX10_stands_290 (by decide) ?_
    refine ww_zast (pc := 291) X dX10_stands_291 shzM_26 rfl hF (fun σ30 eσ30 bσ30 hF => ?_)
    refine ww_iinc (pc := 292) X (j := 1) (v := 1) (lv' := [(0, .ref (G.2.1 0))]) dX10_stands_292 rfl rfl (by decide) rfl hF (fun x31 ex31 hF => ?_)
    refine ww_goto (pc := 295) X (tgt := 234) dX10_stands_295 (by decide) ?_
    exact ww_sub [1, 0] rfl (ih234 x31 σ30 hF)
set_option maxRecDepth 100000 in
set_option maxHeartbeats 4000000 in
theorem wbX10_stands_205 {M : gM} {G : gG} {out : gS} (X : gX M G zM cX10_stands RX10 2 wsX10_stands rmX10_stands none) (σ : gS) (rec205 : Int32 → gS → Option (gS)) (ih205 : ∀ (a1 : Int32) (σ1 : gS), rec205 a1 σ1 = some out → WW M (gQv M G zM out) G zM 2 σ1 205 [(0, .ref (G.2.1 0)), (1, .int a1)] []) (a1 : Int32) (σ1 : gS) (hF : bX10_stands_205 σ rec205 a1 σ1 = some out) : WW M (gQv M G zM out) G zM 2 σ1 205 [(0, .ref (G.2.1 0)), (1, .int a1)] [] := by
  unfold bX10_stands_205 at hF
  refine ww_iload_n (pc := 205) X (j := 1) dX10_stands_205 rfl rfl ?_
  refine ww_bipush (pc := 206) X (v := 40) dX10_stands_206 (by decide) ?_
  refine ww_icmp_ge (pc := 208) (tgt := 232) X dX10_stands_208 (by decide) hF (fun h12 hF => ?_) (fun h12 hF => ?_)
  · refine ww_iconst (pc := 232) X (v := 0) dX10_stands_232 (by decide) ?_
    refine ww_istore_n (pc := 233) X (lv' := [(0, .ref (G.2.1 0))]) dX10_stands_233 rfl (by decide) rfl hF (fun x13 ex13 hF => ?_)
    exact ww_sub [1, 0] rfl (lpc_ind (P := (fun (s : Int32 × gS) => WW M (gQv M G zM out) G zM 2 s.2 234 [(0, .ref (G.2.1 0)), (1, .int s.1)] [])) (fun rec s ih hF => wbX10_stands_234 X σ1 (fun a1 σ1 => rec (a1, σ1)) (fun a1 σ1 h => ih (a1, σ1) h) s.1 s.2 hF) K9 (x13, σ1) hF)
  · refine ww_aload_n (pc := 211) X (j := 0) dX10_stands_211 rfl rfl ?_
    refine ww_get (pc := 212) X (ref := "PictureBlockModel") (T := TX10) (j := 29) dX10_stands_212 inX10_stands_RX10 shzM_0 clzM_10 (by decide) rfl (List.mem_of_getElem? (i := 8) rfl) rfl ?_
    refine ww_bipush (pc := 215) X (v := 40) dX10_stands_215 (by decide) ?_
    refine ww_iload_n (pc := 217) X (j := 1) dX10_stands_217 rfl rfl ?_
    refine ww_iadd (pc := 218) X dX10_stands_218 ?_
    refine ww_aload_n (pc := 219) X (j := 0) dX10_stands_219 rfl rfl ?_
    refine ww_get (pc := 220) X (ref := "PictureBlockModel") (T := TX10) (j := 29) dX10_stands_220 inX10_stands_RX10 shzM_0 clzM_10 (by decide) rfl (List.mem_of_getElem? (i := 8) rfl) rfl ?_
    refine ww_iload_n (pc := 223) X (j := 1) dX10_stands_223 rfl rfl ?_
    refine ww_iald (pc := 224) X dX10_stands_224 shzM_21 rfl hF (fun v32 ev32 bv32 hF => ?_)
    refine ww_iast (pc := 225) X dX10_stands_225 shzM_21 rfl hF (fun σ33 eσ33 bσ33 hF => ?_)
    refine ww_iinc (pc := 226) X (j := 1) (v := 1) (lv' := [(0, .ref (G.2.1 0))]) dX10_stands_226 rfl rfl (by decide) rfl hF (fun x34 ex34 hF => ?_)
    refine ww_goto (pc := 229) X (tgt := 205) dX10_stands_229 (by decide) ?_
    exact ww_sub [1, 0] rfl (ih205 x34 σ33 hF)
set_option maxRecDepth 100000 in
set_option maxHeartbeats 4000000 in
theorem wbX10_stands_162 {M : gM} {G : gG} {out : gS} (X : gX M G zM cX10_stands RX10 2 wsX10_stands rmX10_stands none) (σ : gS) (rec162 : Int32 → gS → Option (gS)) (ih162 : ∀ (a1 : Int32) (σ1 : gS), rec162 a1 σ1 = some out → WW M (gQv M G zM out) G zM 2 σ1 162 [(0, .ref (G.2.1 0)), (1, .int a1)] []) (a1 : Int32) (σ1 : gS) (hF : bX10_stands_162 σ rec162 a1 σ1 = some out) : WW M (gQv M G zM out) G zM 2 σ1 162 [(0, .ref (G.2.1 0)), (1, .int a1)] [] := by
  unfold bX10_stands_162 at hF
  refine ww_iload_n (pc := 162) X (j := 1) dX10_stands_162 rfl rfl ?_
  refine ww_bipush (pc := 163) X (v := 20) dX10_stands_163 (by decide) ?_
  refine ww_icmp_ge (pc := 165) (tgt := 203) X dX10_stands_165 (by decide) hF (fun h10 hF => ?_) (fun h10 hF => ?_)
  · refine ww_iconst (pc := 203) X (v := 0) dX10_stands_203 (by decide) ?_
    refine ww_istore_n (pc := 204) X (lv' := [(0, .ref (G.2.1 0))]) dX10_stands_204 rfl (by decide) rfl hF (fun x11 ex11 hF => ?_)
    exact ww_sub [1, 0] rfl (lpc_ind (P := (fun (s : Int32 × gS) => WW M (gQv M G zM out) G zM 2 s.2 205 [(0, .ref (G.2.1 0)), (1, .int s.1)] [])) (fun rec s ih hF => wbX10_stands_205 X σ1 (fun a1 σ1 => rec (a1, σ1)) (fun a1 σ1 h => ih (a1, σ1) h) s.1 s.2 hF) K9 (x11, σ1) hF)
  · refine ww_aload_n (pc := 168) X (j := 0) dX10_stands_168 rfl rfl ?_
    refine ww_get (pc := 169) X (ref := "PictureBlockModel") (T := TX10) (j := 28) dX10_stands_169 inX10_stands_RX10 shzM_0 clzM_10 (by decide) rfl (List.mem_of_getElem? (i := 7) rfl) rfl ?_
    refine ww_bipush (pc := 172) X (v := 20) dX10_stands_172 (by decide) ?_
    refine ww_iload_n (pc := 174) X (j := 1) dX10_stands_174 rfl rfl ?_
    refine ww_iadd (pc := 175) X dX10_stands_175 ?_
    refine ww_iload_n (pc := 176) X (j := 1) dX10_stands_176 rfl rfl ?_
    refine ww_aload_n (pc := 177) X (j := 0) dX10_stands_177 rfl rfl ?_
    refine ww_get (pc := 178) X (ref := "PictureBlockModel") (T := TX10) (j := 23) dX10_stands_178 inX10_stands_RX10 shzM_0 clzM_10 (by decide) rfl (List.mem_of_getElem? (i := 1) rfl) rfl ?_
    refine ww_iconst (pc := 181) X (v := 2) dX10_stands_181 (by decide) ?_
    refine ww_iald (pc := 182) X dX10_stands_182 shzM_15 rfl hF (fun v35 ev35 bv35 hF => ?_)
    refine ww_icmp_ge (pc := 183) (tgt := 195) X dX10_stands_183 (by decide) hF (fun h36 hF => ?_) (fun h36 hF => ?_)
    · refine ww_iconst (pc := 195) X (v := 0) dX10_stands_195 (by decide) ?_
      refine ww_iast (pc := 196) X dX10_stands_196 shzM_20 rfl hF (fun σ37 eσ37 bσ37 hF => ?_)
      refine ww_iinc (pc := 197) X (j := 1) (v := 1) (lv' := [(0, .ref (G.2.1 0))]) dX10_stands_197 rfl rfl (by decide) rfl hF (fun x38 ex38 hF => ?_)
      refine ww_goto (pc := 200) X (tgt := 162) dX10_stands_200 (by decide) ?_
      exact ww_sub [1, 0] rfl (ih162 x38 σ37 hF)
    · refine ww_aload_n (pc := 186) X (j := 0) dX10_stands_186 rfl rfl ?_
      refine ww_get (pc := 187) X (ref := "PictureBlockModel") (T := TX10) (j := 28) dX10_stands_187 inX10_stands_RX10 shzM_0 clzM_10 (by decide) rfl (List.mem_of_getElem? (i := 7) rfl) rfl ?_
      refine ww_iload_n (pc := 190) X (j := 1) dX10_stands_190 rfl rfl ?_
      refine ww_iald (pc := 191) X dX10_stands_191 shzM_20 rfl hF (fun v39 ev39 bv39 hF => ?_)
      refine ww_goto (pc := 192) X (tgt := 196) dX10_stands_192 (by decide) ?_
      refine ww_iast (pc := 196) X dX10_stands_196 shzM_20 rfl hF (fun σ40 eσ40 bσ40 hF => ?_)
      refine ww_iinc (pc := 197) X (j := 1) (v := 1) (lv' := [(0, .ref (G.2.1 0))]) dX10_stands_197 rfl rfl (by decide) rfl hF (fun x41 ex41 hF => ?_)
      refine ww_goto (pc := 200) X (tgt := 162) dX10_stands_200 (by decide) ?_
      exact ww_sub [1, 0] rfl (ih162 x41 σ40 hF)
set_option maxRecDepth 100000 in
set_option maxHeartbeats 4000000 in
theorem wbX10_stands_133 {M : gM} {G : gG} {out : gS} (X : gX M G zM cX10_stands RX10 2 wsX10_stands rmX10_stands none) (σ : gS) (rec133 : Int32 → gS → Option (gS)) (ih133 : ∀ (a1 : Int32) (σ1 : gS), rec133 a1 σ1 = some out → WW M (gQv M G zM out) G zM 2 σ1 133 [(0, .ref (G.2.1 0)), (1, .int a1)] []) (a1 : Int32) (σ1 : gS) (hF : bX10_stands_133 σ rec133 a1 σ1 = some out) : WW M (gQv M G zM out) G zM 2 σ1 133 [(0, .ref (G.2.1 0)), (1, .int a1)] [] := by
  unfold bX10_stands_133 at hF
  refine ww_iload_n (pc := 133) X (j := 1) dX10_stands_133 rfl rfl ?_
  refine ww_bipush (pc := 134) X (v := 24) dX10_stands_134 (by decide) ?_
  refine ww_icmp_ge (pc := 136) (tgt := 160) X dX10_stands_136 (by decide) hF (fun h8 hF => ?_) (fun h8 hF => ?_)
  · refine ww_iconst (pc := 160) X (v := 0) dX10_stands_160 (by decide) ?_
    refine ww_istore_n (pc := 161) X (lv' := [(0, .ref (G.2.1 0))]) dX10_stands_161 rfl (by decide) rfl hF (fun x9 ex9 hF => ?_)
    exact ww_sub [1, 0] rfl (lpc_ind (P := (fun (s : Int32 × gS) => WW M (gQv M G zM out) G zM 2 s.2 162 [(0, .ref (G.2.1 0)), (1, .int s.1)] [])) (fun rec s ih hF => wbX10_stands_162 X σ1 (fun a1 σ1 => rec (a1, σ1)) (fun a1 σ1 h => ih (a1, σ1) h) s.1 s.2 hF) K9 (x9, σ1) hF)
  · refine ww_aload_n (pc := 139) X (j := 0) dX10_stands_139 rfl rfl ?_
    refine ww_get (pc := 140) X (ref := "PictureBlockModel") (T := TX10) (j := 27) dX10_stands_140 inX10_stands_RX10 shzM_0 clzM_10 (by decide) rfl (List.mem_of_getElem? (i := 6) rfl) rfl ?_
    refine ww_bipush (pc := 143) X (v := 24) dX10_stands_143 (by decide) ?_
    refine ww_iload_n (pc := 145) X (j := 1) dX10_stands_145 rfl rfl ?_
    refine ww_iadd (pc := 146) X dX10_stands_146 ?_
    refine ww_aload_n (pc := 147) X (j := 0) dX10_stands_147 rfl rfl ?_
    refine ww_get (pc := 148) X (ref := "PictureBlockModel") (T := TX10) (j := 27) dX10_stands_148 inX10_stands_RX10 shzM_0 clzM_10 (by decide) rfl (List.mem_of_getElem? (i := 6) rfl) rfl ?_
    refine ww_iload_n (pc := 151) X (j := 1) dX10_stands_151 rfl rfl ?_
    refine ww_iald (pc := 152) X dX10_stands_152 shzM_19 rfl hF (fun v42 ev42 bv42 hF => ?_)
    refine ww_iast (pc := 153) X dX10_stands_153 shzM_19 rfl hF (fun σ43 eσ43 bσ43 hF => ?_)
    refine ww_iinc (pc := 154) X (j := 1) (v := 1) (lv' := [(0, .ref (G.2.1 0))]) dX10_stands_154 rfl rfl (by decide) rfl hF (fun x44 ex44 hF => ?_)
    refine ww_goto (pc := 157) X (tgt := 133) dX10_stands_157 (by decide) ?_
    exact ww_sub [1, 0] rfl (ih133 x44 σ43 hF)
set_option maxRecDepth 100000 in
set_option maxHeartbeats 4000000 in
theorem wbX10_stands_60 {M : gM} {G : gG} {out : gS} (X : gX M G zM cX10_stands RX10 2 wsX10_stands rmX10_stands none) (σ : gS) (rec60 : Int32 → gS → Option (gS)) (ih60 : ∀ (a1 : Int32) (σ1 : gS), rec60 a1 σ1 = some out → WW M (gQv M G zM out) G zM 2 σ1 60 [(0, .ref (G.2.1 0)), (1, .int a1)] []) (a1 : Int32) (σ1 : gS) (hF : bX10_stands_60 σ rec60 a1 σ1 = some out) : WW M (gQv M G zM out) G zM 2 σ1 60 [(0, .ref (G.2.1 0)), (1, .int a1)] [] := by
  unfold bX10_stands_60 at hF
  refine ww_iload_n (pc := 60) X (j := 1) dX10_stands_60 rfl rfl ?_
  refine ww_bipush (pc := 61) X (v := 12) dX10_stands_61 (by decide) ?_
  refine ww_icmp_ge (pc := 63) (tgt := 131) X dX10_stands_63 (by decide) hF (fun h6 hF => ?_) (fun h6 hF => ?_)
  · refine ww_iconst (pc := 131) X (v := 0) dX10_stands_131 (by decide) ?_
    refine ww_istore_n (pc := 132) X (lv' := [(0, .ref (G.2.1 0))]) dX10_stands_132 rfl (by decide) rfl hF (fun x7 ex7 hF => ?_)
    exact ww_sub [1, 0] rfl (lpc_ind (P := (fun (s : Int32 × gS) => WW M (gQv M G zM out) G zM 2 s.2 133 [(0, .ref (G.2.1 0)), (1, .int s.1)] [])) (fun rec s ih hF => wbX10_stands_133 X σ1 (fun a1 σ1 => rec (a1, σ1)) (fun a1 σ1 h => ih (a1, σ1) h) s.1 s.2 hF) K9 (x7, σ1) hF)
  · refine ww_aload_n (pc := 66) X (j := 0) dX10_stands_66 rfl rfl ?_
    refine ww_get (pc := 67) X (ref := "PictureBlockModel") (T := TX10) (j := 24) dX10_stands_67 inX10_stands_RX10 shzM_0 clzM_10 (by decide) rfl (List.mem_of_getElem? (i := 3) rfl) rfl ?_
    refine ww_bipush (pc := 70) X (v := 12) dX10_stands_70 (by decide) ?_
    refine ww_iload_n (pc := 72) X (j := 1) dX10_stands_72 rfl rfl ?_
    refine ww_iadd (pc := 73) X dX10_stands_73 ?_
    refine ww_aload_n (pc := 74) X (j := 0) dX10_stands_74 rfl rfl ?_
    refine ww_get (pc := 75) X (ref := "PictureBlockModel") (T := TX10) (j := 24) dX10_stands_75 inX10_stands_RX10 shzM_0 clzM_10 (by decide) rfl (List.mem_of_getElem? (i := 3) rfl) rfl ?_
    refine ww_iload_n (pc := 78) X (j := 1) dX10_stands_78 rfl rfl ?_
    refine ww_iald (pc := 79) X dX10_stands_79 shzM_16 rfl hF (fun v45 ev45 bv45 hF => ?_)
    refine ww_iast (pc := 80) X dX10_stands_80 shzM_16 rfl hF (fun σ46 eσ46 bσ46 hF => ?_)
    refine ww_aload_n (pc := 81) X (j := 0) dX10_stands_81 rfl rfl ?_
    refine ww_get (pc := 82) X (ref := "PictureBlockModel") (T := TX10) (j := 25) dX10_stands_82 inX10_stands_RX10 shzM_0 clzM_10 (by decide) rfl (List.mem_of_getElem? (i := 4) rfl) rfl ?_
    refine ww_bipush (pc := 85) X (v := 12) dX10_stands_85 (by decide) ?_
    refine ww_iload_n (pc := 87) X (j := 1) dX10_stands_87 rfl rfl ?_
    refine ww_iadd (pc := 88) X dX10_stands_88 ?_
    refine ww_aload_n (pc := 89) X (j := 0) dX10_stands_89 rfl rfl ?_
    refine ww_get (pc := 90) X (ref := "PictureBlockModel") (T := TX10) (j := 25) dX10_stands_90 inX10_stands_RX10 shzM_0 clzM_10 (by decide) rfl (List.mem_of_getElem? (i := 4) rfl) rfl ?_
    refine ww_iload_n (pc := 93) X (j := 1) dX10_stands_93 rfl rfl ?_
    refine ww_iald (pc := 94) X dX10_stands_94 shzM_17 rfl hF (fun v47 ev47 bv47 hF => ?_)
    refine ww_iast (pc := 95) X dX10_stands_95 shzM_17 rfl hF (fun σ48 eσ48 bσ48 hF => ?_)
    refine ww_aload_n (pc := 96) X (j := 0) dX10_stands_96 rfl rfl ?_
    refine ww_get (pc := 97) X (ref := "PictureBlockModel") (T := TX10) (j := 26) dX10_stands_97 inX10_stands_RX10 shzM_0 clzM_10 (by decide) rfl (List.mem_of_getElem? (i := 5) rfl) rfl ?_
    refine ww_bipush (pc := 100) X (v := 12) dX10_stands_100 (by decide) ?_
    refine ww_iload_n (pc := 102) X (j := 1) dX10_stands_102 rfl rfl ?_
    refine ww_iadd (pc := 103) X dX10_stands_103 ?_
    refine ww_iload_n (pc := 104) X (j := 1) dX10_stands_104 rfl rfl ?_
    refine ww_aload_n (pc := 105) X (j := 0) dX10_stands_105 rfl rfl ?_
    refine ww_get (pc := 106) X (ref := "PictureBlockModel") (T := TX10) (j := 23) dX10_stands_106 inX10_stands_RX10 shzM_0 clzM_10 (by decide) rfl (List.mem_of_getElem? (i := 1) rfl) rfl ?_
    refine ww_iconst (pc := 109) X (v := 1) dX10_stands_109 (by decide) ?_
    refine ww_iald (pc := 110) X dX10_stands_110 shzM_15 rfl hF (fun v49 ev49 bv49 hF => ?_)
    refine ww_icmp_ge (pc := 111) (tgt := 123) X dX10_stands_111 (by decide) hF (fun h50 hF => ?_) (fun h50 hF => ?_)
    · refine ww_iconst (pc := 123) X (v := 0) dX10_stands_123 (by decide) ?_
      refine ww_iast (pc := 124) X dX10_stands_124 shzM_18 rfl hF (fun σ51 eσ51 bσ51 hF => ?_)
      refine ww_iinc (pc := 125) X (j := 1) (v := 1) (lv' := [(0, .ref (G.2.1 0))]) dX10_stands_125 rfl rfl (by decide) rfl hF (fun x52 ex52 hF => ?_)
      refine ww_goto (pc := 128) X (tgt := 60) dX10_stands_128 (by decide) ?_
      exact ww_sub [1, 0] rfl (ih60 x52 σ51 hF)
    · refine ww_aload_n (pc := 114) X (j := 0) dX10_stands_114 rfl rfl ?_
      refine ww_get (pc := 115) X (ref := "PictureBlockModel") (T := TX10) (j := 26) dX10_stands_115 inX10_stands_RX10 shzM_0 clzM_10 (by decide) rfl (List.mem_of_getElem? (i := 5) rfl) rfl ?_
      refine ww_iload_n (pc := 118) X (j := 1) dX10_stands_118 rfl rfl ?_
      refine ww_iald (pc := 119) X dX10_stands_119 shzM_18 rfl hF (fun v53 ev53 bv53 hF => ?_)
      refine ww_goto (pc := 120) X (tgt := 124) dX10_stands_120 (by decide) ?_
      refine ww_iast (pc := 124) X dX10_stands_124 shzM_18 rfl hF (fun σ54 eσ54 bσ54 hF => ?_)
      refine ww_iinc (pc := 125) X (j := 1) (v := 1) (lv' := [(0, .ref (G.2.1 0))]) dX10_stands_125 rfl rfl (by decide) rfl hF (fun x55 ex55 hF => ?_)
      refine ww_goto (pc := 128) X (tgt := 60) dX10_stands_128 (by decide) ?_
      exact ww_sub [1, 0] rfl (ih60 x55 σ54 hF)
set_option maxRecDepth 100000 in
set_option maxHeartbeats 4000000 in
theorem wbX10_stands_31 {M : gM} {G : gG} {out : gS} (X : gX M G zM cX10_stands RX10 2 wsX10_stands rmX10_stands none) (σ : gS) (rec31 : Int32 → gS → Option (gS)) (ih31 : ∀ (a1 : Int32) (σ1 : gS), rec31 a1 σ1 = some out → WW M (gQv M G zM out) G zM 2 σ1 31 [(0, .ref (G.2.1 0)), (1, .int a1)] []) (a1 : Int32) (σ1 : gS) (hF : bX10_stands_31 σ rec31 a1 σ1 = some out) : WW M (gQv M G zM out) G zM 2 σ1 31 [(0, .ref (G.2.1 0)), (1, .int a1)] [] := by
  unfold bX10_stands_31 at hF
  refine ww_iload_n (pc := 31) X (j := 1) dX10_stands_31 rfl rfl ?_
  refine ww_bipush (pc := 32) X (v := 60) dX10_stands_32 (by decide) ?_
  refine ww_icmp_ge (pc := 34) (tgt := 58) X dX10_stands_34 (by decide) hF (fun h4 hF => ?_) (fun h4 hF => ?_)
  · refine ww_iconst (pc := 58) X (v := 0) dX10_stands_58 (by decide) ?_
    refine ww_istore_n (pc := 59) X (lv' := [(0, .ref (G.2.1 0))]) dX10_stands_59 rfl (by decide) rfl hF (fun x5 ex5 hF => ?_)
    exact ww_sub [1, 0] rfl (lpc_ind (P := (fun (s : Int32 × gS) => WW M (gQv M G zM out) G zM 2 s.2 60 [(0, .ref (G.2.1 0)), (1, .int s.1)] [])) (fun rec s ih hF => wbX10_stands_60 X σ1 (fun a1 σ1 => rec (a1, σ1)) (fun a1 σ1 h => ih (a1, σ1) h) s.1 s.2 hF) K9 (x5, σ1) hF)
  · refine ww_aload_n (pc := 37) X (j := 0) dX10_stands_37 rfl rfl ?_
    refine ww_get (pc := 38) X (ref := "PictureBlockModel") (T := TX10) (j := 22) dX10_stands_38 inX10_stands_RX10 shzM_0 clzM_10 (by decide) rfl (List.mem_of_getElem? (i := 2) rfl) rfl ?_
    refine ww_bipush (pc := 41) X (v := 60) dX10_stands_41 (by decide) ?_
    refine ww_iload_n (pc := 43) X (j := 1) dX10_stands_43 rfl rfl ?_
    refine ww_iadd (pc := 44) X dX10_stands_44 ?_
    refine ww_aload_n (pc := 45) X (j := 0) dX10_stands_45 rfl rfl ?_
    refine ww_get (pc := 46) X (ref := "PictureBlockModel") (T := TX10) (j := 22) dX10_stands_46 inX10_stands_RX10 shzM_0 clzM_10 (by decide) rfl (List.mem_of_getElem? (i := 2) rfl) rfl ?_
    refine ww_iload_n (pc := 49) X (j := 1) dX10_stands_49 rfl rfl ?_
    refine ww_lald (pc := 50) X dX10_stands_50 shzM_14 rfl hF (fun v56 ev56 bv56 hF => ?_)
    refine ww_last (pc := 51) X dX10_stands_51 shzM_14 rfl hF (fun σ57 eσ57 bσ57 hF => ?_)
    refine ww_iinc (pc := 52) X (j := 1) (v := 1) (lv' := [(0, .ref (G.2.1 0))]) dX10_stands_52 rfl rfl (by decide) rfl hF (fun x58 ex58 hF => ?_)
    refine ww_goto (pc := 55) X (tgt := 31) dX10_stands_55 (by decide) ?_
    exact ww_sub [1, 0] rfl (ih31 x58 σ57 hF)
set_option maxRecDepth 100000 in
set_option maxHeartbeats 4000000 in
theorem wbX10_stands_2 {M : gM} {G : gG} {out : gS} (X : gX M G zM cX10_stands RX10 2 wsX10_stands rmX10_stands none) (σ : gS) (rec2 : Int32 → gS → Option (gS)) (ih2 : ∀ (a1 : Int32) (σ1 : gS), rec2 a1 σ1 = some out → WW M (gQv M G zM out) G zM 2 σ1 2 [(0, .ref (G.2.1 0)), (1, .int a1)] []) (a1 : Int32) (σ1 : gS) (hF : bX10_stands_2 σ rec2 a1 σ1 = some out) : WW M (gQv M G zM out) G zM 2 σ1 2 [(0, .ref (G.2.1 0)), (1, .int a1)] [] := by
  unfold bX10_stands_2 at hF
  refine ww_iload_n (pc := 2) X (j := 1) dX10_stands_2 rfl rfl ?_
  refine ww_bipush (pc := 3) X (v := 6) dX10_stands_3 (by decide) ?_
  refine ww_icmp_ge (pc := 5) (tgt := 29) X dX10_stands_5 (by decide) hF (fun h2 hF => ?_) (fun h2 hF => ?_)
  · refine ww_iconst (pc := 29) X (v := 0) dX10_stands_29 (by decide) ?_
    refine ww_istore_n (pc := 30) X (lv' := [(0, .ref (G.2.1 0))]) dX10_stands_30 rfl (by decide) rfl hF (fun x3 ex3 hF => ?_)
    exact ww_sub [1, 0] rfl (lpc_ind (P := (fun (s : Int32 × gS) => WW M (gQv M G zM out) G zM 2 s.2 31 [(0, .ref (G.2.1 0)), (1, .int s.1)] [])) (fun rec s ih hF => wbX10_stands_31 X σ1 (fun a1 σ1 => rec (a1, σ1)) (fun a1 σ1 h => ih (a1, σ1) h) s.1 s.2 hF) K9 (x3, σ1) hF)
  · refine ww_aload_n (pc := 8) X (j := 0) dX10_stands_8 rfl rfl ?_
    refine ww_get (pc := 9) X (ref := "PictureBlockModel") (T := TX10) (j := 23) dX10_stands_9 inX10_stands_RX10 shzM_0 clzM_10 (by decide) rfl (List.mem_of_getElem? (i := 1) rfl) rfl ?_
    refine ww_bipush (pc := 12) X (v := 6) dX10_stands_12 (by decide) ?_
    refine ww_iload_n (pc := 14) X (j := 1) dX10_stands_14 rfl rfl ?_
    refine ww_iadd (pc := 15) X dX10_stands_15 ?_
    refine ww_aload_n (pc := 16) X (j := 0) dX10_stands_16 rfl rfl ?_
    refine ww_get (pc := 17) X (ref := "PictureBlockModel") (T := TX10) (j := 23) dX10_stands_17 inX10_stands_RX10 shzM_0 clzM_10 (by decide) rfl (List.mem_of_getElem? (i := 1) rfl) rfl ?_
    refine ww_iload_n (pc := 20) X (j := 1) dX10_stands_20 rfl rfl ?_
    refine ww_iald (pc := 21) X dX10_stands_21 shzM_15 rfl hF (fun v59 ev59 bv59 hF => ?_)
    refine ww_iast (pc := 22) X dX10_stands_22 shzM_15 rfl hF (fun σ60 eσ60 bσ60 hF => ?_)
    refine ww_iinc (pc := 23) X (j := 1) (v := 1) (lv' := [(0, .ref (G.2.1 0))]) dX10_stands_23 rfl rfl (by decide) rfl hF (fun x61 ex61 hF => ?_)
    refine ww_goto (pc := 26) X (tgt := 2) dX10_stands_26 (by decide) ?_
    exact ww_sub [1, 0] rfl (ih2 x61 σ60 hF)
set_option maxRecDepth 100000 in
set_option maxHeartbeats 4000000 in
theorem wX10_stands {M : gM} {G : gG} {out : gS} (X : gX M G zM cX10_stands RX10 2 wsX10_stands rmX10_stands none) (σ : gS) (hF : fX10_stands σ = some out) : WW M (gQv M G zM out) G zM 2 σ 0 [(0, .ref (G.2.1 0))] [] := by
  unfold fX10_stands at hF
  refine ww_iconst (pc := 0) X (v := 0) dX10_stands_0 (by decide) ?_
  refine ww_istore_n (pc := 1) X (lv' := [(0, .ref (G.2.1 0))]) dX10_stands_1 rfl (by decide) rfl hF (fun x1 ex1 hF => ?_)
  exact ww_sub [1, 0] rfl (lpc_ind (P := (fun (s : Int32 × gS) => WW M (gQv M G zM out) G zM 2 s.2 2 [(0, .ref (G.2.1 0)), (1, .int s.1)] [])) (fun rec s ih hF => wbX10_stands_2 X σ (fun a1 σ1 => rec (a1, σ1)) (fun a1 σ1 h => ih (a1, σ1) h) s.1 s.2 hF) K9 (x1, σ) hF)
set_option maxRecDepth 100000 in
set_option maxHeartbeats 4000000 in
theorem kX10_stands (l : Launch) (G : gG) (hG : gOK G zM.1) (hT : G.2.2.1.map (fun q => q.2) = zM.2.1) (σ : gS) (out : gS) (hF : fX10_stands σ = some out) : gCv l yX10_stands wsX10_stands rmX10_stands G zM [.ref (G.2.1 0)] σ out :=
  gEnter (by decide) rfl ⟨rfl, rfl⟩ hG hT (Nat.le_of_ble_eq_true rfl) rfl (fun M X hl => wX10_stands X σ hF)
noncomputable def jX10_look_52 (σ : gS) : Option (Int32 × gS) :=
  if (σ.1 0 3) ≤ (σ.1 0 2) then some ((-1), σ) else gd (gb (σ.1 0 2) 1600) <| nm (σ.1 1 (σ.1 0 2).toNatClampNeg) fun v3 => some (v3, σ)
noncomputable def jX10_look_39 (σ : gS) (rec0 : gS → Option (Int32 × gS)) : Option (Int32 × gS) :=
  nm (gsI σ 0 2 ((σ.1 0 2) + 1)) fun σ6 => rec0 σ6
noncomputable def bX10_look_0 (σ : gS) (rec0 : gS → Option (Int32 × gS)) (σ1 : gS) : Option (Int32 × gS) :=
  if (σ1.1 0 3) ≤ (σ1.1 0 2) then jX10_look_52 σ1 else gd (gb (σ1.1 0 2) 1600) <| nm (σ1.1 1 (σ1.1 0 2).toNatClampNeg) fun v4 => (if v4 = 10 then jX10_look_39 σ1 rec0 else gd (gb (σ1.1 0 2) 1600) <| nm (σ1.1 1 (σ1.1 0 2).toNatClampNeg) fun v7 => (if v7 = 32 then jX10_look_39 σ1 rec0 else jX10_look_52 σ1))
noncomputable def fX10_look (σ : gS) : Option (Int32 × gS) :=
  lpc (S := gS) K9 (fun rec s => bX10_look_0 σ (fun σ1 => rec (σ1)) s) (σ)
noncomputable abbrev rmX10_look : Room := { frames := 0, cells := 0, slots := 0, locals := 0 }
set_option maxRecDepth 100000 in
set_option maxHeartbeats 4000000 in
theorem wjX10_look_52 {M : gM} {G : gG} {out : Int32 × gS} (X : gX M G zM cX10_look RX10 1 wsX10_look rmX10_look (some .int)) (σ : gS) (hF : jX10_look_52 σ = some out) : WW M (gQi M G zM out.1 out.2) G zM 1 σ 52 [(0, .ref (G.2.1 0))] [] := by
  unfold jX10_look_52 at hF
  refine ww_aload_n (pc := 52) X (j := 0) dX10_look_52 rfl rfl ?_
  refine ww_get (pc := 53) X (ref := "PictureBlockModel") (T := TX10) (j := 2) dX10_look_53 inX10_look_RX10 shzM_0 clzM_10 (by decide) rfl (List.mem_of_getElem? (i := 1) rfl) rfl ?_
  refine ww_aload_n (pc := 56) X (j := 0) dX10_look_56 rfl rfl ?_
  refine ww_get (pc := 57) X (ref := "PictureBlockModel") (T := TX10) (j := 3) dX10_look_57 inX10_look_RX10 shzM_0 clzM_10 (by decide) rfl (List.mem_of_getElem? (i := 2) rfl) rfl ?_
  refine ww_icmp_ge (pc := 60) (tgt := 75) X dX10_look_60 (by decide) hF (fun h2 hF => ?_) (fun h2 hF => ?_)
  · refine ww_iconst (pc := 75) X (v := (-1)) dX10_look_75 (by decide) ?_
    exact ww_iret (pc := 76) X dX10_look_76 (fst_of hF) (snd_of hF)
  · refine ww_aload_n (pc := 63) X (j := 0) dX10_look_63 rfl rfl ?_
    refine ww_get (pc := 64) X (ref := "PictureBlockModel") (T := TX10) (j := 0) dX10_look_64 inX10_look_RX10 shzM_0 clzM_10 (by decide) rfl (List.mem_of_getElem? (i := 3) rfl) rfl ?_
    refine ww_aload_n (pc := 67) X (j := 0) dX10_look_67 rfl rfl ?_
    refine ww_get (pc := 68) X (ref := "PictureBlockModel") (T := TX10) (j := 2) dX10_look_68 inX10_look_RX10 shzM_0 clzM_10 (by decide) rfl (List.mem_of_getElem? (i := 1) rfl) rfl ?_
    refine ww_iald (pc := 71) X dX10_look_71 shzM_1 rfl hF (fun v3 ev3 bv3 hF => ?_)
    refine ww_goto (pc := 72) X (tgt := 76) dX10_look_72 (by decide) ?_
    exact ww_iret (pc := 76) X dX10_look_76 (fst_of hF) (snd_of hF)
set_option maxRecDepth 100000 in
set_option maxHeartbeats 4000000 in
theorem wjX10_look_39 {M : gM} {G : gG} {out : Int32 × gS} (X : gX M G zM cX10_look RX10 1 wsX10_look rmX10_look (some .int)) (σ : gS) (rec0 : gS → Option (Int32 × gS)) (ih0 : ∀ (σ1 : gS), rec0 σ1 = some out → WW M (gQi M G zM out.1 out.2) G zM 1 σ1 0 [(0, .ref (G.2.1 0))] []) (hF : jX10_look_39 σ rec0 = some out) : WW M (gQi M G zM out.1 out.2) G zM 1 σ 39 [(0, .ref (G.2.1 0))] [] := by
  unfold jX10_look_39 at hF
  refine ww_aload_n (pc := 39) X (j := 0) dX10_look_39 rfl rfl ?_
  refine ww_dup (pc := 40) X dX10_look_40 rfl ?_
  refine ww_get (pc := 41) X (ref := "PictureBlockModel") (T := TX10) (j := 2) dX10_look_41 inX10_look_RX10 shzM_0 clzM_10 (by decide) rfl (List.mem_of_getElem? (i := 1) rfl) rfl ?_
  refine ww_iconst (pc := 44) X (v := 1) dX10_look_44 (by decide) ?_
  refine ww_iadd (pc := 45) X dX10_look_45 ?_
  refine ww_putI (pc := 46) X (ref := "PictureBlockModel") (T := TX10) (j := 2) dX10_look_46 inX10_look_RX10 tyX10 tyX10_ok nmX10 shzM_0 clzM_10 (by decide) rfl (List.mem_of_getElem? (i := 1) rfl) rfl rfl (by decide +kernel) hF (fun σ6 eσ6 hF => ?_)
  refine ww_goto (pc := 49) X (tgt := 0) dX10_look_49 (by decide) ?_
  exact ww_sub [0] rfl (ih0  σ6 hF)
set_option maxRecDepth 100000 in
set_option maxHeartbeats 4000000 in
theorem wbX10_look_0 {M : gM} {G : gG} {out : Int32 × gS} (X : gX M G zM cX10_look RX10 1 wsX10_look rmX10_look (some .int)) (σ : gS) (rec0 : gS → Option (Int32 × gS)) (ih0 : ∀ (σ1 : gS), rec0 σ1 = some out → WW M (gQi M G zM out.1 out.2) G zM 1 σ1 0 [(0, .ref (G.2.1 0))] []) (σ1 : gS) (hF : bX10_look_0 σ rec0 σ1 = some out) : WW M (gQi M G zM out.1 out.2) G zM 1 σ1 0 [(0, .ref (G.2.1 0))] [] := by
  unfold bX10_look_0 at hF
  refine ww_aload_n (pc := 0) X (j := 0) dX10_look_0 rfl rfl ?_
  refine ww_get (pc := 1) X (ref := "PictureBlockModel") (T := TX10) (j := 2) dX10_look_1 inX10_look_RX10 shzM_0 clzM_10 (by decide) rfl (List.mem_of_getElem? (i := 1) rfl) rfl ?_
  refine ww_aload_n (pc := 4) X (j := 0) dX10_look_4 rfl rfl ?_
  refine ww_get (pc := 5) X (ref := "PictureBlockModel") (T := TX10) (j := 3) dX10_look_5 inX10_look_RX10 shzM_0 clzM_10 (by decide) rfl (List.mem_of_getElem? (i := 2) rfl) rfl ?_
  refine ww_icmp_ge (pc := 8) (tgt := 52) X dX10_look_8 (by decide) hF (fun h1 hF => ?_) (fun h1 hF => ?_)
  · exact ww_sub [0] rfl (wjX10_look_52 X σ1 hF)
  · refine ww_aload_n (pc := 11) X (j := 0) dX10_look_11 rfl rfl ?_
    refine ww_get (pc := 12) X (ref := "PictureBlockModel") (T := TX10) (j := 0) dX10_look_12 inX10_look_RX10 shzM_0 clzM_10 (by decide) rfl (List.mem_of_getElem? (i := 3) rfl) rfl ?_
    refine ww_aload_n (pc := 15) X (j := 0) dX10_look_15 rfl rfl ?_
    refine ww_get (pc := 16) X (ref := "PictureBlockModel") (T := TX10) (j := 2) dX10_look_16 inX10_look_RX10 shzM_0 clzM_10 (by decide) rfl (List.mem_of_getElem? (i := 1) rfl) rfl ?_
    refine ww_iald (pc := 19) X dX10_look_19 shzM_1 rfl hF (fun v4 ev4 bv4 hF => ?_)
    refine ww_bipush (pc := 20) X (v := 10) dX10_look_20 (by decide) ?_
    refine ww_icmp_eq (pc := 22) (tgt := 39) X dX10_look_22 (by decide) hF (fun h5 hF => ?_) (fun h5 hF => ?_)
    · exact ww_sub [0] rfl (wjX10_look_39 X σ1 rec0 ih0 hF)
    · refine ww_aload_n (pc := 25) X (j := 0) dX10_look_25 rfl rfl ?_
      refine ww_get (pc := 26) X (ref := "PictureBlockModel") (T := TX10) (j := 0) dX10_look_26 inX10_look_RX10 shzM_0 clzM_10 (by decide) rfl (List.mem_of_getElem? (i := 3) rfl) rfl ?_
      refine ww_aload_n (pc := 29) X (j := 0) dX10_look_29 rfl rfl ?_
      refine ww_get (pc := 30) X (ref := "PictureBlockModel") (T := TX10) (j := 2) dX10_look_30 inX10_look_RX10 shzM_0 clzM_10 (by decide) rfl (List.mem_of_getElem? (i := 1) rfl) rfl ?_
      refine ww_iald (pc := 33) X dX10_look_33 shzM_1 rfl hF (fun v7 ev7 bv7 hF => ?_)
      refine ww_bipush (pc := 34) X (v := 32) dX10_look_34 (by decide) ?_
      refine ww_icmp_ne (pc := 36) (tgt := 52) X dX10_look_36 (by decide) hF (fun h8 hF => ?_) (fun h8 hF => ?_)
      · exact ww_sub [0] rfl (wjX10_look_52 X σ1 hF)
      · exact ww_sub [0] rfl (wjX10_look_39 X σ1 rec0 ih0 hF)
set_option maxRecDepth 100000 in
set_option maxHeartbeats 4000000 in
theorem wX10_look {M : gM} {G : gG} {out : Int32 × gS} (X : gX M G zM cX10_look RX10 1 wsX10_look rmX10_look (some .int)) (σ : gS) (hF : fX10_look σ = some out) : WW M (gQi M G zM out.1 out.2) G zM 1 σ 0 [(0, .ref (G.2.1 0))] [] := by
  unfold fX10_look at hF
  exact ww_sub [0] rfl (lpc_ind (P := (fun (s : gS) => WW M (gQi M G zM out.1 out.2) G zM 1 s 0 [(0, .ref (G.2.1 0))] [])) (fun rec s ih hF => wbX10_look_0 X σ (fun σ1 => rec (σ1)) (fun σ1 h => ih (σ1) h) s hF) K9 (σ) hF)
set_option maxRecDepth 100000 in
set_option maxHeartbeats 4000000 in
theorem kX10_look (l : Launch) (G : gG) (hG : gOK G zM.1) (hT : G.2.2.1.map (fun q => q.2) = zM.2.1) (σ : gS) (out : Int32 × gS) (hF : fX10_look σ = some out) : gCi l yX10_look wsX10_look rmX10_look G zM [.ref (G.2.1 0)] σ out.1 out.2 :=
  gEnter (by decide) rfl ⟨rfl, rfl⟩ hG hT (Nat.le_of_ble_eq_true rfl) rfl (fun M X hl => wX10_look X σ hF)
noncomputable def fX10_isLetter (σ : gS) (p0 : Int32) : Option (Int32) :=
  if p0 < 97 then some 0 else if 122 < p0 then some 0 else some 1
noncomputable abbrev rmX10_isLetter : Room := { frames := 0, cells := 0, slots := 0, locals := 0 }
set_option maxRecDepth 100000 in
set_option maxHeartbeats 4000000 in
theorem wX10_isLetter {M : gM} {G : gG} {out : Int32} (X : gX M G zM cX10_isLetter RX10 1 wsX10_isLetter rmX10_isLetter (some .boolean)) (σ : gS) (p0 : Int32) (hF : fX10_isLetter σ p0 = some out) : WW M (gQi M G zM out σ) G zM 1 σ 0 [(0, .int p0)] [] := by
  unfold fX10_isLetter at hF
  refine ww_iload_n (pc := 0) X (j := 0) dX10_isLetter_0 rfl rfl ?_
  refine ww_bipush (pc := 1) X (v := 97) dX10_isLetter_1 (by decide) ?_
  refine ww_icmp_lt (pc := 3) (tgt := 16) X dX10_isLetter_3 (by decide) hF (fun h1 hF => ?_) (fun h1 hF => ?_)
  · refine ww_iconst (pc := 16) X (v := 0) dX10_isLetter_16 (by decide) ?_
    exact ww_zret (pc := 17) X dX10_isLetter_17 (by cases hF; rfl) rfl
  · refine ww_iload_n (pc := 6) X (j := 0) dX10_isLetter_6 rfl rfl ?_
    refine ww_bipush (pc := 7) X (v := 122) dX10_isLetter_7 (by decide) ?_
    refine ww_icmp_gt (pc := 9) (tgt := 16) X dX10_isLetter_9 (by decide) hF (fun h2 hF => ?_) (fun h2 hF => ?_)
    · refine ww_iconst (pc := 16) X (v := 0) dX10_isLetter_16 (by decide) ?_
      exact ww_zret (pc := 17) X dX10_isLetter_17 (by cases hF; rfl) rfl
    · refine ww_iconst (pc := 12) X (v := 1) dX10_isLetter_12 (by decide) ?_
      refine ww_goto (pc := 13) X (tgt := 17) dX10_isLetter_13 (by decide) ?_
      exact ww_zret (pc := 17) X dX10_isLetter_17 (by cases hF; rfl) rfl
set_option maxRecDepth 100000 in
set_option maxHeartbeats 4000000 in
theorem kX10_isLetter (l : Launch) (G : gG) (hG : gOK G zM.1) (hT : G.2.2.1.map (fun q => q.2) = zM.2.1) (σ : gS) (p0 : Int32) (out : Int32) (hF : fX10_isLetter σ p0 = some out) : gCi l yX10_isLetter wsX10_isLetter rmX10_isLetter G zM [.int p0] σ out σ :=
  gEnter (by decide) rfl ⟨rfl, rfl⟩ hG hT (Nat.le_of_ble_eq_true rfl) rfl (fun M X hl => wX10_isLetter X σ p0 hF)
noncomputable def bX10_isHere_76 (σ : gS) (c76_1 : Nat) (rec76 : Int32 → Option (Int32 × gS)) (a3 : Int32) : Option (Int32 × gS) :=
  gd (gis zM.1 0 1 c76_1) <| (if (Int32.ofNat (gsz zM.1 0 1 c76_1)) ≤ a3 then some (1, σ) else gd (gb ((σ.1 0 2) + a3) 1600) <| nm (σ.1 1 ((σ.1 0 2) + a3).toNatClampNeg) fun v16 => gd (gb a3 (gsz zM.1 0 1 c76_1)) <| nm (σ.1 c76_1 a3.toNatClampNeg) fun v17 => (if v16 = v17 then nm (a3 + 1 : Int32) fun x19 => rec76 x19 else some (0, σ)))
noncomputable def jX10_isHere_61 (σ : gS) (a1 : Nat) (a2 : Int32) : Option (Int32 × gS) :=
  gd (gis zM.1 0 1 a1) <| (if (a2 - (σ.1 0 2)) = (Int32.ofNat (gsz zM.1 0 1 a1)) then nm (0 : Int32) fun x13 => lpc (S := Int32) K9 (fun rec s => bX10_isHere_76 σ a1 (fun a3 => rec (a3)) s) (x13) else some (0, σ))
noncomputable def bX10_isHere_35 (σ : gS) (c35_1 : Nat) (rec35 : Int32 → Option (Int32 × gS)) (a2 : Int32) : Option (Int32 × gS) :=
  if (σ.1 0 3) ≤ a2 then jX10_isHere_61 σ c35_1 a2 else gd (gb a2 1600) <| nm (σ.1 1 a2.toNatClampNeg) fun v20 => bd (fX10_isLetter σ v20) fun r22 => (if r22 = 0 then jX10_isHere_61 σ c35_1 a2 else nm (a2 + 1 : Int32) fun x24 => rec35 x24)
noncomputable def fX10_isHere (σ : gS) (p1 : Nat) : Option (Int32 × gS) :=
  if (σ.1 0 5) = 0 then bd2 (fX10_look σ) fun r3 σ4 => bd (fX10_isLetter σ4 r3) fun r6 => (if r6 = 0 then some (0, σ4) else if (σ4.1 0 2) = (σ4.1 0 4) then some (0, σ4) else nm (σ4.1 0 2 : Int32) fun x9 => lpc (S := Int32) K9 (fun rec s => bX10_isHere_35 σ4 p1 (fun a2 => rec (a2)) s) (x9)) else some (0, σ)
noncomputable abbrev rmX10_isHere : Room := { frames := 1, cells := 0, slots := 0, locals := 20 }
set_option maxRecDepth 100000 in
set_option maxHeartbeats 4000000 in
theorem wbX10_isHere_76 {M : gM} {G : gG} {out : Int32 × gS} (X : gX M G zM cX10_isHere RX10 4 wsX10_isHere rmX10_isHere (some .boolean)) (σ : gS) (c76_1 : Nat) (rec76 : Int32 → Option (Int32 × gS)) (ih76 : ∀ (a3 : Int32), rec76 a3 = some out → WW M (gQi M G zM out.1 out.2) G zM 4 σ 76 [(0, .ref (G.2.1 0)), (1, .ref (G.2.1 c76_1)), (3, .int a3)] []) (a3 : Int32) (hF : bX10_isHere_76 σ c76_1 rec76 a3 = some out) : WW M (gQi M G zM out.1 out.2) G zM 4 σ 76 [(0, .ref (G.2.1 0)), (1, .ref (G.2.1 c76_1)), (3, .int a3)] [] := by
  unfold bX10_isHere_76 at hF
  refine ww_iload_n (pc := 76) X (j := 2) dX10_isHere_76 rfl rfl ?_
  refine ww_aload_n (pc := 77) X (j := 1) dX10_isHere_77 rfl rfl ?_
  refine ww_alenS (pc := 78) X (by decide) dX10_isHere_78 (t := 1) rfl hF (fun h14 hF => ?_)
  refine ww_icmp_ge (pc := 79) (tgt := 107) X dX10_isHere_79 (by decide) hF (fun h15 hF => ?_) (fun h15 hF => ?_)
  · refine ww_iconst (pc := 107) X (v := 1) dX10_isHere_107 (by decide) ?_
    exact ww_zret (pc := 108) X dX10_isHere_108 (by cases hF; rfl) (by cases hF; rfl)
  · refine ww_aload_n (pc := 82) X (j := 0) dX10_isHere_82 rfl rfl ?_
    refine ww_get (pc := 83) X (ref := "PictureBlockModel") (T := TX10) (j := 0) dX10_isHere_83 inX10_isHere_RX10 shzM_0 clzM_10 (by decide) rfl (List.mem_of_getElem? (i := 5) rfl) rfl ?_
    refine ww_aload_n (pc := 86) X (j := 0) dX10_isHere_86 rfl rfl ?_
    refine ww_get (pc := 87) X (ref := "PictureBlockModel") (T := TX10) (j := 2) dX10_isHere_87 inX10_isHere_RX10 shzM_0 clzM_10 (by decide) rfl (List.mem_of_getElem? (i := 2) rfl) rfl ?_
    refine ww_iload_n (pc := 90) X (j := 2) dX10_isHere_90 rfl rfl ?_
    refine ww_iadd (pc := 91) X dX10_isHere_91 ?_
    refine ww_iald (pc := 92) X dX10_isHere_92 shzM_1 rfl hF (fun v16 ev16 bv16 hF => ?_)
    refine ww_aload_n (pc := 93) X (j := 1) dX10_isHere_93 rfl rfl ?_
    refine ww_iload_n (pc := 94) X (j := 2) dX10_isHere_94 rfl rfl ?_
    refine ww_caldS (pc := 95) X dX10_isHere_95  (t := 1) rfl hF (fun v17 ev17 bv17 hF => ?_)
    refine ww_icmp_eq (pc := 96) (tgt := 101) X dX10_isHere_96 (by decide) hF (fun h18 hF => ?_) (fun h18 hF => ?_)
    · refine ww_iinc (pc := 101) X (j := 2) (v := 1) (lv' := [(0, .ref (G.2.1 0)), (1, .ref (G.2.1 c76_1))]) dX10_isHere_101 rfl rfl (by decide) rfl hF (fun x19 ex19 hF => ?_)
      refine ww_goto (pc := 104) X (tgt := 76) dX10_isHere_104 (by decide) ?_
      exact ww_sub [1, 2, 0] rfl (ih76 x19 hF)
    · refine ww_iconst (pc := 99) X (v := 0) dX10_isHere_99 (by decide) ?_
      exact ww_zret (pc := 100) X dX10_isHere_100 (by cases hF; rfl) (by cases hF; rfl)
set_option maxRecDepth 100000 in
set_option maxHeartbeats 4000000 in
theorem wjX10_isHere_61 {M : gM} {G : gG} {out : Int32 × gS} (X : gX M G zM cX10_isHere RX10 4 wsX10_isHere rmX10_isHere (some .boolean)) (σ : gS) (a1 : Nat) (a2 : Int32) (hF : jX10_isHere_61 σ a1 a2 = some out) : WW M (gQi M G zM out.1 out.2) G zM 4 σ 61 [(0, .ref (G.2.1 0)), (1, .ref (G.2.1 a1)), (2, .int a2)] [] := by
  unfold jX10_isHere_61 at hF
  refine ww_iload_n (pc := 61) X (j := 2) dX10_isHere_61 rfl rfl ?_
  refine ww_aload_n (pc := 62) X (j := 0) dX10_isHere_62 rfl rfl ?_
  refine ww_get (pc := 63) X (ref := "PictureBlockModel") (T := TX10) (j := 2) dX10_isHere_63 inX10_isHere_RX10 shzM_0 clzM_10 (by decide) rfl (List.mem_of_getElem? (i := 2) rfl) rfl ?_
  refine ww_isub (pc := 66) X dX10_isHere_66 ?_
  refine ww_aload_n (pc := 67) X (j := 1) dX10_isHere_67 rfl rfl ?_
  refine ww_alenS (pc := 68) X (by decide) dX10_isHere_68 (t := 1) rfl hF (fun h11 hF => ?_)
  refine ww_icmp_eq (pc := 69) (tgt := 74) X dX10_isHere_69 (by decide) hF (fun h12 hF => ?_) (fun h12 hF => ?_)
  · refine ww_iconst (pc := 74) X (v := 0) dX10_isHere_74 (by decide) ?_
    refine ww_istore_n (pc := 75) X (lv' := [(0, .ref (G.2.1 0)), (1, .ref (G.2.1 a1)), (2, .int a2)]) dX10_isHere_75 rfl (by decide) rfl hF (fun x13 ex13 hF => ?_)
    exact ww_sub [1, 2, 0] rfl (lpc_ind (P := (fun (s : Int32) => WW M (gQi M G zM out.1 out.2) G zM 4 σ 76 [(0, .ref (G.2.1 0)), (1, .ref (G.2.1 a1)), (3, .int s)] [])) (fun rec s ih hF => wbX10_isHere_76 X σ a1 (fun a3 => rec (a3)) (fun a3 h => ih (a3) h) s hF) K9 (x13) hF)
  · refine ww_iconst (pc := 72) X (v := 0) dX10_isHere_72 (by decide) ?_
    exact ww_zret (pc := 73) X dX10_isHere_73 (by cases hF; rfl) (by cases hF; rfl)
set_option maxRecDepth 100000 in
set_option maxHeartbeats 4000000 in
theorem wbX10_isHere_35 {M : gM} {G : gG} {out : Int32 × gS} (X : gX M G zM cX10_isHere RX10 4 wsX10_isHere rmX10_isHere (some .boolean)) (σ : gS) (c35_1 : Nat) (rec35 : Int32 → Option (Int32 × gS)) (ih35 : ∀ (a2 : Int32), rec35 a2 = some out → WW M (gQi M G zM out.1 out.2) G zM 4 σ 35 [(0, .ref (G.2.1 0)), (1, .ref (G.2.1 c35_1)), (2, .int a2)] []) (a2 : Int32) (hF : bX10_isHere_35 σ c35_1 rec35 a2 = some out) : WW M (gQi M G zM out.1 out.2) G zM 4 σ 35 [(0, .ref (G.2.1 0)), (1, .ref (G.2.1 c35_1)), (2, .int a2)] [] := by
  unfold bX10_isHere_35 at hF
  refine ww_iload_n (pc := 35) X (j := 2) dX10_isHere_35 rfl rfl ?_
  refine ww_aload_n (pc := 36) X (j := 0) dX10_isHere_36 rfl rfl ?_
  refine ww_get (pc := 37) X (ref := "PictureBlockModel") (T := TX10) (j := 3) dX10_isHere_37 inX10_isHere_RX10 shzM_0 clzM_10 (by decide) rfl (List.mem_of_getElem? (i := 4) rfl) rfl ?_
  refine ww_icmp_ge (pc := 40) (tgt := 61) X dX10_isHere_40 (by decide) hF (fun h10 hF => ?_) (fun h10 hF => ?_)
  · exact ww_sub [0, 1, 2] rfl (wjX10_isHere_61 X σ c35_1 a2 hF)
  · refine ww_aload_n (pc := 43) X (j := 0) dX10_isHere_43 rfl rfl ?_
    refine ww_get (pc := 44) X (ref := "PictureBlockModel") (T := TX10) (j := 0) dX10_isHere_44 inX10_isHere_RX10 shzM_0 clzM_10 (by decide) rfl (List.mem_of_getElem? (i := 5) rfl) rfl ?_
    refine ww_iload_n (pc := 47) X (j := 2) dX10_isHere_47 rfl rfl ?_
    refine ww_iald (pc := 48) X dX10_isHere_48 shzM_1 rfl hF (fun v20 ev20 bv20 hF => ?_)
    obtain ⟨r22, h21, hF⟩ := bd_some hF
    refine ww_callSi (pc := 49) X (As := [.int v20]) (rest := []) dX10_isHere_49 (kX10_isLetter (mL M) G X.2.2.2.2.2.2.1 X.2.2.2.2.2.2.2.1 σ v20 r22 h21) rfl gX10_isHere_X10_isLetter hyX10_isLetter ⟨rfl, rfl⟩ ⟨Nat.le_of_ble_eq_true rfl, Nat.le_of_ble_eq_true rfl⟩ rfl rfl (Nat.le_of_ble_eq_true rfl) ?_
    refine ww_if_eq (pc := 52) (tgt := 61) X dX10_isHere_52 (by decide) hF (fun h23 hF => ?_) (fun h23 hF => ?_)
    · exact ww_sub [0, 1, 2] rfl (wjX10_isHere_61 X σ c35_1 a2 hF)
    · refine ww_iinc (pc := 55) X (j := 2) (v := 1) (lv' := [(0, .ref (G.2.1 0)), (1, .ref (G.2.1 c35_1))]) dX10_isHere_55 rfl rfl (by decide) rfl hF (fun x24 ex24 hF => ?_)
      refine ww_goto (pc := 58) X (tgt := 35) dX10_isHere_58 (by decide) ?_
      exact ww_sub [1, 2, 0] rfl (ih35 x24 hF)
set_option maxRecDepth 100000 in
set_option maxHeartbeats 4000000 in
theorem wX10_isHere {M : gM} {G : gG} {out : Int32 × gS} (X : gX M G zM cX10_isHere RX10 4 wsX10_isHere rmX10_isHere (some .boolean)) (σ : gS) (p1 : Nat) (hF : fX10_isHere σ p1 = some out) : WW M (gQi M G zM out.1 out.2) G zM 4 σ 0 [(0, .ref (G.2.1 0)), (1, .ref (G.2.1 p1))] [] := by
  unfold fX10_isHere at hF
  refine ww_aload_n (pc := 0) X (j := 0) dX10_isHere_0 rfl rfl ?_
  refine ww_get (pc := 1) X (ref := "PictureBlockModel") (T := TX10) (j := 5) dX10_isHere_1 inX10_isHere_RX10 shzM_0 clzM_10 (by decide) rfl (List.mem_of_getElem? (i := 1) rfl) rfl ?_
  refine ww_if_ne (pc := 4) (tgt := 28) X dX10_isHere_4 (by decide) hF (fun h1 hF => ?_) (fun h1 hF => ?_)
  · refine ww_iconst (pc := 28) X (v := 0) dX10_isHere_28 (by decide) ?_
    exact ww_zret (pc := 29) X dX10_isHere_29 (by cases hF; rfl) (by cases hF; rfl)
  · refine ww_aload_n (pc := 7) X (j := 0) dX10_isHere_7 rfl rfl ?_
    obtain ⟨r3, σ4, h2, hF⟩ := bd2_some hF
    refine ww_callVi (pc := 8) X (As := []) (rest := []) dX10_isHere_8 (kX10_look (mL M) G X.2.2.2.2.2.2.1 X.2.2.2.2.2.2.2.1 σ (r3, σ4) h2) rfl shzM_0 clzM_10 gX10_isHere_X10_look hyX10_look ⟨rfl, rfl⟩ ⟨Nat.le_of_ble_eq_true rfl, Nat.le_of_ble_eq_true rfl⟩ rfl rfl (Nat.le_of_ble_eq_true rfl) ?_
    obtain ⟨r6, h5, hF⟩ := bd_some hF
    refine ww_callSi (pc := 11) X (As := [.int r3]) (rest := []) dX10_isHere_11 (kX10_isLetter (mL M) G X.2.2.2.2.2.2.1 X.2.2.2.2.2.2.2.1 σ4 r3 r6 h5) rfl gX10_isHere_X10_isLetter hyX10_isLetter ⟨rfl, rfl⟩ ⟨Nat.le_of_ble_eq_true rfl, Nat.le_of_ble_eq_true rfl⟩ rfl rfl (Nat.le_of_ble_eq_true rfl) ?_
    refine ww_if_eq (pc := 14) (tgt := 28) X dX10_isHere_14 (by decide) hF (fun h7 hF => ?_) (fun h7 hF => ?_)
    · refine ww_iconst (pc := 28) X (v := 0) dX10_isHere_28 (by decide) ?_
      exact ww_zret (pc := 29) X dX10_isHere_29 (by cases hF; rfl) (by cases hF; rfl)
    · refine ww_aload_n (pc := 17) X (j := 0) dX10_isHere_17 rfl rfl ?_
      refine ww_get (pc := 18) X (ref := "PictureBlockModel") (T := TX10) (j := 2) dX10_isHere_18 inX10_isHere_RX10 shzM_0 clzM_10 (by decide) rfl (List.mem_of_getElem? (i := 2) rfl) rfl ?_
      refine ww_aload_n (pc := 21) X (j := 0) dX10_isHere_21 rfl rfl ?_
      refine ww_get (pc := 22) X (ref := "PictureBlockModel") (T := TX10) (j := 4) dX10_isHere_22 inX10_isHere_RX10 shzM_0 clzM_10 (by decide) rfl (List.mem_of_getElem? (i := 3) rfl) rfl ?_
      refine ww_icmp_ne (pc := 25) (tgt := 30) X dX10_isHere_25 (by decide) hF (fun h8 hF => ?_) (fun h8 hF => ?_)
      · refine ww_aload_n (pc := 30) X (j := 0) dX10_isHere_30 rfl rfl ?_
        refine ww_get (pc := 31) X (ref := "PictureBlockModel") (T := TX10) (j := 2) dX10_isHere_31 inX10_isHere_RX10 shzM_0 clzM_10 (by decide) rfl (List.mem_of_getElem? (i := 2) rfl) rfl ?_
        refine ww_istore_n (pc := 34) X (lv' := [(0, .ref (G.2.1 0)), (1, .ref (G.2.1 p1))]) dX10_isHere_34 rfl (by decide) rfl hF (fun x9 ex9 hF => ?_)
        exact ww_sub [1, 2, 0] rfl (lpc_ind (P := (fun (s : Int32) => WW M (gQi M G zM out.1 out.2) G zM 4 σ4 35 [(0, .ref (G.2.1 0)), (1, .ref (G.2.1 p1)), (2, .int s)] [])) (fun rec s ih hF => wbX10_isHere_35 X σ4 p1 (fun a2 => rec (a2)) (fun a2 h => ih (a2) h) s hF) K9 (x9) hF)
      · refine ww_iconst (pc := 28) X (v := 0) dX10_isHere_28 (by decide) ?_
        exact ww_zret (pc := 29) X dX10_isHere_29 (by cases hF; rfl) (by cases hF; rfl)
set_option maxRecDepth 100000 in
set_option maxHeartbeats 4000000 in
theorem kX10_isHere (l : Launch) (G : gG) (hG : gOK G zM.1) (hT : G.2.2.1.map (fun q => q.2) = zM.2.1) (σ : gS) (p1 : Nat) (out : Int32 × gS) (hF : fX10_isHere σ p1 = some out) : gCi l yX10_isHere wsX10_isHere rmX10_isHere G zM [.ref (G.2.1 0), .ref (G.2.1 p1)] σ out.1 out.2 :=
  gEnter (by decide) rfl ⟨rfl, rfl⟩ hG hT (Nat.le_of_ble_eq_true rfl) rfl (fun M X hl => wX10_isHere X σ p1 hF)
