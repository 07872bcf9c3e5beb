noncomputable def jX10_isFull_23 (σ : gS) : Option (Int32 × gS) :=
  if (σ.1 0 5) = 0 then some (0, σ) else some (1, σ)
noncomputable def fX10_isFull (σ : gS) (p1 : Int32) (p2 : Int32) (p3 : Int32) : Option (Int32 × gS) :=
  if (σ.1 0 5) = 0 then gd (gb p1 12) <| nm (σ.1 15 p1.toNatClampNeg) fun v3 => (if v3 = p2 then bd (fX10_fail σ 4 p3) fun σ6 => jX10_isFull_23 σ6 else jX10_isFull_23 σ) else jX10_isFull_23 σ
noncomputable abbrev rmX10_isFull : Room := { frames := 1, cells := 0, slots := 0, locals := 22 }
set_option maxRecDepth 100000 in
set_option maxHeartbeats 4000000 in
theorem wjX10_isFull_23 {M : gM} {G : gG} {out : Int32 × gS} (X : gX M G zM cX10_isFull RX10 4 wsX10_isFull rmX10_isFull (some .boolean)) (σ : gS) (hF : jX10_isFull_23 σ = some out) : WW M (gQi M G zM out.1 out.2) G zM 4 σ 23 [(0, .ref (G.2.1 0))] [] := by
  unfold jX10_isFull_23 at hF
  refine ww_aload_n (pc := 23) X (j := 0) dX10_isFull_23 rfl rfl ?_
  refine ww_get (pc := 24) X (ref := "PictureBlockModel") (T := TX10) (j := 5) dX10_isFull_24 inX10_isFull_RX10 shzM_0 clzM_10 (by decide) rfl (List.mem_of_getElem? (i := 1) rfl) rfl ?_
  refine ww_if_eq (pc := 27) (tgt := 34) X dX10_isFull_27 (by decide) hF (fun h2 hF => ?_) (fun h2 hF => ?_)
  · refine ww_iconst (pc := 34) X (v := 0) dX10_isFull_34 (by decide) ?_
    exact ww_zret (pc := 35) X dX10_isFull_35 (by cases hF; rfl) (by cases hF; rfl)
  · refine ww_iconst (pc := 30) X (v := 1) dX10_isFull_30 (by decide) ?_
    refine ww_goto (pc := 31) X (tgt := 35) dX10_isFull_31 (by decide) ?_
    exact ww_zret (pc := 35) X dX10_isFull_35 (by cases hF; rfl) (by cases hF; rfl)
set_option maxRecDepth 100000 in
set_option maxHeartbeats 4000000 in
theorem wX10_isFull {M : gM} {G : gG} {out : Int32 × gS} (X : gX M G zM cX10_isFull RX10 4 wsX10_isFull rmX10_isFull (some .boolean)) (σ : gS) (p1 : Int32) (p2 : Int32) (p3 : Int32) (hF : fX10_isFull σ p1 p2 p3 = some out) : WW M (gQi M G zM out.1 out.2) G zM 4 σ 0 [(0, .ref (G.2.1 0)), (1, .int p1), (2, .int p2), (3, .int p3)] [] := by
  unfold fX10_isFull at hF
  refine ww_aload_n (pc := 0) X (j := 0) dX10_isFull_0 rfl rfl ?_
  refine ww_get (pc := 1) X (ref := "PictureBlockModel") (T := TX10) (j := 5) dX10_isFull_1 inX10_isFull_RX10 shzM_0 clzM_10 (by decide) rfl (List.mem_of_getElem? (i := 1) rfl) rfl ?_
  refine ww_if_ne (pc := 4) (tgt := 23) X dX10_isFull_4 (by decide) hF (fun h1 hF => ?_) (fun h1 hF => ?_)
  · exact ww_sub [0] rfl (wjX10_isFull_23 X σ hF)
  · refine ww_aload_n (pc := 7) X (j := 0) dX10_isFull_7 rfl rfl ?_
    refine ww_get (pc := 8) X (ref := "PictureBlockModel") (T := TX10) (j := 23) dX10_isFull_8 inX10_isFull_RX10 shzM_0 clzM_10 (by decide) rfl (List.mem_of_getElem? (i := 2) rfl) rfl ?_
    refine ww_iload_n (pc := 11) X (j := 1) dX10_isFull_11 rfl rfl ?_
    refine ww_iald (pc := 12) X dX10_isFull_12 shzM_15 rfl hF (fun v3 ev3 bv3 hF => ?_)
    refine ww_iload_n (pc := 13) X (j := 2) dX10_isFull_13 rfl rfl ?_
    refine ww_icmp_ne (pc := 14) (tgt := 23) X dX10_isFull_14 (by decide) hF (fun h4 hF => ?_) (fun h4 hF => ?_)
    · exact ww_sub [0] rfl (wjX10_isFull_23 X σ hF)
    · refine ww_aload_n (pc := 17) X (j := 0) dX10_isFull_17 rfl rfl ?_
      refine ww_iconst (pc := 18) X (v := 4) dX10_isFull_18 (by decide) ?_
      refine ww_iload_n (pc := 19) X (j := 3) dX10_isFull_19 rfl rfl ?_
      obtain ⟨σ6, h5, hF⟩ := bd_some hF
      refine ww_callVv (pc := 20) X (As := [.int 4, .int p3]) (rest := []) dX10_isFull_20 (kX10_fail (mL M) G X.2.2.2.2.2.2.1 X.2.2.2.2.2.2.2.1 σ 4 p3 σ6 h5) rfl shzM_0 clzM_10 gX10_isFull_X10_fail hyX10_fail ⟨rfl, rfl⟩ ⟨Nat.le_of_ble_eq_true rfl, Nat.le_of_ble_eq_true rfl⟩ rfl rfl (Nat.le_of_ble_eq_true rfl) ?_
      exact ww_sub [0] rfl (wjX10_isFull_23 X σ6 hF)
set_option maxRecDepth 100000 in
set_option maxHeartbeats 4000000 in
theorem kX10_isFull (l : Launch) (G : gG) (hG : gOK G zM.1) (hT : G.2.2.1.map (fun q => q.2) = zM.2.1) (σ : gS) (p1 : Int32) (p2 : Int32) (p3 : Int32) (out : Int32 × gS) (hF : fX10_isFull σ p1 p2 p3 = some out) : gCi l yX10_isFull wsX10_isFull rmX10_isFull G zM [.ref (G.2.1 0), .int p1, .int p2, .int p3] σ out.1 out.2 :=
  gEnter (by decide) rfl ⟨rfl, rfl⟩ hG hT (Nat.le_of_ble_eq_true rfl) rfl (fun M X hl => wX10_isFull X σ p1 p2 p3 hF)
noncomputable def jX10_controlTold_43 (σ : gS) (a2 : Int32) : Option (gS) :=
  bd (fX10_asks σ 9) fun σ11 => bd2 (fX10_number σ11 0 9999) fun r13 σ14 => nm (r13 : Int32) fun x15 => bd2 (fX10_number σ14 0 9999) fun r17 σ18 => nm (r17 : Int32) fun x19 => bd (fX10_asks σ18 12) fun σ21 => bd2 (fX10_number σ21 1 2) fun r23 σ24 => nm (r23 : Int32) fun x25 => (if (σ24.1 0 5) = 0 then gd (gb (2 * a2) 80) <| nm (gsI σ24 21 (2 * a2).toNatClampNeg x15) fun σ27 => gd (gb ((2 * a2) + 1) 80) <| nm (gsI σ27 21 ((2 * a2) + 1).toNatClampNeg x19) fun σ28 => gd (gb a2 40) <| nm (gsI σ28 20 a2.toNatClampNeg x25) fun σ29 => gd (gb 4 12) <| nm (σ29.1 15 ((4 : Int32).toNatClampNeg)) fun v30 => gd (gb 4 12) <| nm (gsI σ29 15 ((4 : Int32).toNatClampNeg) (v30 + 1)) fun σ31 => some σ31 else some σ24)
noncomputable def fX10_controlTold (σ : gS) (p1 : Int32) : Option (gS) :=
  bd2 (fX10_isFull σ 4 10 p1) fun r2 σ3 => (if r2 = 0 then bd2 (fX10_oneOf σ3 2) fun r6 σ7 => nm (r6 : Int32) fun x8 => (if (σ7.1 0 5) = 0 then gd (gb x8 40) <| nm (σ7.1 20 x8.toNatClampNeg) fun v32 => (if v32 = 0 then jX10_controlTold_43 σ7 x8 else bd (fX10_fail σ7 3 (σ7.1 0 21)) fun σ35 => jX10_controlTold_43 σ35 x8) else jX10_controlTold_43 σ7 x8) else some σ3)
noncomputable abbrev rmX10_controlTold : Room := { frames := 5, cells := 0, slots := 0, locals := 110 }
set_option maxRecDepth 100000 in
set_option maxHeartbeats 4000000 in
theorem wjX10_controlTold_43 {M : gM} {G : gG} {out : gS} (X : gX M G zM cX10_controlTold RX10 6 wsX10_controlTold rmX10_controlTold none) (σ : gS) (a2 : Int32) (hF : jX10_controlTold_43 σ a2 = some out) : WW M (gQv M G zM out) G zM 6 σ 43 [(0, .ref (G.2.1 0)), (2, .int a2)] [] := by
  unfold jX10_controlTold_43 at hF
  refine ww_aload_n (pc := 43) X (j := 0) dX10_controlTold_43 rfl rfl ?_
  refine ww_aload_n (pc := 44) X (j := 0) dX10_controlTold_44 rfl rfl ?_
  refine ww_get (pc := 45) X (ref := "PictureBlockModel") (T := TX10) (j := 16) dX10_controlTold_45 inX10_controlTold_RX10 shzM_0 clzM_10 (by decide) rfl (List.mem_of_getElem? (i := 4) rfl) rfl ?_
  obtain ⟨σ11, h10, hF⟩ := bd_some hF
  refine ww_callVv (pc := 48) X (As := [.ref (G.2.1 9)]) (rest := []) dX10_controlTold_48 (kX10_asks (mL M) G X.2.2.2.2.2.2.1 X.2.2.2.2.2.2.2.1 σ 9 σ11 h10) rfl shzM_0 clzM_10 gX10_controlTold_X10_asks hyX10_asks ⟨rfl, rfl⟩ ⟨Nat.le_of_ble_eq_true rfl, Nat.le_of_ble_eq_true rfl⟩ rfl rfl (Nat.le_of_ble_eq_true rfl) ?_
  refine ww_aload_n (pc := 51) X (j := 0) dX10_controlTold_51 rfl rfl ?_
  refine ww_iconst (pc := 52) X (v := 0) dX10_controlTold_52 (by decide) ?_
  refine ww_sipush (pc := 53) X (v := 9999) dX10_controlTold_53 (by decide) ?_
  obtain ⟨r13, σ14, h12, hF⟩ := bd2_some hF
  refine ww_callVi (pc := 56) X (As := [.int 0, .int 9999]) (rest := []) dX10_controlTold_56 (kX10_number (mL M) G X.2.2.2.2.2.2.1 X.2.2.2.2.2.2.2.1 σ11 0 9999 (r13, σ14) h12) rfl shzM_0 clzM_10 gX10_controlTold_X10_number hyX10_number ⟨rfl, rfl⟩ ⟨Nat.le_of_ble_eq_true rfl, Nat.le_of_ble_eq_true rfl⟩ rfl rfl (Nat.le_of_ble_eq_true rfl) ?_
  refine ww_istore_n (pc := 59) X (lv' := [(0, .ref (G.2.1 0)), (2, .int a2)]) dX10_controlTold_59 rfl (by decide) rfl hF (fun x15 ex15 hF => ?_)
  refine ww_aload_n (pc := 60) X (j := 1) dX10_controlTold_60 rfl rfl ?_
  refine ww_iconst (pc := 61) X (v := 0) dX10_controlTold_61 (by decide) ?_
  refine ww_sipush (pc := 62) X (v := 9999) dX10_controlTold_62 (by decide) ?_
  obtain ⟨r17, σ18, h16, hF⟩ := bd2_some hF
  refine ww_callVi (pc := 65) X (As := [.int 0, .int 9999]) (rest := []) dX10_controlTold_65 (kX10_number (mL M) G X.2.2.2.2.2.2.1 X.2.2.2.2.2.2.2.1 σ14 0 9999 (r17, σ18) h16) rfl shzM_0 clzM_10 gX10_controlTold_X10_number hyX10_number ⟨rfl, rfl⟩ ⟨Nat.le_of_ble_eq_true rfl, Nat.le_of_ble_eq_true rfl⟩ rfl rfl (Nat.le_of_ble_eq_true rfl) ?_
  refine ww_istore (pc := 68) X (lv' := [(3, .int x15), (0, .ref (G.2.1 0)), (2, .int a2)]) dX10_controlTold_68 (by decide) rfl hF (fun x19 ex19 hF => ?_)
  refine ww_aload_n (pc := 70) X (j := 2) dX10_controlTold_70 rfl rfl ?_
  refine ww_aload_n (pc := 71) X (j := 2) dX10_controlTold_71 rfl rfl ?_
  refine ww_get (pc := 72) X (ref := "PictureBlockModel") (T := TX10) (j := 19) dX10_controlTold_72 inX10_controlTold_RX10 shzM_0 clzM_10 (by decide) rfl (List.mem_of_getElem? (i := 5) rfl) rfl ?_
  obtain ⟨σ21, h20, hF⟩ := bd_some hF
  refine ww_callVv (pc := 75) X (As := [.ref (G.2.1 12)]) (rest := []) dX10_controlTold_75 (kX10_asks (mL M) G X.2.2.2.2.2.2.1 X.2.2.2.2.2.2.2.1 σ18 12 σ21 h20) rfl shzM_0 clzM_10 gX10_controlTold_X10_asks hyX10_asks ⟨rfl, rfl⟩ ⟨Nat.le_of_ble_eq_true rfl, Nat.le_of_ble_eq_true rfl⟩ rfl rfl (Nat.le_of_ble_eq_true rfl) ?_
  refine ww_aload_n (pc := 78) X (j := 2) dX10_controlTold_78 rfl rfl ?_
  refine ww_iconst (pc := 79) X (v := 1) dX10_controlTold_79 (by decide) ?_
  refine ww_iconst (pc := 80) X (v := 2) dX10_controlTold_80 (by decide) ?_
  obtain ⟨r23, σ24, h22, hF⟩ := bd2_some hF
  refine ww_callVi (pc := 81) X (As := [.int 1, .int 2]) (rest := []) dX10_controlTold_81 (kX10_number (mL M) G X.2.2.2.2.2.2.1 X.2.2.2.2.2.2.2.1 σ21 1 2 (r23, σ24) h22) rfl shzM_0 clzM_10 gX10_controlTold_X10_number hyX10_number ⟨rfl, rfl⟩ ⟨Nat.le_of_ble_eq_true rfl, Nat.le_of_ble_eq_true rfl⟩ rfl rfl (Nat.le_of_ble_eq_true rfl) ?_
  refine ww_istore (pc := 84) X (lv' := [(4, .int x19), (3, .int x15), (0, .ref (G.2.1 0)), (2, .int a2)]) dX10_controlTold_84 (by decide) rfl hF (fun x25 ex25 hF => ?_)
  refine ww_aload_n (pc := 86) X (j := 3) dX10_controlTold_86 rfl rfl ?_
  refine ww_get (pc := 87) X (ref := "PictureBlockModel") (T := TX10) (j := 5) dX10_controlTold_87 inX10_controlTold_RX10 shzM_0 clzM_10 (by decide) rfl (List.mem_of_getElem? (i := 1) rfl) rfl ?_
  refine ww_if_eq (pc := 90) (tgt := 94) X dX10_controlTold_90 (by decide) hF (fun h26 hF => ?_) (fun h26 hF => ?_)
  · refine ww_aload_n (pc := 94) X (j := 3) dX10_controlTold_94 rfl rfl ?_
    refine ww_get (pc := 95) X (ref := "PictureBlockModel") (T := TX10) (j := 29) dX10_controlTold_95 inX10_controlTold_RX10 shzM_0 clzM_10 (by decide) rfl (List.mem_of_getElem? (i := 6) rfl) rfl ?_
    refine ww_iconst (pc := 98) X (v := 2) dX10_controlTold_98 (by decide) ?_
    refine ww_iload_n (pc := 99) X (j := 4) dX10_controlTold_99 rfl rfl ?_
    refine ww_imul (pc := 100) X dX10_controlTold_100 ?_
    refine ww_iload_n (pc := 101) X (j := 2) dX10_controlTold_101 rfl rfl ?_
    refine ww_iast (pc := 102) X dX10_controlTold_102 shzM_21 rfl hF (fun σ27 eσ27 bσ27 hF => ?_)
    refine ww_aload_n (pc := 103) X (j := 3) dX10_controlTold_103 rfl rfl ?_
    refine ww_get (pc := 104) X (ref := "PictureBlockModel") (T := TX10) (j := 29) dX10_controlTold_104 inX10_controlTold_RX10 shzM_0 clzM_10 (by decide) rfl (List.mem_of_getElem? (i := 6) rfl) rfl ?_
    refine ww_iconst (pc := 107) X (v := 2) dX10_controlTold_107 (by decide) ?_
    refine ww_iload_n (pc := 108) X (j := 4) dX10_controlTold_108 rfl rfl ?_
    refine ww_imul (pc := 109) X dX10_controlTold_109 ?_
    refine ww_iconst (pc := 110) X (v := 1) dX10_controlTold_110 (by decide) ?_
    refine ww_iadd (pc := 111) X dX10_controlTold_111 ?_
    refine ww_iload (pc := 112) X (j := 1) dX10_controlTold_112 rfl ?_
    refine ww_iast (pc := 114) X dX10_controlTold_114 shzM_21 rfl hF (fun σ28 eσ28 bσ28 hF => ?_)
    refine ww_aload_n (pc := 115) X (j := 3) dX10_controlTold_115 rfl rfl ?_
    refine ww_get (pc := 116) X (ref := "PictureBlockModel") (T := TX10) (j := 28) dX10_controlTold_116 inX10_controlTold_RX10 shzM_0 clzM_10 (by decide) rfl (List.mem_of_getElem? (i := 2) rfl) rfl ?_
    refine ww_iload_n (pc := 119) X (j := 4) dX10_controlTold_119 rfl rfl ?_
    refine ww_iload (pc := 120) X (j := 0) dX10_controlTold_120 rfl ?_
    refine ww_iast (pc := 122) X dX10_controlTold_122 shzM_20 rfl hF (fun σ29 eσ29 bσ29 hF => ?_)
    refine ww_aload_n (pc := 123) X (j := 3) dX10_controlTold_123 rfl rfl ?_
    refine ww_get (pc := 124) X (ref := "PictureBlockModel") (T := TX10) (j := 23) dX10_controlTold_124 inX10_controlTold_RX10 shzM_0 clzM_10 (by decide) rfl (List.mem_of_getElem? (i := 7) rfl) rfl ?_
    refine ww_iconst (pc := 127) X (v := 4) dX10_controlTold_127 (by decide) ?_
    refine ww_dup2_11 (pc := 128) X dX10_controlTold_128 rfl rfl ?_
    refine ww_iald (pc := 129) X dX10_controlTold_129 shzM_15 rfl hF (fun v30 ev30 bv30 hF => ?_)
    refine ww_iconst (pc := 130) X (v := 1) dX10_controlTold_130 (by decide) ?_
    refine ww_iadd (pc := 131) X dX10_controlTold_131 ?_
    refine ww_iast (pc := 132) X dX10_controlTold_132 shzM_15 rfl hF (fun σ31 eσ31 bσ31 hF => ?_)
    exact ww_vret (pc := 133) X dX10_controlTold_133 (by cases hF; rfl)
  · exact ww_vret (pc := 93) X dX10_controlTold_93 (by cases hF; rfl)
set_option maxRecDepth 100000 in
set_option maxHeartbeats 4000000 in
theorem wX10_controlTold {M : gM} {G : gG} {out : gS} (X : gX M G zM cX10_controlTold RX10 6 wsX10_controlTold rmX10_controlTold none) (σ : gS) (p1 : Int32) (hF : fX10_controlTold σ p1 = some out) : WW M (gQv M G zM out) G zM 6 σ 0 [(0, .ref (G.2.1 0)), (1, .int p1)] [] := by
  unfold fX10_controlTold at hF
  refine ww_aload_n (pc := 0) X (j := 0) dX10_controlTold_0 rfl rfl ?_
  refine ww_iconst (pc := 1) X (v := 4) dX10_controlTold_1 (by decide) ?_
  refine ww_bipush (pc := 2) X (v := 10) dX10_controlTold_2 (by decide) ?_
  refine ww_iload_n (pc := 4) X (j := 1) dX10_controlTold_4 rfl rfl ?_
  obtain ⟨r2, σ3, h1, hF⟩ := bd2_some hF
  refine ww_callVi (pc := 5) X (As := [.int 4, .int 10, .int p1]) (rest := []) dX10_controlTold_5 (kX10_isFull (mL M) G X.2.2.2.2.2.2.1 X.2.2.2.2.2.2.2.1 σ 4 10 p1 (r2, σ3) h1) rfl shzM_0 clzM_10 gX10_controlTold_X10_isFull hyX10_isFull ⟨rfl, rfl⟩ ⟨Nat.le_of_ble_eq_true rfl, Nat.le_of_ble_eq_true rfl⟩ rfl rfl (Nat.le_of_ble_eq_true rfl) ?_
  refine ww_if_eq (pc := 8) (tgt := 12) X dX10_controlTold_8 (by decide) hF (fun h4 hF => ?_) (fun h4 hF => ?_)
  · refine ww_aload_n (pc := 12) X (j := 0) dX10_controlTold_12 rfl rfl ?_
    refine ww_iconst (pc := 13) X (v := 2) dX10_controlTold_13 (by decide) ?_
    obtain ⟨r6, σ7, h5, hF⟩ := bd2_some hF
    refine ww_callVi (pc := 14) X (As := [.int 2]) (rest := []) dX10_controlTold_14 (kX10_oneOf (mL M) G X.2.2.2.2.2.2.1 X.2.2.2.2.2.2.2.1 σ3 2 (r6, σ7) h5) rfl shzM_0 clzM_10 gX10_controlTold_X10_oneOf hyX10_oneOf ⟨rfl, rfl⟩ ⟨Nat.le_of_ble_eq_true rfl, Nat.le_of_ble_eq_true rfl⟩ rfl rfl (Nat.le_of_ble_eq_true rfl) ?_
    refine ww_istore_n (pc := 17) X (lv' := [(0, .ref (G.2.1 0)), (1, .int p1)]) dX10_controlTold_17 rfl (by decide) rfl hF (fun x8 ex8 hF => ?_)
    refine ww_aload_n (pc := 18) X (j := 1) dX10_controlTold_18 rfl rfl ?_
    refine ww_get (pc := 19) X (ref := "PictureBlockModel") (T := TX10) (j := 5) dX10_controlTold_19 inX10_controlTold_RX10 shzM_0 clzM_10 (by decide) rfl (List.mem_of_getElem? (i := 1) rfl) rfl ?_
    refine ww_if_ne (pc := 22) (tgt := 43) X dX10_controlTold_22 (by decide) hF (fun h9 hF => ?_) (fun h9 hF => ?_)
    · exact ww_sub [1, 0] rfl (wjX10_controlTold_43 X σ7 x8 hF)
    · refine ww_aload_n (pc := 25) X (j := 1) dX10_controlTold_25 rfl rfl ?_
      refine ww_get (pc := 26) X (ref := "PictureBlockModel") (T := TX10) (j := 28) dX10_controlTold_26 inX10_controlTold_RX10 shzM_0 clzM_10 (by decide) rfl (List.mem_of_getElem? (i := 2) rfl) rfl ?_
      refine ww_iload_n (pc := 29) X (j := 0) dX10_controlTold_29 rfl rfl ?_
      refine ww_iald (pc := 30) X dX10_controlTold_30 shzM_20 rfl hF (fun v32 ev32 bv32 hF => ?_)
      refine ww_if_eq (pc := 31) (tgt := 43) X dX10_controlTold_31 (by decide) hF (fun h33 hF => ?_) (fun h33 hF => ?_)
      · exact ww_sub [1, 0] rfl (wjX10_controlTold_43 X σ7 x8 hF)
      · refine ww_aload_n (pc := 34) X (j := 1) dX10_controlTold_34 rfl rfl ?_
        refine ww_iconst (pc := 35) X (v := 3) dX10_controlTold_35 (by decide) ?_
        refine ww_aload_n (pc := 36) X (j := 1) dX10_controlTold_36 rfl rfl ?_
        refine ww_get (pc := 37) X (ref := "PictureBlockModel") (T := TX10) (j := 21) dX10_controlTold_37 inX10_controlTold_RX10 shzM_0 clzM_10 (by decide) rfl (List.mem_of_getElem? (i := 3) rfl) rfl ?_
        obtain ⟨σ35, h34, hF⟩ := bd_some hF
        refine ww_callVv (pc := 40) X (As := [.int 3, .int (σ7.1 0 21)]) (rest := []) dX10_controlTold_40 (kX10_fail (mL M) G X.2.2.2.2.2.2.1 X.2.2.2.2.2.2.2.1 σ7 3 (σ7.1 0 21) σ35 h34) rfl shzM_0 clzM_10 gX10_controlTold_X10_fail hyX10_fail ⟨rfl, rfl⟩ ⟨Nat.le_of_ble_eq_true rfl, Nat.le_of_ble_eq_true rfl⟩ rfl rfl (Nat.le_of_ble_eq_true rfl) ?_
        exact ww_sub [1, 0] rfl (wjX10_controlTold_43 X σ35 x8 hF)
  · exact ww_vret (pc := 11) X dX10_controlTold_11 (by cases hF; rfl)
set_option maxRecDepth 100000 in
set_option maxHeartbeats 4000000 in
theorem kX10_controlTold (l : Launch) (G : gG) (hG : gOK G zM.1) (hT : G.2.2.1.map (fun q => q.2) = zM.2.1) (σ : gS) (p1 : Int32) (out : gS) (hF : fX10_controlTold σ p1 = some out) : gCv l yX10_controlTold wsX10_controlTold rmX10_controlTold G zM [.ref (G.2.1 0), .int p1] σ out :=
  gEnter (by decide) rfl ⟨rfl, rfl⟩ hG hT (Nat.le_of_ble_eq_true rfl) rfl (fun M X hl => wX10_controlTold X σ p1 hF)
noncomputable def bX10_rowTold_43 (σ : gS) (c43_2 : Int32) (rec43 : Int32 → gS → Option (gS)) (a3 : Int32) (σ1 : gS) : Option (gS) :=
  if c43_2 ≤ a3 then bd (fX10_asks σ1 9) fun σ18 => bd2 (fX10_number σ18 0 9999) fun r20 σ21 => gd (gb (2 * c43_2) 240) <| nm (gsI σ21 24 (2 * c43_2).toNatClampNeg r20) fun σ22 => bd2 (fX10_number σ22 0 9999) fun r24 σ25 => gd (gb ((2 * c43_2) + 1) 240) <| nm (gsI σ25 24 ((2 * c43_2) + 1).toNatClampNeg r24) fun σ26 => bd (fX10_asks σ26 10) fun σ28 => bd2 (fX10_number σ28 1 9) fun r30 σ31 => gd (gb c43_2 120) <| nm (gsI σ31 25 c43_2.toNatClampNeg r30) fun σ32 => gd (gb 3 12) <| nm (σ32.1 15 ((3 : Int32).toNatClampNeg)) fun v33 => gd (gb 3 12) <| nm (gsI σ32 15 ((3 : Int32).toNatClampNeg) (v33 + 1)) fun σ34 => some σ34 else if (σ1.1 0 5) = 0 then gd (gb a3 120) <| nm (σ1.1 22 a3.toNatClampNeg) fun v37 => gd (gb c43_2 120) <| nm (σ1.1 22 c43_2.toNatClampNeg) fun v38 => (if v37 = v38 then gd (gb a3 120) <| nm (σ1.1 23 a3.toNatClampNeg) fun v41 => gd (gb c43_2 120) <| nm (σ1.1 23 c43_2.toNatClampNeg) fun v42 => (if v41 = v42 then bd (fX10_fail σ1 3 (σ1.1 0 21)) fun σ46 => nm (a3 + 1 : Int32) fun x47 => rec43 x47 σ46 else nm (a3 + 1 : Int32) fun x44 => rec43 x44 σ1) else nm (a3 + 1 : Int32) fun x40 => rec43 x40 σ1) else nm (a3 + 1 : Int32) fun x36 => rec43 x36 σ1
noncomputable def fX10_rowTold (σ : gS) (p1 : Int32) : Option (gS) :=
  bd2 (fX10_isFull σ 3 60 p1) fun r2 σ3 => (if r2 = 0 then gd (gb 3 12) <| nm (σ3.1 15 ((3 : Int32).toNatClampNeg)) fun v5 => nm (v5 : Int32) fun x6 => bd2 (fX10_oneOf σ3 1) fun r8 σ9 => gd (gb x6 120) <| nm (gsI σ9 22 x6.toNatClampNeg r8) fun σ10 => bd2 (fX10_oneOf σ10 2) fun r12 σ13 => gd (gb x6 120) <| nm (gsI σ13 23 x6.toNatClampNeg r12) fun σ14 => nm (0 : Int32) fun x15 => lpc (S := Int32 × gS) K9 (fun rec s => bX10_rowTold_43 σ14 x6 (fun a3 σ1 => rec (a3, σ1)) s.1 s.2) (x15, σ14) else some σ3)
noncomputable abbrev rmX10_rowTold : Room := { frames := 5, cells := 0, slots := 0, locals := 110 }
set_option maxRecDepth 100000 in
set_option maxHeartbeats 4000000 in
theorem wbX10_rowTold_43 {M : gM} {G : gG} {out : gS} (X : gX M G zM cX10_rowTold RX10 4 wsX10_rowTold rmX10_rowTold none) (σ : gS) (c43_2 : Int32) (rec43 : Int32 → gS → Option (gS)) (ih43 : ∀ (a3 : Int32) (σ1 : gS), rec43 a3 σ1 = some out → WW M (gQv M G zM out) G zM 4 σ1 43 [(0, .ref (G.2.1 0)), (2, .int c43_2), (3, .int a3)] []) (a3 : Int32) (σ1 : gS) (hF : bX10_rowTold_43 σ c43_2 rec43 a3 σ1 = some out) : WW M (gQv M G zM out) G zM 4 σ1 43 [(0, .ref (G.2.1 0)), (2, .int c43_2), (3, .int a3)] [] := by
  unfold bX10_rowTold_43 at hF
  refine ww_iload_n (pc := 43) X (j := 2) dX10_rowTold_43 rfl rfl ?_
  refine ww_iload_n (pc := 44) X (j := 1) dX10_rowTold_44 rfl rfl ?_
  refine ww_icmp_ge (pc := 45) (tgt := 100) X dX10_rowTold_45 (by decide) hF (fun h16 hF => ?_) (fun h16 hF => ?_)
  · refine ww_aload_n (pc := 100) X (j := 0) dX10_rowTold_100 rfl rfl ?_
    refine ww_aload_n (pc := 101) X (j := 0) dX10_rowTold_101 rfl rfl ?_
    refine ww_get (pc := 102) X (ref := "PictureBlockModel") (T := TX10) (j := 16) dX10_rowTold_102 inX10_rowTold_RX10 shzM_0 clzM_10 (by decide) rfl (List.mem_of_getElem? (i := 6) rfl) rfl ?_
    obtain ⟨σ18, h17, hF⟩ := bd_some hF
    refine ww_callVv (pc := 105) X (As := [.ref (G.2.1 9)]) (rest := []) dX10_rowTold_105 (kX10_asks (mL M) G X.2.2.2.2.2.2.1 X.2.2.2.2.2.2.2.1 σ1 9 σ18 h17) rfl shzM_0 clzM_10 gX10_rowTold_X10_asks hyX10_asks ⟨rfl, rfl⟩ ⟨Nat.le_of_ble_eq_true rfl, Nat.le_of_ble_eq_true rfl⟩ rfl rfl (Nat.le_of_ble_eq_true rfl) ?_
    refine ww_aload_n (pc := 108) X (j := 0) dX10_rowTold_108 rfl rfl ?_
    refine ww_get (pc := 109) X (ref := "PictureBlockModel") (T := TX10) (j := 32) dX10_rowTold_109 inX10_rowTold_RX10 shzM_0 clzM_10 (by decide) rfl (List.mem_of_getElem? (i := 7) rfl) rfl ?_
    refine ww_iconst (pc := 112) X (v := 2) dX10_rowTold_112 (by decide) ?_
    refine ww_iload_n (pc := 113) X (j := 1) dX10_rowTold_113 rfl rfl ?_
    refine ww_imul (pc := 114) X dX10_rowTold_114 ?_
    refine ww_aload_n (pc := 115) X (j := 0) dX10_rowTold_115 rfl rfl ?_
    refine ww_iconst (pc := 116) X (v := 0) dX10_rowTold_116 (by decide) ?_
    refine ww_sipush (pc := 117) X (v := 9999) dX10_rowTold_117 (by decide) ?_
    obtain ⟨r20, σ21, h19, hF⟩ := bd2_some hF
    refine ww_callVi (pc := 120) X (As := [.int 0, .int 9999]) (rest := [.int (2 * c43_2), .ref (G.2.1 24)]) dX10_rowTold_120 (kX10_number (mL M) G X.2.2.2.2.2.2.1 X.2.2.2.2.2.2.2.1 σ18 0 9999 (r20, σ21) h19) rfl shzM_0 clzM_10 gX10_rowTold_X10_number hyX10_number ⟨rfl, rfl⟩ ⟨Nat.le_of_ble_eq_true rfl, Nat.le_of_ble_eq_true rfl⟩ rfl rfl (Nat.le_of_ble_eq_true rfl) ?_
    refine ww_iast (pc := 123) X dX10_rowTold_123 shzM_24 rfl hF (fun σ22 eσ22 bσ22 hF => ?_)
    refine ww_aload_n (pc := 124) X (j := 0) dX10_rowTold_124 rfl rfl ?_
    refine ww_get (pc := 125) X (ref := "PictureBlockModel") (T := TX10) (j := 32) dX10_rowTold_125 inX10_rowTold_RX10 shzM_0 clzM_10 (by decide) rfl (List.mem_of_getElem? (i := 7) rfl) rfl ?_
    refine ww_iconst (pc := 128) X (v := 2) dX10_rowTold_128 (by decide) ?_
    refine ww_iload_n (pc := 129) X (j := 1) dX10_rowTold_129 rfl rfl ?_
    refine ww_imul (pc := 130) X dX10_rowTold_130 ?_
    refine ww_iconst (pc := 131) X (v := 1) dX10_rowTold_131 (by decide) ?_
    refine ww_iadd (pc := 132) X dX10_rowTold_132 ?_
    refine ww_aload_n (pc := 133) X (j := 0) dX10_rowTold_133 rfl rfl ?_
    refine ww_iconst (pc := 134) X (v := 0) dX10_rowTold_134 (by decide) ?_
    refine ww_sipush (pc := 135) X (v := 9999) dX10_rowTold_135 (by decide) ?_
    obtain ⟨r24, σ25, h23, hF⟩ := bd2_some hF
    refine ww_callVi (pc := 138) X (As := [.int 0, .int 9999]) (rest := [.int ((2 * c43_2) + 1), .ref (G.2.1 24)]) dX10_rowTold_138 (kX10_number (mL M) G X.2.2.2.2.2.2.1 X.2.2.2.2.2.2.2.1 σ22 0 9999 (r24, σ25) h23) rfl shzM_0 clzM_10 gX10_rowTold_X10_number hyX10_number ⟨rfl, rfl⟩ ⟨Nat.le_of_ble_eq_true rfl, Nat.le_of_ble_eq_true rfl⟩ rfl rfl (Nat.le_of_ble_eq_true rfl) ?_
    refine ww_iast (pc := 141) X dX10_rowTold_141 shzM_24 rfl hF (fun σ26 eσ26 bσ26 hF => ?_)
    refine ww_aload_n (pc := 142) X (j := 0) dX10_rowTold_142 rfl rfl ?_
    refine ww_aload_n (pc := 143) X (j := 0) dX10_rowTold_143 rfl rfl ?_
    refine ww_get (pc := 144) X (ref := "PictureBlockModel") (T := TX10) (j := 17) dX10_rowTold_144 inX10_rowTold_RX10 shzM_0 clzM_10 (by decide) rfl (List.mem_of_getElem? (i := 8) rfl) rfl ?_
    obtain ⟨σ28, h27, hF⟩ := bd_some hF
    refine ww_callVv (pc := 147) X (As := [.ref (G.2.1 10)]) (rest := []) dX10_rowTold_147 (kX10_asks (mL M) G X.2.2.2.2.2.2.1 X.2.2.2.2.2.2.2.1 σ26 10 σ28 h27) rfl shzM_0 clzM_10 gX10_rowTold_X10_asks hyX10_asks ⟨rfl, rfl⟩ ⟨Nat.le_of_ble_eq_true rfl, Nat.le_of_ble_eq_true rfl⟩ rfl rfl (Nat.le_of_ble_eq_true rfl) ?_
    refine ww_aload_n (pc := 150) X (j := 0) dX10_rowTold_150 rfl rfl ?_
    refine ww_get (pc := 151) X (ref := "PictureBlockModel") (T := TX10) (j := 33) dX10_rowTold_151 inX10_rowTold_RX10 shzM_0 clzM_10 (by decide) rfl (List.mem_of_getElem? (i := 9) rfl) rfl ?_
    refine ww_iload_n (pc := 154) X (j := 1) dX10_rowTold_154 rfl rfl ?_
    refine ww_aload_n (pc := 155) X (j := 0) dX10_rowTold_155 rfl rfl ?_
    refine ww_iconst (pc := 156) X (v := 1) dX10_rowTold_156 (by decide) ?_
    refine ww_bipush (pc := 157) X (v := 9) dX10_rowTold_157 (by decide) ?_
    obtain ⟨r30, σ31, h29, hF⟩ := bd2_some hF
    refine ww_callVi (pc := 159) X (As := [.int 1, .int 9]) (rest := [.int c43_2, .ref (G.2.1 25)]) dX10_rowTold_159 (kX10_number (mL M) G X.2.2.2.2.2.2.1 X.2.2.2.2.2.2.2.1 σ28 1 9 (r30, σ31) h29) rfl shzM_0 clzM_10 gX10_rowTold_X10_number hyX10_number ⟨rfl, rfl⟩ ⟨Nat.le_of_ble_eq_true rfl, Nat.le_of_ble_eq_true rfl⟩ rfl rfl (Nat.le_of_ble_eq_true rfl) ?_
    refine ww_iast (pc := 162) X dX10_rowTold_162 shzM_25 rfl hF (fun σ32 eσ32 bσ32 hF => ?_)
    refine ww_aload_n (pc := 163) X (j := 0) dX10_rowTold_163 rfl rfl ?_
    refine ww_get (pc := 164) X (ref := "PictureBlockModel") (T := TX10) (j := 23) dX10_rowTold_164 inX10_rowTold_RX10 shzM_0 clzM_10 (by decide) rfl (List.mem_of_getElem? (i := 1) rfl) rfl ?_
    refine ww_iconst (pc := 167) X (v := 3) dX10_rowTold_167 (by decide) ?_
    refine ww_dup2_11 (pc := 168) X dX10_rowTold_168 rfl rfl ?_
    refine ww_iald (pc := 169) X dX10_rowTold_169 shzM_15 rfl hF (fun v33 ev33 bv33 hF => ?_)
    refine ww_iconst (pc := 170) X (v := 1) dX10_rowTold_170 (by decide) ?_
    refine ww_iadd (pc := 171) X dX10_rowTold_171 ?_
    refine ww_iast (pc := 172) X dX10_rowTold_172 shzM_15 rfl hF (fun σ34 eσ34 bσ34 hF => ?_)
    exact ww_vret (pc := 173) X dX10_rowTold_173 (by cases hF; rfl)
  · refine ww_aload_n (pc := 48) X (j := 0) dX10_rowTold_48 rfl rfl ?_
    refine ww_get (pc := 49) X (ref := "PictureBlockModel") (T := TX10) (j := 5) dX10_rowTold_49 inX10_rowTold_RX10 shzM_0 clzM_10 (by decide) rfl (List.mem_of_getElem? (i := 4) rfl) rfl ?_
    refine ww_if_ne (pc := 52) (tgt := 94) X dX10_rowTold_52 (by decide) hF (fun h35 hF => ?_) (fun h35 hF => ?_)
    · refine ww_iinc (pc := 94) X (j := 2) (v := 1) (lv' := [(0, .ref (G.2.1 0)), (2, .int c43_2)]) dX10_rowTold_94 rfl rfl (by decide) rfl hF (fun x36 ex36 hF => ?_)
      refine ww_goto (pc := 97) X (tgt := 43) dX10_rowTold_97 (by decide) ?_
      exact ww_sub [1, 2, 0] rfl (ih43 x36 σ1 hF)
    · refine ww_aload_n (pc := 55) X (j := 0) dX10_rowTold_55 rfl rfl ?_
      refine ww_get (pc := 56) X (ref := "PictureBlockModel") (T := TX10) (j := 30) dX10_rowTold_56 inX10_rowTold_RX10 shzM_0 clzM_10 (by decide) rfl (List.mem_of_getElem? (i := 2) rfl) rfl ?_
      refine ww_iload_n (pc := 59) X (j := 2) dX10_rowTold_59 rfl rfl ?_
      refine ww_iald (pc := 60) X dX10_rowTold_60 shzM_22 rfl hF (fun v37 ev37 bv37 hF => ?_)
      refine ww_aload_n (pc := 61) X (j := 0) dX10_rowTold_61 rfl rfl ?_
      refine ww_get (pc := 62) X (ref := "PictureBlockModel") (T := TX10) (j := 30) dX10_rowTold_62 inX10_rowTold_RX10 shzM_0 clzM_10 (by decide) rfl (List.mem_of_getElem? (i := 2) rfl) rfl ?_
      refine ww_iload_n (pc := 65) X (j := 1) dX10_rowTold_65 rfl rfl ?_
      refine ww_iald (pc := 66) X dX10_rowTold_66 shzM_22 rfl hF (fun v38 ev38 bv38 hF => ?_)
      refine ww_icmp_ne (pc := 67) (tgt := 94) X dX10_rowTold_67 (by decide) hF (fun h39 hF => ?_) (fun h39 hF => ?_)
      · refine ww_iinc (pc := 94) X (j := 2) (v := 1) (lv' := [(0, .ref (G.2.1 0)), (2, .int c43_2)]) dX10_rowTold_94 rfl rfl (by decide) rfl hF (fun x40 ex40 hF => ?_)
        refine ww_goto (pc := 97) X (tgt := 43) dX10_rowTold_97 (by decide) ?_
        exact ww_sub [1, 2, 0] rfl (ih43 x40 σ1 hF)
      · refine ww_aload_n (pc := 70) X (j := 0) dX10_rowTold_70 rfl rfl ?_
        refine ww_get (pc := 71) X (ref := "PictureBlockModel") (T := TX10) (j := 31) dX10_rowTold_71 inX10_rowTold_RX10 shzM_0 clzM_10 (by decide) rfl (List.mem_of_getElem? (i := 3) rfl) rfl ?_
        refine ww_iload_n (pc := 74) X (j := 2) dX10_rowTold_74 rfl rfl ?_
        refine ww_iald (pc := 75) X dX10_rowTold_75 shzM_23 rfl hF (fun v41 ev41 bv41 hF => ?_)
        refine ww_aload_n (pc := 76) X (j := 0) dX10_rowTold_76 rfl rfl ?_
        refine ww_get (pc := 77) X (ref := "PictureBlockModel") (T := TX10) (j := 31) dX10_rowTold_77 inX10_rowTold_RX10 shzM_0 clzM_10 (by decide) rfl (List.mem_of_getElem? (i := 3) rfl) rfl ?_
        refine ww_iload_n (pc := 80) X (j := 1) dX10_rowTold_80 rfl rfl ?_
        refine ww_iald (pc := 81) X dX10_rowTold_81 shzM_23 rfl hF (fun v42 ev42 bv42 hF => ?_)
        refine ww_icmp_ne (pc := 82) (tgt := 94) X dX10_rowTold_82 (by decide) hF (fun h43 hF => ?_) (fun h43 hF => ?_)
        · refine ww_iinc (pc := 94) X (j := 2) (v := 1) (lv' := [(0, .ref (G.2.1 0)), (2, .int c43_2)]) dX10_rowTold_94 rfl rfl (by decide) rfl hF (fun x44 ex44 hF => ?_)
          refine ww_goto (pc := 97) X (tgt := 43) dX10_rowTold_97 (by decide) ?_
          exact ww_sub [1, 2, 0] rfl (ih43 x44 σ1 hF)
        · refine ww_aload_n (pc := 85) X (j := 0) dX10_rowTold_85 rfl rfl ?_
          refine ww_iconst (pc := 86) X (v := 3) dX10_rowTold_86 (by decide) ?_
          refine ww_aload_n (pc := 87) X (j := 0) dX10_rowTold_87 rfl rfl ?_
          refine ww_get (pc := 88) X (ref := "PictureBlockModel") (T := TX10) (j := 21) dX10_rowTold_88 inX10_rowTold_RX10 shzM_0 clzM_10 (by decide) rfl (List.mem_of_getElem? (i := 5) rfl) rfl ?_
          obtain ⟨σ46, h45, hF⟩ := bd_some hF
          refine ww_callVv (pc := 91) X (As := [.int 3, .int (σ1.1 0 21)]) (rest := []) dX10_rowTold_91 (kX10_fail (mL M) G X.2.2.2.2.2.2.1 X.2.2.2.2.2.2.2.1 σ1 3 (σ1.1 0 21) σ46 h45) rfl shzM_0 clzM_10 gX10_rowTold_X10_fail hyX10_fail ⟨rfl, rfl⟩ ⟨Nat.le_of_ble_eq_true rfl, Nat.le_of_ble_eq_true rfl⟩ rfl rfl (Nat.le_of_ble_eq_true rfl) ?_
          refine ww_iinc (pc := 94) X (j := 2) (v := 1) (lv' := [(0, .ref (G.2.1 0)), (2, .int c43_2)]) dX10_rowTold_94 rfl rfl (by decide) rfl hF (fun x47 ex47 hF => ?_)
          refine ww_goto (pc := 97) X (tgt := 43) dX10_rowTold_97 (by decide) ?_
          exact ww_sub [1, 2, 0] rfl (ih43 x47 σ46 hF)
set_option maxRecDepth 100000 in
set_option maxHeartbeats 4000000 in
theorem wX10_rowTold {M : gM} {G : gG} {out : gS} (X : gX M G zM cX10_rowTold RX10 4 wsX10_rowTold rmX10_rowTold none) (σ : gS) (p1 : Int32) (hF : fX10_rowTold σ p1 = some out) : WW M (gQv M G zM out) G zM 4 σ 0 [(0, .ref (G.2.1 0)), (1, .int p1)] [] := by
  unfold fX10_rowTold at hF
  refine ww_aload_n (pc := 0) X (j := 0) dX10_rowTold_0 rfl rfl ?_
  refine ww_iconst (pc := 1) X (v := 3) dX10_rowTold_1 (by decide) ?_
  refine ww_bipush (pc := 2) X (v := 60) dX10_rowTold_2 (by decide) ?_
  refine ww_iload_n (pc := 4) X (j := 1) dX10_rowTold_4 rfl rfl ?_
  obtain ⟨r2, σ3, h1, hF⟩ := bd2_some hF
  refine ww_callVi (pc := 5) X (As := [.int 3, .int 60, .int p1]) (rest := []) dX10_rowTold_5 (kX10_isFull (mL M) G X.2.2.2.2.2.2.1 X.2.2.2.2.2.2.2.1 σ 3 60 p1 (r2, σ3) h1) rfl shzM_0 clzM_10 gX10_rowTold_X10_isFull hyX10_isFull ⟨rfl, rfl⟩ ⟨Nat.le_of_ble_eq_true rfl, Nat.le_of_ble_eq_true rfl⟩ rfl rfl (Nat.le_of_ble_eq_true rfl) ?_
  refine ww_if_eq (pc := 8) (tgt := 12) X dX10_rowTold_8 (by decide) hF (fun h4 hF => ?_) (fun h4 hF => ?_)
  · refine ww_aload_n (pc := 12) X (j := 0) dX10_rowTold_12 rfl rfl ?_
    refine ww_get (pc := 13) X (ref := "PictureBlockModel") (T := TX10) (j := 23) dX10_rowTold_13 inX10_rowTold_RX10 shzM_0 clzM_10 (by decide) rfl (List.mem_of_getElem? (i := 1) rfl) rfl ?_
    refine ww_iconst (pc := 16) X (v := 3) dX10_rowTold_16 (by decide) ?_
    refine ww_iald (pc := 17) X dX10_rowTold_17 shzM_15 rfl hF (fun v5 ev5 bv5 hF => ?_)
    refine ww_istore_n (pc := 18) X (lv' := [(0, .ref (G.2.1 0)), (1, .int p1)]) dX10_rowTold_18 rfl (by decide) rfl hF (fun x6 ex6 hF => ?_)
    refine ww_aload_n (pc := 19) X (j := 1) dX10_rowTold_19 rfl rfl ?_
    refine ww_get (pc := 20) X (ref := "PictureBlockModel") (T := TX10) (j := 30) dX10_rowTold_20 inX10_rowTold_RX10 shzM_0 clzM_10 (by decide) rfl (List.mem_of_getElem? (i := 2) rfl) rfl ?_
    refine ww_iload_n (pc := 23) X (j := 0) dX10_rowTold_23 rfl rfl ?_
    refine ww_aload_n (pc := 24) X (j := 1) dX10_rowTold_24 rfl rfl ?_
    refine ww_iconst (pc := 25) X (v := 1) dX10_rowTold_25 (by decide) ?_
    obtain ⟨r8, σ9, h7, hF⟩ := bd2_some hF
    refine ww_callVi (pc := 26) X (As := [.int 1]) (rest := [.int x6, .ref (G.2.1 22)]) dX10_rowTold_26 (kX10_oneOf (mL M) G X.2.2.2.2.2.2.1 X.2.2.2.2.2.2.2.1 σ3 1 (r8, σ9) h7) rfl shzM_0 clzM_10 gX10_rowTold_X10_oneOf hyX10_oneOf ⟨rfl, rfl⟩ ⟨Nat.le_of_ble_eq_true rfl, Nat.le_of_ble_eq_true rfl⟩ rfl rfl (Nat.le_of_ble_eq_true rfl) ?_
    refine ww_iast (pc := 29) X dX10_rowTold_29 shzM_22 rfl hF (fun σ10 eσ10 bσ10 hF => ?_)
    refine ww_aload_n (pc := 30) X (j := 1) dX10_rowTold_30 rfl rfl ?_
    refine ww_get (pc := 31) X (ref := "PictureBlockModel") (T := TX10) (j := 31) dX10_rowTold_31 inX10_rowTold_RX10 shzM_0 clzM_10 (by decide) rfl (List.mem_of_getElem? (i := 3) rfl) rfl ?_
    refine ww_iload_n (pc := 34) X (j := 0) dX10_rowTold_34 rfl rfl ?_
    refine ww_aload_n (pc := 35) X (j := 1) dX10_rowTold_35 rfl rfl ?_
    refine ww_iconst (pc := 36) X (v := 2) dX10_rowTold_36 (by decide) ?_
    obtain ⟨r12, σ13, h11, hF⟩ := bd2_some hF
    refine ww_callVi (pc := 37) X (As := [.int 2]) (rest := [.int x6, .ref (G.2.1 23)]) dX10_rowTold_37 (kX10_oneOf (mL M) G X.2.2.2.2.2.2.1 X.2.2.2.2.2.2.2.1 σ10 2 (r12, σ13) h11) rfl shzM_0 clzM_10 gX10_rowTold_X10_oneOf hyX10_oneOf ⟨rfl, rfl⟩ ⟨Nat.le_of_ble_eq_true rfl, Nat.le_of_ble_eq_true rfl⟩ rfl rfl (Nat.le_of_ble_eq_true rfl) ?_
    refine ww_iast (pc := 40) X dX10_rowTold_40 shzM_23 rfl hF (fun σ14 eσ14 bσ14 hF => ?_)
    refine ww_iconst (pc := 41) X (v := 0) dX10_rowTold_41 (by decide) ?_
    refine ww_istore_n (pc := 42) X (lv' := [(2, .int x6), (0, .ref (G.2.1 0)), (1, .int p1)]) dX10_rowTold_42 rfl (by decide) rfl hF (fun x15 ex15 hF => ?_)
    exact ww_sub [2, 1, 0] rfl (lpc_ind (P := (fun (s : Int32 × gS) => WW M (gQv M G zM out) G zM 4 s.2 43 [(0, .ref (G.2.1 0)), (2, .int x6), (3, .int s.1)] [])) (fun rec s ih hF => wbX10_rowTold_43 X σ14 x6 (fun a3 σ1 => rec (a3, σ1)) (fun a3 σ1 h => ih (a3, σ1) h) s.1 s.2 hF) K9 (x15, σ14) hF)
  · exact ww_vret (pc := 11) X dX10_rowTold_11 (by cases hF; rfl)
set_option maxRecDepth 100000 in
set_option maxHeartbeats 4000000 in
theorem kX10_rowTold (l : Launch) (G : gG) (hG : gOK G zM.1) (hT : G.2.2.1.map (fun q => q.2) = zM.2.1) (σ : gS) (p1 : Int32) (out : gS) (hF : fX10_rowTold σ p1 = some out) : gCv l yX10_rowTold wsX10_rowTold rmX10_rowTold G zM [.ref (G.2.1 0), .int p1] σ out :=
  gEnter (by decide) rfl ⟨rfl, rfl⟩ hG hT (Nat.le_of_ble_eq_true rfl) rfl (fun M X hl => wX10_rowTold X σ p1 hF)
noncomputable def jX10_newName_47 (σ : gS) (a1 : Int32) (a2 : Int64) : Option (Int32 × gS) :=
  gd (gb a1 12) <| nm (σ.1 15 a1.toNatClampNeg) fun v7 => nm (v7 : Int32) fun x8 => (if (σ.1 0 5) = 0 then gd (gb ((20 * a1) + x8) 120) <| nm (gsL σ 14 ((20 * a1) + x8).toNatClampNeg a2) fun σ10 => gd (gb a1 12) <| nm (σ10.1 15 a1.toNatClampNeg) fun v11 => gd (gb a1 12) <| nm (gsI σ10 15 a1.toNatClampNeg (v11 + 1)) fun σ12 => some (x8, σ12) else some (x8, σ))
noncomputable def bX10_newName_8 (σ : gS) (c8_1 : Int32) (c8_2 : Int64) (rec8 : Int32 → gS → Option (Int32 × gS)) (a4 : Int32) (σ1 : gS) : Option (Int32 × gS) :=
  if 3 ≤ a4 then jX10_newName_47 σ1 c8_1 c8_2 else if (σ1.1 0 5) = 0 then bd (fX10_nameOf σ1 a4 c8_2) fun r15 => (if r15 = ((-1)) then nm (a4 + 1 : Int32) fun x17 => rec8 x17 σ1 else bd (fX10_fail σ1 3 (σ1.1 0 21)) fun σ19 => nm (a4 + 1 : Int32) fun x20 => rec8 x20 σ19) else jX10_newName_47 σ1 c8_1 c8_2
noncomputable def fX10_newName (σ : gS) (p1 : Int32) : Option (Int32 × gS) :=
  bd2 (fX10_name σ) fun r2 σ3 => nm (r2 : Int64) fun x4 => nm (0 : Int32) fun x5 => lpc (S := Int32 × gS) K9 (fun rec s => bX10_newName_8 σ3 p1 x4 (fun a4 σ1 => rec (a4, σ1)) s.1 s.2) (x5, σ3)
noncomputable abbrev rmX10_newName : Room := { frames := 4, cells := 0, slots := 0, locals := 86 }
set_option maxRecDepth 100000 in
set_option maxHeartbeats 4000000 in
theorem wjX10_newName_47 {M : gM} {G : gG} {out : Int32 × gS} (X : gX M G zM cX10_newName RX10 5 wsX10_newName rmX10_newName (some .int)) (σ : gS) (a1 : Int32) (a2 : Int64) (hF : jX10_newName_47 σ a1 a2 = some out) : WW M (gQi M G zM out.1 out.2) G zM 5 σ 47 [(0, .ref (G.2.1 0)), (1, .int a1), (2, .long a2)] [] := by
  unfold jX10_newName_47 at hF
  refine ww_aload_n (pc := 47) X (j := 0) dX10_newName_47 rfl rfl ?_
  refine ww_get (pc := 48) X (ref := "PictureBlockModel") (T := TX10) (j := 23) dX10_newName_48 inX10_newName_RX10 shzM_0 clzM_10 (by decide) rfl (List.mem_of_getElem? (i := 3) rfl) rfl ?_
  refine ww_iload_n (pc := 51) X (j := 1) dX10_newName_51 rfl rfl ?_
  refine ww_iald (pc := 52) X dX10_newName_52 shzM_15 rfl hF (fun v7 ev7 bv7 hF => ?_)
  refine ww_istore (pc := 53) X (lv' := [(0, .ref (G.2.1 0)), (1, .int a1), (2, .long a2)]) dX10_newName_53 (by decide) rfl hF (fun x8 ex8 hF => ?_)
  refine ww_aload_n (pc := 55) X (j := 1) dX10_newName_55 rfl rfl ?_
  refine ww_get (pc := 56) X (ref := "PictureBlockModel") (T := TX10) (j := 5) dX10_newName_56 inX10_newName_RX10 shzM_0 clzM_10 (by decide) rfl (List.mem_of_getElem? (i := 1) rfl) rfl ?_
  refine ww_if_eq (pc := 59) (tgt := 65) X dX10_newName_59 (by decide) hF (fun h9 hF => ?_) (fun h9 hF => ?_)
  · refine ww_aload_n (pc := 65) X (j := 1) dX10_newName_65 rfl rfl ?_
    refine ww_get (pc := 66) X (ref := "PictureBlockModel") (T := TX10) (j := 22) dX10_newName_66 inX10_newName_RX10 shzM_0 clzM_10 (by decide) rfl (List.mem_of_getElem? (i := 4) rfl) rfl ?_
    refine ww_bipush (pc := 69) X (v := 20) dX10_newName_69 (by decide) ?_
    refine ww_iload_n (pc := 71) X (j := 2) dX10_newName_71 rfl rfl ?_
    refine ww_imul (pc := 72) X dX10_newName_72 ?_
    refine ww_iload (pc := 73) X (j := 0) dX10_newName_73 rfl ?_
    refine ww_iadd (pc := 75) X dX10_newName_75 ?_
    refine ww_lload_n (pc := 76) X (j := 3) dX10_newName_76 rfl rfl ?_
    refine ww_last (pc := 77) X dX10_newName_77 shzM_14 rfl hF (fun σ10 eσ10 bσ10 hF => ?_)
    refine ww_aload_n (pc := 78) X (j := 1) dX10_newName_78 rfl rfl ?_
    refine ww_get (pc := 79) X (ref := "PictureBlockModel") (T := TX10) (j := 23) dX10_newName_79 inX10_newName_RX10 shzM_0 clzM_10 (by decide) rfl (List.mem_of_getElem? (i := 3) rfl) rfl ?_
    refine ww_iload_n (pc := 82) X (j := 2) dX10_newName_82 rfl rfl ?_
    refine ww_dup2_11 (pc := 83) X dX10_newName_83 rfl rfl ?_
    refine ww_iald (pc := 84) X dX10_newName_84 shzM_15 rfl hF (fun v11 ev11 bv11 hF => ?_)
    refine ww_iconst (pc := 85) X (v := 1) dX10_newName_85 (by decide) ?_
    refine ww_iadd (pc := 86) X dX10_newName_86 ?_
    refine ww_iast (pc := 87) X dX10_newName_87 shzM_15 rfl hF (fun σ12 eσ12 bσ12 hF => ?_)
    refine ww_iload (pc := 88) X (j := 0) dX10_newName_88 rfl ?_
    exact ww_iret (pc := 90) X dX10_newName_90 (fst_of hF) (snd_of hF)
  · refine ww_iload (pc := 62) X (j := 0) dX10_newName_62 rfl ?_
    exact ww_iret (pc := 64) X dX10_newName_64 (fst_of hF) (snd_of hF)
set_option maxRecDepth 100000 in
set_option maxHeartbeats 4000000 in
theorem wbX10_newName_8 {M : gM} {G : gG} {out : Int32 × gS} (X : gX M G zM cX10_newName RX10 5 wsX10_newName rmX10_newName (some .int)) (σ : gS) (c8_1 : Int32) (c8_2 : Int64) (rec8 : Int32 → gS → Option (Int32 × gS)) (ih8 : ∀ (a4 : Int32) (σ1 : gS), rec8 a4 σ1 = some out → WW M (gQi M G zM out.1 out.2) G zM 5 σ1 8 [(0, .ref (G.2.1 0)), (1, .int c8_1), (2, .long c8_2), (4, .int a4)] []) (a4 : Int32) (σ1 : gS) (hF : bX10_newName_8 σ c8_1 c8_2 rec8 a4 σ1 = some out) : WW M (gQi M G zM out.1 out.2) G zM 5 σ1 8 [(0, .ref (G.2.1 0)), (1, .int c8_1), (2, .long c8_2), (4, .int a4)] [] := by
  unfold bX10_newName_8 at hF
  refine ww_iload (pc := 8) X (j := 3) dX10_newName_8 rfl ?_
  refine ww_iconst (pc := 10) X (v := 3) dX10_newName_10 (by decide) ?_
  refine ww_icmp_ge (pc := 11) (tgt := 47) X dX10_newName_11 (by decide) hF (fun h6 hF => ?_) (fun h6 hF => ?_)
  · exact ww_sub [0, 1, 2] rfl (wjX10_newName_47 X σ1 c8_1 c8_2 hF)
  · refine ww_aload_n (pc := 14) X (j := 0) dX10_newName_14 rfl rfl ?_
    refine ww_get (pc := 15) X (ref := "PictureBlockModel") (T := TX10) (j := 5) dX10_newName_15 inX10_newName_RX10 shzM_0 clzM_10 (by decide) rfl (List.mem_of_getElem? (i := 1) rfl) rfl ?_
    refine ww_if_ne (pc := 18) (tgt := 47) X dX10_newName_18 (by decide) hF (fun h13 hF => ?_) (fun h13 hF => ?_)
    · exact ww_sub [0, 1, 2] rfl (wjX10_newName_47 X σ1 c8_1 c8_2 hF)
    · refine ww_aload_n (pc := 21) X (j := 0) dX10_newName_21 rfl rfl ?_
      refine ww_iload (pc := 22) X (j := 3) dX10_newName_22 rfl ?_
      refine ww_lload_n (pc := 24) X (j := 2) dX10_newName_24 rfl rfl ?_
      obtain ⟨r15, h14, hF⟩ := bd_some hF
      refine ww_callVi (pc := 25) X (As := [.int a4, .long c8_2]) (rest := []) dX10_newName_25 (kX10_nameOf (mL M) G X.2.2.2.2.2.2.1 X.2.2.2.2.2.2.2.1 σ1 a4 c8_2 r15 h14) rfl shzM_0 clzM_10 gX10_newName_X10_nameOf hyX10_nameOf ⟨rfl, rfl⟩ ⟨Nat.le_of_ble_eq_true rfl, Nat.le_of_ble_eq_true rfl⟩ rfl rfl (Nat.le_of_ble_eq_true rfl) ?_
      refine ww_iconst (pc := 28) X (v := (-1)) dX10_newName_28 (by decide) ?_
      refine ww_icmp_eq (pc := 29) (tgt := 41) X dX10_newName_29 (by decide) hF (fun h16 hF => ?_) (fun h16 hF => ?_)
      · refine ww_iinc (pc := 41) X (j := 3) (v := 1) (lv' := [(0, .ref (G.2.1 0)), (1, .int c8_1), (2, .long c8_2)]) dX10_newName_41 rfl rfl (by decide) rfl hF (fun x17 ex17 hF => ?_)
        refine ww_goto (pc := 44) X (tgt := 8) dX10_newName_44 (by decide) ?_
        exact ww_sub [1, 2, 3, 0] rfl (ih8 x17 σ1 hF)
      · refine ww_aload_n (pc := 32) X (j := 0) dX10_newName_32 rfl rfl ?_
        refine ww_iconst (pc := 33) X (v := 3) dX10_newName_33 (by decide) ?_
        refine ww_aload_n (pc := 34) X (j := 0) dX10_newName_34 rfl rfl ?_
        refine ww_get (pc := 35) X (ref := "PictureBlockModel") (T := TX10) (j := 21) dX10_newName_35 inX10_newName_RX10 shzM_0 clzM_10 (by decide) rfl (List.mem_of_getElem? (i := 2) rfl) rfl ?_
        obtain ⟨σ19, h18, hF⟩ := bd_some hF
        refine ww_callVv (pc := 38) X (As := [.int 3, .int (σ1.1 0 21)]) (rest := []) dX10_newName_38 (kX10_fail (mL M) G X.2.2.2.2.2.2.1 X.2.2.2.2.2.2.2.1 σ1 3 (σ1.1 0 21) σ19 h18) rfl shzM_0 clzM_10 gX10_newName_X10_fail hyX10_fail ⟨rfl, rfl⟩ ⟨Nat.le_of_ble_eq_true rfl, Nat.le_of_ble_eq_true rfl⟩ rfl rfl (Nat.le_of_ble_eq_true rfl) ?_
        refine ww_iinc (pc := 41) X (j := 3) (v := 1) (lv' := [(0, .ref (G.2.1 0)), (1, .int c8_1), (2, .long c8_2)]) dX10_newName_41 rfl rfl (by decide) rfl hF (fun x20 ex20 hF => ?_)
        refine ww_goto (pc := 44) X (tgt := 8) dX10_newName_44 (by decide) ?_
        exact ww_sub [1, 2, 3, 0] rfl (ih8 x20 σ19 hF)
set_option maxRecDepth 100000 in
set_option maxHeartbeats 4000000 in
theorem wX10_newName {M : gM} {G : gG} {out : Int32 × gS} (X : gX M G zM cX10_newName RX10 5 wsX10_newName rmX10_newName (some .int)) (σ : gS) (p1 : Int32) (hF : fX10_newName σ p1 = some out) : WW M (gQi M G zM out.1 out.2) G zM 5 σ 0 [(0, .ref (G.2.1 0)), (1, .int p1)] [] := by
  unfold fX10_newName at hF
  refine ww_aload_n (pc := 0) X (j := 0) dX10_newName_0 rfl rfl ?_
  obtain ⟨r2, σ3, h1, hF⟩ := bd2_some hF
  refine ww_callVl (pc := 1) X (As := []) (rest := []) dX10_newName_1 (kX10_name (mL M) G X.2.2.2.2.2.2.1 X.2.2.2.2.2.2.2.1 σ (r2, σ3) h1) rfl shzM_0 clzM_10 gX10_newName_X10_name hyX10_name ⟨rfl, rfl⟩ ⟨Nat.le_of_ble_eq_true rfl, Nat.le_of_ble_eq_true rfl⟩ rfl rfl (Nat.le_of_ble_eq_true rfl) ?_
  refine ww_lstore_n (pc := 4) X (lv' := [(0, .ref (G.2.1 0)), (1, .int p1)]) dX10_newName_4 rfl (by decide) rfl hF (fun x4 ex4 hF => ?_)
  refine ww_iconst (pc := 5) X (v := 0) dX10_newName_5 (by decide) ?_
  refine ww_istore (pc := 6) X (lv' := [(2, .long x4), (0, .ref (G.2.1 0)), (1, .int p1)]) dX10_newName_6 (by decide) rfl hF (fun x5 ex5 hF => ?_)
  exact ww_sub [2, 3, 1, 0] rfl (lpc_ind (P := (fun (s : Int32 × gS) => WW M (gQi M G zM out.1 out.2) G zM 5 s.2 8 [(0, .ref (G.2.1 0)), (1, .int p1), (2, .long x4), (4, .int s.1)] [])) (fun rec s ih hF => wbX10_newName_8 X σ3 p1 x4 (fun a4 σ1 => rec (a4, σ1)) (fun a4 σ1 h => ih (a4, σ1) h) s.1 s.2 hF) K9 (x5, σ3) hF)
set_option maxRecDepth 100000 in
set_option maxHeartbeats 4000000 in
theorem kX10_newName (l : Launch) (G : gG) (hG : gOK G zM.1) (hT : G.2.2.1.map (fun q => q.2) = zM.2.1) (σ : gS) (p1 : Int32) (out : Int32 × gS) (hF : fX10_newName σ p1 = some out) : gCi l yX10_newName wsX10_newName rmX10_newName G zM [.ref (G.2.1 0), .int p1] σ out.1 out.2 :=
  gEnter (by decide) rfl ⟨rfl, rfl⟩ hG hT (Nat.le_of_ble_eq_true rfl) rfl (fun M X hl => wX10_newName X σ p1 hF)
noncomputable def fX10_pointTold (σ : gS) (p1 : Int32) : Option (gS) :=
  bd2 (fX10_isFull σ 2 20 p1) fun r2 σ3 => (if r2 = 0 then bd2 (fX10_newName σ3 2) fun r6 σ7 => nm (r6 : Int32) fun x8 => (if (σ7.1 0 5) = 0 then gd (gb x8 40) <| nm (gsI σ7 20 x8.toNatClampNeg 0) fun σ10 => some σ10 else some σ7) else some σ3)
noncomputable abbrev rmX10_pointTold : Room := { frames := 5, cells := 0, slots := 0, locals := 110 }
set_option maxRecDepth 100000 in
set_option maxHeartbeats 4000000 in
theorem wX10_pointTold {M : gM} {G : gG} {out : gS} (X : gX M G zM cX10_pointTold RX10 3 wsX10_pointTold rmX10_pointTold none) (σ : gS) (p1 : Int32) (hF : fX10_pointTold σ p1 = some out) : WW M (gQv M G zM out) G zM 3 σ 0 [(0, .ref (G.2.1 0)), (1, .int p1)] [] := by
  unfold fX10_pointTold at hF
  refine ww_aload_n (pc := 0) X (j := 0) dX10_pointTold_0 rfl rfl ?_
  refine ww_iconst (pc := 1) X (v := 2) dX10_pointTold_1 (by decide) ?_
  refine ww_bipush (pc := 2) X (v := 20) dX10_pointTold_2 (by decide) ?_
  refine ww_iload_n (pc := 4) X (j := 1) dX10_pointTold_4 rfl rfl ?_
  obtain ⟨r2, σ3, h1, hF⟩ := bd2_some hF
  refine ww_callVi (pc := 5) X (As := [.int 2, .int 20, .int p1]) (rest := []) dX10_pointTold_5 (kX10_isFull (mL M) G X.2.2.2.2.2.2.1 X.2.2.2.2.2.2.2.1 σ 2 20 p1 (r2, σ3) h1) rfl shzM_0 clzM_10 gX10_pointTold_X10_isFull hyX10_isFull ⟨rfl, rfl⟩ ⟨Nat.le_of_ble_eq_true rfl, Nat.le_of_ble_eq_true rfl⟩ rfl rfl (Nat.le_of_ble_eq_true rfl) ?_
  refine ww_if_eq (pc := 8) (tgt := 12) X dX10_pointTold_8 (by decide) hF (fun h4 hF => ?_) (fun h4 hF => ?_)
  · refine ww_aload_n (pc := 12) X (j := 0) dX10_pointTold_12 rfl rfl ?_
    refine ww_iconst (pc := 13) X (v := 2) dX10_pointTold_13 (by decide) ?_
    obtain ⟨r6, σ7, h5, hF⟩ := bd2_some hF
    refine ww_callVi (pc := 14) X (As := [.int 2]) (rest := []) dX10_pointTold_14 (kX10_newName (mL M) G X.2.2.2.2.2.2.1 X.2.2.2.2.2.2.2.1 σ3 2 (r6, σ7) h5) rfl shzM_0 clzM_10 gX10_pointTold_X10_newName hyX10_newName ⟨rfl, rfl⟩ ⟨Nat.le_of_ble_eq_true rfl, Nat.le_of_ble_eq_true rfl⟩ rfl rfl (Nat.le_of_ble_eq_true rfl) ?_
    refine ww_istore_n (pc := 17) X (lv' := [(0, .ref (G.2.1 0)), (1, .int p1)]) dX10_pointTold_17 rfl (by decide) rfl hF (fun x8 ex8 hF => ?_)
    refine ww_aload_n (pc := 18) X (j := 1) dX10_pointTold_18 rfl rfl ?_
    refine ww_get (pc := 19) X (ref := "PictureBlockModel") (T := TX10) (j := 5) dX10_pointTold_19 inX10_pointTold_RX10 shzM_0 clzM_10 (by decide) rfl (List.mem_of_getElem? (i := 1) rfl) rfl ?_
    refine ww_if_ne (pc := 22) (tgt := 32) X dX10_pointTold_22 (by decide) hF (fun h9 hF => ?_) (fun h9 hF => ?_)
    · exact ww_vret (pc := 32) X dX10_pointTold_32 (by cases hF; rfl)
    · refine ww_aload_n (pc := 25) X (j := 1) dX10_pointTold_25 rfl rfl ?_
      refine ww_get (pc := 26) X (ref := "PictureBlockModel") (T := TX10) (j := 28) dX10_pointTold_26 inX10_pointTold_RX10 shzM_0 clzM_10 (by decide) rfl (List.mem_of_getElem? (i := 2) rfl) rfl ?_
      refine ww_iload_n (pc := 29) X (j := 0) dX10_pointTold_29 rfl rfl ?_
      refine ww_iconst (pc := 30) X (v := 0) dX10_pointTold_30 (by decide) ?_
      refine ww_iast (pc := 31) X dX10_pointTold_31 shzM_20 rfl hF (fun σ10 eσ10 bσ10 hF => ?_)
      exact ww_vret (pc := 32) X dX10_pointTold_32 (by cases hF; rfl)
  · exact ww_vret (pc := 11) X dX10_pointTold_11 (by cases hF; rfl)
set_option maxRecDepth 100000 in
set_option maxHeartbeats 4000000 in
theorem kX10_pointTold (l : Launch) (G : gG) (hG : gOK G zM.1) (hT : G.2.2.1.map (fun q => q.2) = zM.2.1) (σ : gS) (p1 : Int32) (out : gS) (hF : fX10_pointTold σ p1 = some out) : gCv l yX10_pointTold wsX10_pointTold rmX10_pointTold G zM [.ref (G.2.1 0), .int p1] σ out :=
  gEnter (by decide) rfl ⟨rfl, rfl⟩ hG hT (Nat.le_of_ble_eq_true rfl) rfl (fun M X hl => wX10_pointTold X σ p1 hF)
noncomputable def jX10_pictureTold_61 (σ : gS) (a2 : Int32) (a3 : Int32) (z0 : Int32) : Option (gS) :=
  nm (z0 : Int32) fun x24 => (if (σ.1 0 5) = 0 then gd (gb a2 24) <| nm (gsI σ 16 a2.toNatClampNeg a3) fun σ26 => gd (gb a2 24) <| nm (gsI σ26 17 a2.toNatClampNeg x24) fun σ27 => gd (gb a2 24) <| nm (gsI σ27 18 a2.toNatClampNeg 0) fun σ28 => some σ28 else some σ)
noncomputable def fX10_pictureTold (σ : gS) (p1 : Int32) : Option (gS) :=
  bd2 (fX10_isFull σ 1 12 p1) fun r2 σ3 => (if r2 = 0 then bd2 (fX10_newName σ3 1) fun r6 σ7 => nm (r6 : Int32) fun x8 => bd (fX10_asks σ7 4) fun σ10 => bd2 (fX10_oneOf σ10 0) fun r12 σ13 => nm (r12 : Int32) fun x14 => bd (fX10_asks σ13 5) fun σ16 => bd2 (fX10_takes σ16 6) fun r18 σ19 => (if r18 = 0 then bd2 (fX10_number σ19 0 3) fun r22 σ23 => jX10_pictureTold_61 σ23 x8 x14 r22 else jX10_pictureTold_61 σ19 x8 x14 4) else some σ3)
noncomputable abbrev rmX10_pictureTold : Room := { frames := 5, cells := 0, slots := 0, locals := 110 }
set_option maxRecDepth 100000 in
set_option maxHeartbeats 4000000 in
theorem wjX10_pictureTold_61 {M : gM} {G : gG} {out : gS} (X : gX M G zM cX10_pictureTold RX10 5 wsX10_pictureTold rmX10_pictureTold none) (σ : gS) (a2 : Int32) (a3 : Int32) (z0 : Int32) (hF : jX10_pictureTold_61 σ a2 a3 z0 = some out) : WW M (gQv M G zM out) G zM 5 σ 61 [(0, .ref (G.2.1 0)), (2, .int a2), (3, .int a3)] [.int z0] := by
  unfold jX10_pictureTold_61 at hF
  refine ww_istore (pc := 61) X (lv' := [(0, .ref (G.2.1 0)), (2, .int a2), (3, .int a3)]) dX10_pictureTold_61 (by decide) rfl hF (fun x24 ex24 hF => ?_)
  refine ww_aload_n (pc := 63) X (j := 1) dX10_pictureTold_63 rfl rfl ?_
  refine ww_get (pc := 64) X (ref := "PictureBlockModel") (T := TX10) (j := 5) dX10_pictureTold_64 inX10_pictureTold_RX10 shzM_0 clzM_10 (by decide) rfl (List.mem_of_getElem? (i := 4) rfl) rfl ?_
  refine ww_if_eq (pc := 67) (tgt := 71) X dX10_pictureTold_67 (by decide) hF (fun h25 hF => ?_) (fun h25 hF => ?_)
  · refine ww_aload_n (pc := 71) X (j := 1) dX10_pictureTold_71 rfl rfl ?_
    refine ww_get (pc := 72) X (ref := "PictureBlockModel") (T := TX10) (j := 24) dX10_pictureTold_72 inX10_pictureTold_RX10 shzM_0 clzM_10 (by decide) rfl (List.mem_of_getElem? (i := 5) rfl) rfl ?_
    refine ww_iload_n (pc := 75) X (j := 2) dX10_pictureTold_75 rfl rfl ?_
    refine ww_iload_n (pc := 76) X (j := 3) dX10_pictureTold_76 rfl rfl ?_
    refine ww_iast (pc := 77) X dX10_pictureTold_77 shzM_16 rfl hF (fun σ26 eσ26 bσ26 hF => ?_)
    refine ww_aload_n (pc := 78) X (j := 1) dX10_pictureTold_78 rfl rfl ?_
    refine ww_get (pc := 79) X (ref := "PictureBlockModel") (T := TX10) (j := 25) dX10_pictureTold_79 inX10_pictureTold_RX10 shzM_0 clzM_10 (by decide) rfl (List.mem_of_getElem? (i := 6) rfl) rfl ?_
    refine ww_iload_n (pc := 82) X (j := 2) dX10_pictureTold_82 rfl rfl ?_
    refine ww_iload (pc := 83) X (j := 0) dX10_pictureTold_83 rfl ?_
    refine ww_iast (pc := 85) X dX10_pictureTold_85 shzM_17 rfl hF (fun σ27 eσ27 bσ27 hF => ?_)
    refine ww_aload_n (pc := 86) X (j := 1) dX10_pictureTold_86 rfl rfl ?_
    refine ww_get (pc := 87) X (ref := "PictureBlockModel") (T := TX10) (j := 26) dX10_pictureTold_87 inX10_pictureTold_RX10 shzM_0 clzM_10 (by decide) rfl (List.mem_of_getElem? (i := 7) rfl) rfl ?_
    refine ww_iload_n (pc := 90) X (j := 2) dX10_pictureTold_90 rfl rfl ?_
    refine ww_iconst (pc := 91) X (v := 0) dX10_pictureTold_91 (by decide) ?_
    refine ww_iast (pc := 92) X dX10_pictureTold_92 shzM_18 rfl hF (fun σ28 eσ28 bσ28 hF => ?_)
    exact ww_vret (pc := 93) X dX10_pictureTold_93 (by cases hF; rfl)
  · exact ww_vret (pc := 70) X dX10_pictureTold_70 (by cases hF; rfl)
set_option maxRecDepth 100000 in
set_option maxHeartbeats 4000000 in
theorem wX10_pictureTold {M : gM} {G : gG} {out : gS} (X : gX M G zM cX10_pictureTold RX10 5 wsX10_pictureTold rmX10_pictureTold none) (σ : gS) (p1 : Int32) (hF : fX10_pictureTold σ p1 = some out) : WW M (gQv M G zM out) G zM 5 σ 0 [(0, .ref (G.2.1 0)), (1, .int p1)] [] := by
  unfold fX10_pictureTold at hF
  refine ww_aload_n (pc := 0) X (j := 0) dX10_pictureTold_0 rfl rfl ?_
  refine ww_iconst (pc := 1) X (v := 1) dX10_pictureTold_1 (by decide) ?_
  refine ww_bipush (pc := 2) X (v := 12) dX10_pictureTold_2 (by decide) ?_
  refine ww_iload_n (pc := 4) X (j := 1) dX10_pictureTold_4 rfl rfl ?_
  obtain ⟨r2, σ3, h1, hF⟩ := bd2_some hF
  refine ww_callVi (pc := 5) X (As := [.int 1, .int 12, .int p1]) (rest := []) dX10_pictureTold_5 (kX10_isFull (mL M) G X.2.2.2.2.2.2.1 X.2.2.2.2.2.2.2.1 σ 1 12 p1 (r2, σ3) h1) rfl shzM_0 clzM_10 gX10_pictureTold_X10_isFull hyX10_isFull ⟨rfl, rfl⟩ ⟨Nat.le_of_ble_eq_true rfl, Nat.le_of_ble_eq_true rfl⟩ rfl rfl (Nat.le_of_ble_eq_true rfl) ?_
  refine ww_if_eq (pc := 8) (tgt := 12) X dX10_pictureTold_8 (by decide) hF (fun h4 hF => ?_) (fun h4 hF => ?_)
  · refine ww_aload_n (pc := 12) X (j := 0) dX10_pictureTold_12 rfl rfl ?_
    refine ww_iconst (pc := 13) X (v := 1) dX10_pictureTold_13 (by decide) ?_
    obtain ⟨r6, σ7, h5, hF⟩ := bd2_some hF
    refine ww_callVi (pc := 14) X (As := [.int 1]) (rest := []) dX10_pictureTold_14 (kX10_newName (mL M) G X.2.2.2.2.2.2.1 X.2.2.2.2.2.2.2.1 σ3 1 (r6, σ7) h5) rfl shzM_0 clzM_10 gX10_pictureTold_X10_newName hyX10_newName ⟨rfl, rfl⟩ ⟨Nat.le_of_ble_eq_true rfl, Nat.le_of_ble_eq_true rfl⟩ rfl rfl (Nat.le_of_ble_eq_true rfl) ?_
    refine ww_istore_n (pc := 17) X (lv' := [(0, .ref (G.2.1 0)), (1, .int p1)]) dX10_pictureTold_17 rfl (by decide) rfl hF (fun x8 ex8 hF => ?_)
    refine ww_aload_n (pc := 18) X (j := 1) dX10_pictureTold_18 rfl rfl ?_
    refine ww_aload_n (pc := 19) X (j := 1) dX10_pictureTold_19 rfl rfl ?_
    refine ww_get (pc := 20) X (ref := "PictureBlockModel") (T := TX10) (j := 11) dX10_pictureTold_20 inX10_pictureTold_RX10 shzM_0 clzM_10 (by decide) rfl (List.mem_of_getElem? (i := 1) rfl) rfl ?_
    obtain ⟨σ10, h9, hF⟩ := bd_some hF
    refine ww_callVv (pc := 23) X (As := [.ref (G.2.1 4)]) (rest := []) dX10_pictureTold_23 (kX10_asks (mL M) G X.2.2.2.2.2.2.1 X.2.2.2.2.2.2.2.1 σ7 4 σ10 h9) rfl shzM_0 clzM_10 gX10_pictureTold_X10_asks hyX10_asks ⟨rfl, rfl⟩ ⟨Nat.le_of_ble_eq_true rfl, Nat.le_of_ble_eq_true rfl⟩ rfl rfl (Nat.le_of_ble_eq_true rfl) ?_
    refine ww_aload_n (pc := 26) X (j := 1) dX10_pictureTold_26 rfl rfl ?_
    refine ww_iconst (pc := 27) X (v := 0) dX10_pictureTold_27 (by decide) ?_
    obtain ⟨r12, σ13, h11, hF⟩ := bd2_some hF
    refine ww_callVi (pc := 28) X (As := [.int 0]) (rest := []) dX10_pictureTold_28 (kX10_oneOf (mL M) G X.2.2.2.2.2.2.1 X.2.2.2.2.2.2.2.1 σ10 0 (r12, σ13) h11) rfl shzM_0 clzM_10 gX10_pictureTold_X10_oneOf hyX10_oneOf ⟨rfl, rfl⟩ ⟨Nat.le_of_ble_eq_true rfl, Nat.le_of_ble_eq_true rfl⟩ rfl rfl (Nat.le_of_ble_eq_true rfl) ?_
    refine ww_istore_n (pc := 31) X (lv' := [(2, .int x8), (0, .ref (G.2.1 0)), (1, .int p1)]) dX10_pictureTold_31 rfl (by decide) rfl hF (fun x14 ex14 hF => ?_)
    refine ww_aload_n (pc := 32) X (j := 2) dX10_pictureTold_32 rfl rfl ?_
    refine ww_aload_n (pc := 33) X (j := 2) dX10_pictureTold_33 rfl rfl ?_
    refine ww_get (pc := 34) X (ref := "PictureBlockModel") (T := TX10) (j := 12) dX10_pictureTold_34 inX10_pictureTold_RX10 shzM_0 clzM_10 (by decide) rfl (List.mem_of_getElem? (i := 2) rfl) rfl ?_
    obtain ⟨σ16, h15, hF⟩ := bd_some hF
    refine ww_callVv (pc := 37) X (As := [.ref (G.2.1 5)]) (rest := []) dX10_pictureTold_37 (kX10_asks (mL M) G X.2.2.2.2.2.2.1 X.2.2.2.2.2.2.2.1 σ13 5 σ16 h15) rfl shzM_0 clzM_10 gX10_pictureTold_X10_asks hyX10_asks ⟨rfl, rfl⟩ ⟨Nat.le_of_ble_eq_true rfl, Nat.le_of_ble_eq_true rfl⟩ rfl rfl (Nat.le_of_ble_eq_true rfl) ?_
    refine ww_aload_n (pc := 40) X (j := 2) dX10_pictureTold_40 rfl rfl ?_
    refine ww_aload_n (pc := 41) X (j := 2) dX10_pictureTold_41 rfl rfl ?_
    refine ww_get (pc := 42) X (ref := "PictureBlockModel") (T := TX10) (j := 13) dX10_pictureTold_42 inX10_pictureTold_RX10 shzM_0 clzM_10 (by decide) rfl (List.mem_of_getElem? (i := 3) rfl) rfl ?_
    obtain ⟨r18, σ19, h17, hF⟩ := bd2_some hF
    refine ww_callVi (pc := 45) X (As := [.ref (G.2.1 6)]) (rest := []) dX10_pictureTold_45 (kX10_takes (mL M) G X.2.2.2.2.2.2.1 X.2.2.2.2.2.2.2.1 σ16 6 (r18, σ19) h17) rfl shzM_0 clzM_10 gX10_pictureTold_X10_takes hyX10_takes ⟨rfl, rfl⟩ ⟨Nat.le_of_ble_eq_true rfl, Nat.le_of_ble_eq_true rfl⟩ rfl rfl (Nat.le_of_ble_eq_true rfl) ?_
    refine ww_if_eq (pc := 48) (tgt := 55) X dX10_pictureTold_48 (by decide) hF (fun h20 hF => ?_) (fun h20 hF => ?_)
    · refine ww_aload_n (pc := 55) X (j := 2) dX10_pictureTold_55 rfl rfl ?_
      refine ww_iconst (pc := 56) X (v := 0) dX10_pictureTold_56 (by decide) ?_
      refine ww_iconst (pc := 57) X (v := 3) dX10_pictureTold_57 (by decide) ?_
      obtain ⟨r22, σ23, h21, hF⟩ := bd2_some hF
      refine ww_callVi (pc := 58) X (As := [.int 0, .int 3]) (rest := []) dX10_pictureTold_58 (kX10_number (mL M) G X.2.2.2.2.2.2.1 X.2.2.2.2.2.2.2.1 σ19 0 3 (r22, σ23) h21) rfl shzM_0 clzM_10 gX10_pictureTold_X10_number hyX10_number ⟨rfl, rfl⟩ ⟨Nat.le_of_ble_eq_true rfl, Nat.le_of_ble_eq_true rfl⟩ rfl rfl (Nat.le_of_ble_eq_true rfl) ?_
      exact ww_sub [2, 1, 0] rfl (wjX10_pictureTold_61 X σ23 x8 x14 r22 hF)
    · refine ww_iconst (pc := 51) X (v := 4) dX10_pictureTold_51 (by decide) ?_
      refine ww_goto (pc := 52) X (tgt := 61) dX10_pictureTold_52 (by decide) ?_
      exact ww_sub [2, 1, 0] rfl (wjX10_pictureTold_61 X σ19 x8 x14 4 hF)
  · exact ww_vret (pc := 11) X dX10_pictureTold_11 (by cases hF; rfl)
set_option maxRecDepth 100000 in
set_option maxHeartbeats 4000000 in
theorem kX10_pictureTold (l : Launch) (G : gG) (hG : gOK G zM.1) (hT : G.2.2.1.map (fun q => q.2) = zM.2.1) (σ : gS) (p1 : Int32) (out : gS) (hF : fX10_pictureTold σ p1 = some out) : gCv l yX10_pictureTold wsX10_pictureTold rmX10_pictureTold G zM [.ref (G.2.1 0), .int p1] σ out :=
  gEnter (by decide) rfl ⟨rfl, rfl⟩ hG hT (Nat.le_of_ble_eq_true rfl) rfl (fun M X hl => wX10_pictureTold X σ p1 hF)
noncomputable def jX10_blockTold_147 (σ : gS) : Option (gS) :=
  bd (fX10_asksSign σ 59) fun σ27 => nm (gsI σ27 0 34 ((σ27.1 0 34) + 1)) fun σ28 => some σ28
noncomputable def fX10_blockTold (σ : gS) : Option (gS) :=
  nm (σ.1 0 2 : Int32) fun x1 => (if (σ.1 0 34) = 120 then bd (fX10_fail σ 4 x1) fun σ47 => some σ47 else bd2 (fX10_takes σ 2) fun r4 σ5 => (if r4 = 0 then bd2 (fX10_takes σ5 3) fun r8 σ9 => (if r8 = 0 then bd2 (fX10_takes σ9 7) fun r12 σ13 => (if r12 = 0 then bd2 (fX10_takes σ13 8) fun r16 σ17 => (if r16 = 0 then bd2 (fX10_takes σ17 11) fun r20 σ21 => (if r20 = 0 then bd (fX10_asks σ21 13) fun σ24 => (if (σ24.1 0 5) = 0 then bd (fX10_centreTold σ24) fun σ30 => jX10_blockTold_147 σ30 else jX10_blockTold_147 σ24) else bd (fX10_controlTold σ21 x1) fun σ32 => jX10_blockTold_147 σ32) else bd (fX10_rowTold σ17 x1) fun σ34 => jX10_blockTold_147 σ34) else bd (fX10_pointTold σ13 x1) fun σ36 => jX10_blockTold_147 σ36) else bd (fX10_pictureTold σ9 x1) fun σ38 => jX10_blockTold_147 σ38) else bd2 (fX10_isFull σ5 0 6 x1) fun r40 σ41 => (if r40 = 0 then bd2 (fX10_newName σ41 0) fun r44 σ45 => jX10_blockTold_147 σ45 else jX10_blockTold_147 σ41)))
noncomputable abbrev rmX10_blockTold : Room := { frames := 6, cells := 0, slots := 0, locals := 135 }
set_option maxRecDepth 100000 in
set_option maxHeartbeats 4000000 in
theorem wjX10_blockTold_147 {M : gM} {G : gG} {out : gS} (X : gX M G zM cX10_blockTold RX10 2 wsX10_blockTold rmX10_blockTold none) (σ : gS) (hF : jX10_blockTold_147 σ = some out) : WW M (gQv M G zM out) G zM 2 σ 147 [(0, .ref (G.2.1 0))] [] := by
  unfold jX10_blockTold_147 at hF
  refine ww_aload_n (pc := 147) X (j := 0) dX10_blockTold_147 rfl rfl ?_
  refine ww_bipush (pc := 148) X (v := 59) dX10_blockTold_148 (by decide) ?_
  obtain ⟨σ27, h26, hF⟩ := bd_some hF
  refine ww_callVv (pc := 150) X (As := [.int 59]) (rest := []) dX10_blockTold_150 (kX10_asksSign (mL M) G X.2.2.2.2.2.2.1 X.2.2.2.2.2.2.2.1 σ 59 σ27 h26) rfl shzM_0 clzM_10 gX10_blockTold_X10_asksSign hyX10_asksSign ⟨rfl, rfl⟩ ⟨Nat.le_of_ble_eq_true rfl, Nat.le_of_ble_eq_true rfl⟩ rfl rfl (Nat.le_of_ble_eq_true rfl) ?_
  refine ww_aload_n (pc := 153) X (j := 0) dX10_blockTold_153 rfl rfl ?_
  refine ww_dup (pc := 154) X dX10_blockTold_154 rfl ?_
  refine ww_get (pc := 155) X (ref := "PictureBlockModel") (T := TX10) (j := 34) dX10_blockTold_155 inX10_blockTold_RX10 shzM_0 clzM_10 (by decide) rfl (List.mem_of_getElem? (i := 2) rfl) rfl ?_
  refine ww_iconst (pc := 158) X (v := 1) dX10_blockTold_158 (by decide) ?_
  refine ww_iadd (pc := 159) X dX10_blockTold_159 ?_
  refine ww_putI (pc := 160) X (ref := "PictureBlockModel") (T := TX10) (j := 34) dX10_blockTold_160 inX10_blockTold_RX10 tyX10 tyX10_ok nmX10 shzM_0 clzM_10 (by decide) rfl (List.mem_of_getElem? (i := 2) rfl) rfl rfl (by decide +kernel) hF (fun σ28 eσ28 hF => ?_)
  exact ww_vret (pc := 163) X dX10_blockTold_163 (by cases hF; rfl)
set_option maxRecDepth 100000 in
set_option maxHeartbeats 4000000 in
theorem wX10_blockTold {M : gM} {G : gG} {out : gS} (X : gX M G zM cX10_blockTold RX10 2 wsX10_blockTold rmX10_blockTold none) (σ : gS) (hF : fX10_blockTold σ = some out) : WW M (gQv M G zM out) G zM 2 σ 0 [(0, .ref (G.2.1 0))] [] := by
  unfold fX10_blockTold at hF
  refine ww_aload_n (pc := 0) X (j := 0) dX10_blockTold_0 rfl rfl ?_
  refine ww_get (pc := 1) X (ref := "PictureBlockModel") (T := TX10) (j := 2) dX10_blockTold_1 inX10_blockTold_RX10 shzM_0 clzM_10 (by decide) rfl (List.mem_of_getElem? (i := 1) rfl) rfl ?_
  refine ww_istore_n (pc := 4) X (lv' := [(0, .ref (G.2.1 0))]) dX10_blockTold_4 rfl (by decide) rfl hF (fun x1 ex1 hF => ?_)
  refine ww_aload_n (pc := 5) X (j := 1) dX10_blockTold_5 rfl rfl ?_
  refine ww_get (pc := 6) X (ref := "PictureBlockModel") (T := TX10) (j := 34) dX10_blockTold_6 inX10_blockTold_RX10 shzM_0 clzM_10 (by decide) rfl (List.mem_of_getElem? (i := 2) rfl) rfl ?_
  refine ww_bipush (pc := 9) X (v := 120) dX10_blockTold_9 (by decide) ?_
  refine ww_icmp_ne (pc := 11) (tgt := 21) X dX10_blockTold_11 (by decide) hF (fun h2 hF => ?_) (fun h2 hF => ?_)
  · refine ww_aload_n (pc := 21) X (j := 1) dX10_blockTold_21 rfl rfl ?_
    refine ww_aload_n (pc := 22) X (j := 1) dX10_blockTold_22 rfl rfl ?_
    refine ww_get (pc := 23) X (ref := "PictureBlockModel") (T := TX10) (j := 9) dX10_blockTold_23 inX10_blockTold_RX10 shzM_0 clzM_10 (by decide) rfl (List.mem_of_getElem? (i := 3) rfl) rfl ?_
    obtain ⟨r4, σ5, h3, hF⟩ := bd2_some hF
    refine ww_callVi (pc := 26) X (As := [.ref (G.2.1 2)]) (rest := []) dX10_blockTold_26 (kX10_takes (mL M) G X.2.2.2.2.2.2.1 X.2.2.2.2.2.2.2.1 σ 2 (r4, σ5) h3) rfl shzM_0 clzM_10 gX10_blockTold_X10_takes hyX10_takes ⟨rfl, rfl⟩ ⟨Nat.le_of_ble_eq_true rfl, Nat.le_of_ble_eq_true rfl⟩ rfl rfl (Nat.le_of_ble_eq_true rfl) ?_
    refine ww_if_eq (pc := 29) (tgt := 52) X dX10_blockTold_29 (by decide) hF (fun h6 hF => ?_) (fun h6 hF => ?_)
    · refine ww_aload_n (pc := 52) X (j := 1) dX10_blockTold_52 rfl rfl ?_
      refine ww_aload_n (pc := 53) X (j := 1) dX10_blockTold_53 rfl rfl ?_
      refine ww_get (pc := 54) X (ref := "PictureBlockModel") (T := TX10) (j := 10) dX10_blockTold_54 inX10_blockTold_RX10 shzM_0 clzM_10 (by decide) rfl (List.mem_of_getElem? (i := 4) rfl) rfl ?_
      obtain ⟨r8, σ9, h7, hF⟩ := bd2_some hF
      refine ww_callVi (pc := 57) X (As := [.ref (G.2.1 3)]) (rest := []) dX10_blockTold_57 (kX10_takes (mL M) G X.2.2.2.2.2.2.1 X.2.2.2.2.2.2.2.1 σ5 3 (r8, σ9) h7) rfl shzM_0 clzM_10 gX10_blockTold_X10_takes hyX10_takes ⟨rfl, rfl⟩ ⟨Nat.le_of_ble_eq_true rfl, Nat.le_of_ble_eq_true rfl⟩ rfl rfl (Nat.le_of_ble_eq_true rfl) ?_
      refine ww_if_eq (pc := 60) (tgt := 71) X dX10_blockTold_60 (by decide) hF (fun h10 hF => ?_) (fun h10 hF => ?_)
      · refine ww_aload_n (pc := 71) X (j := 1) dX10_blockTold_71 rfl rfl ?_
        refine ww_aload_n (pc := 72) X (j := 1) dX10_blockTold_72 rfl rfl ?_
        refine ww_get (pc := 73) X (ref := "PictureBlockModel") (T := TX10) (j := 14) dX10_blockTold_73 inX10_blockTold_RX10 shzM_0 clzM_10 (by decide) rfl (List.mem_of_getElem? (i := 5) rfl) rfl ?_
        obtain ⟨r12, σ13, h11, hF⟩ := bd2_some hF
        refine ww_callVi (pc := 76) X (As := [.ref (G.2.1 7)]) (rest := []) dX10_blockTold_76 (kX10_takes (mL M) G X.2.2.2.2.2.2.1 X.2.2.2.2.2.2.2.1 σ9 7 (r12, σ13) h11) rfl shzM_0 clzM_10 gX10_blockTold_X10_takes hyX10_takes ⟨rfl, rfl⟩ ⟨Nat.le_of_ble_eq_true rfl, Nat.le_of_ble_eq_true rfl⟩ rfl rfl (Nat.le_of_ble_eq_true rfl) ?_
        refine ww_if_eq (pc := 79) (tgt := 90) X dX10_blockTold_79 (by decide) hF (fun h14 hF => ?_) (fun h14 hF => ?_)
        · refine ww_aload_n (pc := 90) X (j := 1) dX10_blockTold_90 rfl rfl ?_
          refine ww_aload_n (pc := 91) X (j := 1) dX10_blockTold_91 rfl rfl ?_
          refine ww_get (pc := 92) X (ref := "PictureBlockModel") (T := TX10) (j := 15) dX10_blockTold_92 inX10_blockTold_RX10 shzM_0 clzM_10 (by decide) rfl (List.mem_of_getElem? (i := 6) rfl) rfl ?_
          obtain ⟨r16, σ17, h15, hF⟩ := bd2_some hF
          refine ww_callVi (pc := 95) X (As := [.ref (G.2.1 8)]) (rest := []) dX10_blockTold_95 (kX10_takes (mL M) G X.2.2.2.2.2.2.1 X.2.2.2.2.2.2.2.1 σ13 8 (r16, σ17) h15) rfl shzM_0 clzM_10 gX10_blockTold_X10_takes hyX10_takes ⟨rfl, rfl⟩ ⟨Nat.le_of_ble_eq_true rfl, Nat.le_of_ble_eq_true rfl⟩ rfl rfl (Nat.le_of_ble_eq_true rfl) ?_
          refine ww_if_eq (pc := 98) (tgt := 109) X dX10_blockTold_98 (by decide) hF (fun h18 hF => ?_) (fun h18 hF => ?_)
          · refine ww_aload_n (pc := 109) X (j := 1) dX10_blockTold_109 rfl rfl ?_
            refine ww_aload_n (pc := 110) X (j := 1) dX10_blockTold_110 rfl rfl ?_
            refine ww_get (pc := 111) X (ref := "PictureBlockModel") (T := TX10) (j := 18) dX10_blockTold_111 inX10_blockTold_RX10 shzM_0 clzM_10 (by decide) rfl (List.mem_of_getElem? (i := 7) rfl) rfl ?_
            obtain ⟨r20, σ21, h19, hF⟩ := bd2_some hF
            refine ww_callVi (pc := 114) X (As := [.ref (G.2.1 11)]) (rest := []) dX10_blockTold_114 (kX10_takes (mL M) G X.2.2.2.2.2.2.1 X.2.2.2.2.2.2.2.1 σ17 11 (r20, σ21) h19) rfl shzM_0 clzM_10 gX10_blockTold_X10_takes hyX10_takes ⟨rfl, rfl⟩ ⟨Nat.le_of_ble_eq_true rfl, Nat.le_of_ble_eq_true rfl⟩ rfl rfl (Nat.le_of_ble_eq_true rfl) ?_
            refine ww_if_eq (pc := 117) (tgt := 128) X dX10_blockTold_117 (by decide) hF (fun h22 hF => ?_) (fun h22 hF => ?_)
            · refine ww_aload_n (pc := 128) X (j := 1) dX10_blockTold_128 rfl rfl ?_
              refine ww_aload_n (pc := 129) X (j := 1) dX10_blockTold_129 rfl rfl ?_
              refine ww_get (pc := 130) X (ref := "PictureBlockModel") (T := TX10) (j := 20) dX10_blockTold_130 inX10_blockTold_RX10 shzM_0 clzM_10 (by decide) rfl (List.mem_of_getElem? (i := 8) rfl) rfl ?_
              obtain ⟨σ24, h23, hF⟩ := bd_some hF
              refine ww_callVv (pc := 133) X (As := [.ref (G.2.1 13)]) (rest := []) dX10_blockTold_133 (kX10_asks (mL M) G X.2.2.2.2.2.2.1 X.2.2.2.2.2.2.2.1 σ21 13 σ24 h23) rfl shzM_0 clzM_10 gX10_blockTold_X10_asks hyX10_asks ⟨rfl, rfl⟩ ⟨Nat.le_of_ble_eq_true rfl, Nat.le_of_ble_eq_true rfl⟩ rfl rfl (Nat.le_of_ble_eq_true rfl) ?_
              refine ww_aload_n (pc := 136) X (j := 1) dX10_blockTold_136 rfl rfl ?_
              refine ww_get (pc := 137) X (ref := "PictureBlockModel") (T := TX10) (j := 5) dX10_blockTold_137 inX10_blockTold_RX10 shzM_0 clzM_10 (by decide) rfl (List.mem_of_getElem? (i := 9) rfl) rfl ?_
              refine ww_if_ne (pc := 140) (tgt := 147) X dX10_blockTold_140 (by decide) hF (fun h25 hF => ?_) (fun h25 hF => ?_)
              · exact ww_sub [1] rfl (wjX10_blockTold_147 X σ24 hF)
              · refine ww_aload_n (pc := 143) X (j := 1) dX10_blockTold_143 rfl rfl ?_
                obtain ⟨σ30, h29, hF⟩ := bd_some hF
                refine ww_callVv (pc := 144) X (As := []) (rest := []) dX10_blockTold_144 (kX10_centreTold (mL M) G X.2.2.2.2.2.2.1 X.2.2.2.2.2.2.2.1 σ24 σ30 h29) rfl shzM_0 clzM_10 gX10_blockTold_X10_centreTold hyX10_centreTold ⟨rfl, rfl⟩ ⟨Nat.le_of_ble_eq_true rfl, Nat.le_of_ble_eq_true rfl⟩ rfl rfl (Nat.le_of_ble_eq_true rfl) ?_
                exact ww_sub [1] rfl (wjX10_blockTold_147 X σ30 hF)
            · refine ww_aload_n (pc := 120) X (j := 1) dX10_blockTold_120 rfl rfl ?_
              refine ww_iload_n (pc := 121) X (j := 0) dX10_blockTold_121 rfl rfl ?_
              obtain ⟨σ32, h31, hF⟩ := bd_some hF
              refine ww_callVv (pc := 122) X (As := [.int x1]) (rest := []) dX10_blockTold_122 (kX10_controlTold (mL M) G X.2.2.2.2.2.2.1 X.2.2.2.2.2.2.2.1 σ21 x1 σ32 h31) rfl shzM_0 clzM_10 gX10_blockTold_X10_controlTold hyX10_controlTold ⟨rfl, rfl⟩ ⟨Nat.le_of_ble_eq_true rfl, Nat.le_of_ble_eq_true rfl⟩ rfl rfl (Nat.le_of_ble_eq_true rfl) ?_
              refine ww_goto (pc := 125) X (tgt := 147) dX10_blockTold_125 (by decide) ?_
              exact ww_sub [1] rfl (wjX10_blockTold_147 X σ32 hF)
          · refine ww_aload_n (pc := 101) X (j := 1) dX10_blockTold_101 rfl rfl ?_
            refine ww_iload_n (pc := 102) X (j := 0) dX10_blockTold_102 rfl rfl ?_
            obtain ⟨σ34, h33, hF⟩ := bd_some hF
            refine ww_callVv (pc := 103) X (As := [.int x1]) (rest := []) dX10_blockTold_103 (kX10_rowTold (mL M) G X.2.2.2.2.2.2.1 X.2.2.2.2.2.2.2.1 σ17 x1 σ34 h33) rfl shzM_0 clzM_10 gX10_blockTold_X10_rowTold hyX10_rowTold ⟨rfl, rfl⟩ ⟨Nat.le_of_ble_eq_true rfl, Nat.le_of_ble_eq_true rfl⟩ rfl rfl (Nat.le_of_ble_eq_true rfl) ?_
            refine ww_goto (pc := 106) X (tgt := 147) dX10_blockTold_106 (by decide) ?_
            exact ww_sub [1] rfl (wjX10_blockTold_147 X σ34 hF)
        · refine ww_aload_n (pc := 82) X (j := 1) dX10_blockTold_82 rfl rfl ?_
          refine ww_iload_n (pc := 83) X (j := 0) dX10_blockTold_83 rfl rfl ?_
          obtain ⟨σ36, h35, hF⟩ := bd_some hF
          refine ww_callVv (pc := 84) X (As := [.int x1]) (rest := []) dX10_blockTold_84 (kX10_pointTold (mL M) G X.2.2.2.2.2.2.1 X.2.2.2.2.2.2.2.1 σ13 x1 σ36 h35) rfl shzM_0 clzM_10 gX10_blockTold_X10_pointTold hyX10_pointTold ⟨rfl, rfl⟩ ⟨Nat.le_of_ble_eq_true rfl, Nat.le_of_ble_eq_true rfl⟩ rfl rfl (Nat.le_of_ble_eq_true rfl) ?_
          refine ww_goto (pc := 87) X (tgt := 147) dX10_blockTold_87 (by decide) ?_
          exact ww_sub [1] rfl (wjX10_blockTold_147 X σ36 hF)
      · refine ww_aload_n (pc := 63) X (j := 1) dX10_blockTold_63 rfl rfl ?_
        refine ww_iload_n (pc := 64) X (j := 0) dX10_blockTold_64 rfl rfl ?_
        obtain ⟨σ38, h37, hF⟩ := bd_some hF
        refine ww_callVv (pc := 65) X (As := [.int x1]) (rest := []) dX10_blockTold_65 (kX10_pictureTold (mL M) G X.2.2.2.2.2.2.1 X.2.2.2.2.2.2.2.1 σ9 x1 σ38 h37) rfl shzM_0 clzM_10 gX10_blockTold_X10_pictureTold hyX10_pictureTold ⟨rfl, rfl⟩ ⟨Nat.le_of_ble_eq_true rfl, Nat.le_of_ble_eq_true rfl⟩ rfl rfl (Nat.le_of_ble_eq_true rfl) ?_
        refine ww_goto (pc := 68) X (tgt := 147) dX10_blockTold_68 (by decide) ?_
        exact ww_sub [1] rfl (wjX10_blockTold_147 X σ38 hF)
    · refine ww_aload_n (pc := 32) X (j := 1) dX10_blockTold_32 rfl rfl ?_
      refine ww_iconst (pc := 33) X (v := 0) dX10_blockTold_33 (by decide) ?_
      refine ww_bipush (pc := 34) X (v := 6) dX10_blockTold_34 (by decide) ?_
      refine ww_iload_n (pc := 36) X (j := 0) dX10_blockTold_36 rfl rfl ?_
      obtain ⟨r40, σ41, h39, hF⟩ := bd2_some hF
      refine ww_callVi (pc := 37) X (As := [.int 0, .int 6, .int x1]) (rest := []) dX10_blockTold_37 (kX10_isFull (mL M) G X.2.2.2.2.2.2.1 X.2.2.2.2.2.2.2.1 σ5 0 6 x1 (r40, σ41) h39) rfl shzM_0 clzM_10 gX10_blockTold_X10_isFull hyX10_isFull ⟨rfl, rfl⟩ ⟨Nat.le_of_ble_eq_true rfl, Nat.le_of_ble_eq_true rfl⟩ rfl rfl (Nat.le_of_ble_eq_true rfl) ?_
      refine ww_if_ne (pc := 40) (tgt := 147) X dX10_blockTold_40 (by decide) hF (fun h42 hF => ?_) (fun h42 hF => ?_)
      · exact ww_sub [1] rfl (wjX10_blockTold_147 X σ41 hF)
      · refine ww_aload_n (pc := 43) X (j := 1) dX10_blockTold_43 rfl rfl ?_
        refine ww_iconst (pc := 44) X (v := 0) dX10_blockTold_44 (by decide) ?_
        obtain ⟨r44, σ45, h43, hF⟩ := bd2_some hF
        refine ww_callVi (pc := 45) X (As := [.int 0]) (rest := []) dX10_blockTold_45 (kX10_newName (mL M) G X.2.2.2.2.2.2.1 X.2.2.2.2.2.2.2.1 σ41 0 (r44, σ45) h43) rfl shzM_0 clzM_10 gX10_blockTold_X10_newName hyX10_newName ⟨rfl, rfl⟩ ⟨Nat.le_of_ble_eq_true rfl, Nat.le_of_ble_eq_true rfl⟩ rfl rfl (Nat.le_of_ble_eq_true rfl) ?_
        refine ww_pop (pc := 48) X dX10_blockTold_48 rfl ?_
        refine ww_goto (pc := 49) X (tgt := 147) dX10_blockTold_49 (by decide) ?_
        exact ww_sub [1] rfl (wjX10_blockTold_147 X σ45 hF)
  · refine ww_aload_n (pc := 14) X (j := 1) dX10_blockTold_14 rfl rfl ?_
    refine ww_iconst (pc := 15) X (v := 4) dX10_blockTold_15 (by decide) ?_
    refine ww_iload_n (pc := 16) X (j := 0) dX10_blockTold_16 rfl rfl ?_
    obtain ⟨σ47, h46, hF⟩ := bd_some hF
    refine ww_callVv (pc := 17) X (As := [.int 4, .int x1]) (rest := []) dX10_blockTold_17 (kX10_fail (mL M) G X.2.2.2.2.2.2.1 X.2.2.2.2.2.2.2.1 σ 4 x1 σ47 h46) rfl shzM_0 clzM_10 gX10_blockTold_X10_fail hyX10_fail ⟨rfl, rfl⟩ ⟨Nat.le_of_ble_eq_true rfl, Nat.le_of_ble_eq_true rfl⟩ rfl rfl (Nat.le_of_ble_eq_true rfl) ?_
    exact ww_vret (pc := 20) X dX10_blockTold_20 (by cases hF; rfl)
set_option maxRecDepth 100000 in
set_option maxHeartbeats 4000000 in
theorem kX10_blockTold (l : Launch) (G : gG) (hG : gOK G zM.1) (hT : G.2.2.1.map (fun q => q.2) = zM.2.1) (σ : gS) (out : gS) (hF : fX10_blockTold σ = some out) : gCv l yX10_blockTold wsX10_blockTold rmX10_blockTold G zM [.ref (G.2.1 0)] σ out :=
  gEnter (by decide) rfl ⟨rfl, rfl⟩ hG hT (Nat.le_of_ble_eq_true rfl) rfl (fun M X hl => wX10_blockTold X σ hF)
noncomputable def jX10_block_81 (σ : gS) : Option (Int32 × gS) :=
  nm (gsI σ 0 7 (σ.1 0 5)) fun σ11 => nm (gsI σ11 0 8 (σ11.1 0 6)) fun σ12 => (if (σ12.1 0 5) = 0 then bd (fX10_stands σ12) fun σ15 => some (σ15.1 0 34, σ15) else some ((-1), σ12))
noncomputable def bX10_block_59 (σ : gS) (rec59 : gS → Option (Int32 × gS)) (σ1 : gS) : Option (Int32 × gS) :=
  if (σ1.1 0 5) = 0 then bd2 (fX10_look σ1) fun r17 σ18 => (if r17 = ((-1)) then jX10_block_81 σ18 else bd (fX10_blockTold σ18) fun σ21 => rec59 σ21) else jX10_block_81 σ1
noncomputable def bX10_block_40 (σ : gS) (rec40 : Int32 → gS → Option (Int32 × gS)) (a1 : Int32) (σ1 : gS) : Option (Int32 × gS) :=
  if 6 ≤ a1 then lpc (S := gS) K9 (fun rec s => bX10_block_59 σ1 (fun σ1 => rec (σ1)) s) (σ1) else gd (gb a1 12) <| nm (gsI σ1 15 a1.toNatClampNeg 0) fun σ22 => nm (a1 + 1 : Int32) fun x23 => rec40 x23 σ22
noncomputable def fX10_block (σ : gS) : Option (Int32 × gS) :=
  nm (gsI σ 0 3 (σ.1 0 1)) fun σ1 => nm (gsI σ1 0 1 0) fun σ2 => nm (gsI σ2 0 2 0) fun σ3 => nm (gsI σ3 0 4 ((-1))) fun σ4 => nm (gsI σ4 0 5 0) fun σ5 => nm (gsI σ5 0 6 ((-1))) fun σ6 => nm (gsI σ6 0 34 0) fun σ7 => nm (0 : Int32) fun x8 => lpc (S := Int32 × gS) K9 (fun rec s => bX10_block_40 σ7 (fun a1 σ1 => rec (a1, σ1)) s.1 s.2) (x8, σ7)
noncomputable abbrev rmX10_block : Room := { frames := 7, cells := 0, slots := 0, locals := 167 }
set_option maxRecDepth 100000 in
set_option maxHeartbeats 4000000 in
theorem wjX10_block_81 {M : gM} {G : gG} {out : Int32 × gS} (X : gX M G zM cX10_block RX10 2 wsX10_block rmX10_block (some .int)) (σ : gS) (hF : jX10_block_81 σ = some out) : WW M (gQi M G zM out.1 out.2) G zM 2 σ 81 [(0, .ref (G.2.1 0))] [] := by
  unfold jX10_block_81 at hF
  refine ww_aload_n (pc := 81) X (j := 0) dX10_block_81 rfl rfl ?_
  refine ww_aload_n (pc := 82) X (j := 0) dX10_block_82 rfl rfl ?_
  refine ww_get (pc := 83) X (ref := "PictureBlockModel") (T := TX10) (j := 5) dX10_block_83 inX10_block_RX10 shzM_0 clzM_10 (by decide) rfl (List.mem_of_getElem? (i := 5) rfl) rfl ?_
  refine ww_putI (pc := 86) X (ref := "PictureBlockModel") (T := TX10) (j := 7) dX10_block_86 inX10_block_RX10 tyX10 tyX10_ok nmX10 shzM_0 clzM_10 (by decide) rfl (List.mem_of_getElem? (i := 9) rfl) rfl rfl (by decide +kernel) hF (fun σ11 eσ11 hF => ?_)
  refine ww_aload_n (pc := 89) X (j := 0) dX10_block_89 rfl rfl ?_
  refine ww_aload_n (pc := 90) X (j := 0) dX10_block_90 rfl rfl ?_
  refine ww_get (pc := 91) X (ref := "PictureBlockModel") (T := TX10) (j := 6) dX10_block_91 inX10_block_RX10 shzM_0 clzM_10 (by decide) rfl (List.mem_of_getElem? (i := 6) rfl) rfl ?_
  refine ww_putI (pc := 94) X (ref := "PictureBlockModel") (T := TX10) (j := 8) dX10_block_94 inX10_block_RX10 tyX10 tyX10_ok nmX10 shzM_0 clzM_10 (by decide) rfl (List.mem_of_getElem? (i := 10) rfl) rfl rfl (by decide +kernel) hF (fun σ12 eσ12 hF => ?_)
  refine ww_aload_n (pc := 97) X (j := 0) dX10_block_97 rfl rfl ?_
  refine ww_get (pc := 98) X (ref := "PictureBlockModel") (T := TX10) (j := 5) dX10_block_98 inX10_block_RX10 shzM_0 clzM_10 (by decide) rfl (List.mem_of_getElem? (i := 5) rfl) rfl ?_
  refine ww_if_eq (pc := 101) (tgt := 106) X dX10_block_101 (by decide) hF (fun h13 hF => ?_) (fun h13 hF => ?_)
  · refine ww_aload_n (pc := 106) X (j := 0) dX10_block_106 rfl rfl ?_
    obtain ⟨σ15, h14, hF⟩ := bd_some hF
    refine ww_callVv (pc := 107) X (As := []) (rest := []) dX10_block_107 (kX10_stands (mL M) G X.2.2.2.2.2.2.1 X.2.2.2.2.2.2.2.1 σ12 σ15 h14) rfl shzM_0 clzM_10 gX10_block_X10_stands hyX10_stands ⟨rfl, rfl⟩ ⟨Nat.le_of_ble_eq_true rfl, Nat.le_of_ble_eq_true rfl⟩ rfl rfl (Nat.le_of_ble_eq_true rfl) ?_
    refine ww_aload_n (pc := 110) X (j := 0) dX10_block_110 rfl rfl ?_
    refine ww_get (pc := 111) X (ref := "PictureBlockModel") (T := TX10) (j := 34) dX10_block_111 inX10_block_RX10 shzM_0 clzM_10 (by decide) rfl (List.mem_of_getElem? (i := 7) rfl) rfl ?_
    exact ww_iret (pc := 114) X dX10_block_114 (fst_of hF) (snd_of hF)
  · refine ww_iconst (pc := 104) X (v := (-1)) dX10_block_104 (by decide) ?_
    exact ww_iret (pc := 105) X dX10_block_105 (fst_of hF) (snd_of hF)
set_option maxRecDepth 100000 in
set_option maxHeartbeats 4000000 in
theorem wbX10_block_59 {M : gM} {G : gG} {out : Int32 × gS} (X : gX M G zM cX10_block RX10 2 wsX10_block rmX10_block (some .int)) (σ : gS) (rec59 : gS → Option (Int32 × gS)) (ih59 : ∀ (σ1 : gS), rec59 σ1 = some out → WW M (gQi M G zM out.1 out.2) G zM 2 σ1 59 [(0, .ref (G.2.1 0))] []) (σ1 : gS) (hF : bX10_block_59 σ rec59 σ1 = some out) : WW M (gQi M G zM out.1 out.2) G zM 2 σ1 59 [(0, .ref (G.2.1 0))] [] := by
  unfold bX10_block_59 at hF
  refine ww_aload_n (pc := 59) X (j := 0) dX10_block_59 rfl rfl ?_
  refine ww_get (pc := 60) X (ref := "PictureBlockModel") (T := TX10) (j := 5) dX10_block_60 inX10_block_RX10 shzM_0 clzM_10 (by decide) rfl (List.mem_of_getElem? (i := 5) rfl) rfl ?_
  refine ww_if_ne (pc := 63) (tgt := 81) X dX10_block_63 (by decide) hF (fun h10 hF => ?_) (fun h10 hF => ?_)
  · exact ww_sub [0] rfl (wjX10_block_81 X σ1 hF)
  · refine ww_aload_n (pc := 66) X (j := 0) dX10_block_66 rfl rfl ?_
    obtain ⟨r17, σ18, h16, hF⟩ := bd2_some hF
    refine ww_callVi (pc := 67) X (As := []) (rest := []) dX10_block_67 (kX10_look (mL M) G X.2.2.2.2.2.2.1 X.2.2.2.2.2.2.2.1 σ1 (r17, σ18) h16) rfl shzM_0 clzM_10 gX10_block_X10_look hyX10_look ⟨rfl, rfl⟩ ⟨Nat.le_of_ble_eq_true rfl, Nat.le_of_ble_eq_true rfl⟩ rfl rfl (Nat.le_of_ble_eq_true rfl) ?_
    refine ww_iconst (pc := 70) X (v := (-1)) dX10_block_70 (by decide) ?_
    refine ww_icmp_eq (pc := 71) (tgt := 81) X dX10_block_71 (by decide) hF (fun h19 hF => ?_) (fun h19 hF => ?_)
    · exact ww_sub [0] rfl (wjX10_block_81 X σ18 hF)
    · refine ww_aload_n (pc := 74) X (j := 0) dX10_block_74 rfl rfl ?_
      obtain ⟨σ21, h20, hF⟩ := bd_some hF
      refine ww_callVv (pc := 75) X (As := []) (rest := []) dX10_block_75 (kX10_blockTold (mL M) G X.2.2.2.2.2.2.1 X.2.2.2.2.2.2.2.1 σ18 σ21 h20) rfl shzM_0 clzM_10 gX10_block_X10_blockTold hyX10_blockTold ⟨rfl, rfl⟩ ⟨Nat.le_of_ble_eq_true rfl, Nat.le_of_ble_eq_true rfl⟩ rfl rfl (Nat.le_of_ble_eq_true rfl) ?_
      refine ww_goto (pc := 78) X (tgt := 59) dX10_block_78 (by decide) ?_
      exact ww_sub [0] rfl (ih59  σ21 hF)
set_option maxRecDepth 100000 in
set_option maxHeartbeats 4000000 in
theorem wbX10_block_40 {M : gM} {G : gG} {out : Int32 × gS} (X : gX M G zM cX10_block RX10 2 wsX10_block rmX10_block (some .int)) (σ : gS) (rec40 : Int32 → gS → Option (Int32 × gS)) (ih40 : ∀ (a1 : Int32) (σ1 : gS), rec40 a1 σ1 = some out → WW M (gQi M G zM out.1 out.2) G zM 2 σ1 40 [(0, .ref (G.2.1 0)), (1, .int a1)] []) (a1 : Int32) (σ1 : gS) (hF : bX10_block_40 σ rec40 a1 σ1 = some out) : WW M (gQi M G zM out.1 out.2) G zM 2 σ1 40 [(0, .ref (G.2.1 0)), (1, .int a1)] [] := by
  unfold bX10_block_40 at hF
  refine ww_iload_n (pc := 40) X (j := 1) dX10_block_40 rfl rfl ?_
  refine ww_bipush (pc := 41) X (v := 6) dX10_block_41 (by decide) ?_
  refine ww_icmp_ge (pc := 43) (tgt := 59) X dX10_block_43 (by decide) hF (fun h9 hF => ?_) (fun h9 hF => ?_)
  · exact ww_sub [0] rfl (lpc_ind (P := (fun (s : gS) => WW M (gQi M G zM out.1 out.2) G zM 2 s 59 [(0, .ref (G.2.1 0))] [])) (fun rec s ih hF => wbX10_block_59 X σ1 (fun σ1 => rec (σ1)) (fun σ1 h => ih (σ1) h) s hF) K9 (σ1) hF)
  · refine ww_aload_n (pc := 46) X (j := 0) dX10_block_46 rfl rfl ?_
    refine ww_get (pc := 47) X (ref := "PictureBlockModel") (T := TX10) (j := 23) dX10_block_47 inX10_block_RX10 shzM_0 clzM_10 (by decide) rfl (List.mem_of_getElem? (i := 8) rfl) rfl ?_
    refine ww_iload_n (pc := 50) X (j := 1) dX10_block_50 rfl rfl ?_
    refine ww_iconst (pc := 51) X (v := 0) dX10_block_51 (by decide) ?_
    refine ww_iast (pc := 52) X dX10_block_52 shzM_15 rfl hF (fun σ22 eσ22 bσ22 hF => ?_)
    refine ww_iinc (pc := 53) X (j := 1) (v := 1) (lv' := [(0, .ref (G.2.1 0))]) dX10_block_53 rfl rfl (by decide) rfl hF (fun x23 ex23 hF => ?_)
    refine ww_goto (pc := 56) X (tgt := 40) dX10_block_56 (by decide) ?_
    exact ww_sub [1, 0] rfl (ih40 x23 σ22 hF)
set_option maxRecDepth 100000 in
set_option maxHeartbeats 4000000 in
theorem wX10_block {M : gM} {G : gG} {out : Int32 × gS} (X : gX M G zM cX10_block RX10 2 wsX10_block rmX10_block (some .int)) (σ : gS) (hF : fX10_block σ = some out) : WW M (gQi M G zM out.1 out.2) G zM 2 σ 0 [(0, .ref (G.2.1 0))] [] := by
  unfold fX10_block at hF
  refine ww_aload_n (pc := 0) X (j := 0) dX10_block_0 rfl rfl ?_
  refine ww_aload_n (pc := 1) X (j := 0) dX10_block_1 rfl rfl ?_
  refine ww_get (pc := 2) X (ref := "PictureBlockModel") (T := TX10) (j := 1) dX10_block_2 inX10_block_RX10 shzM_0 clzM_10 (by decide) rfl (List.mem_of_getElem? (i := 1) rfl) rfl ?_
  refine ww_putI (pc := 5) X (ref := "PictureBlockModel") (T := TX10) (j := 3) dX10_block_5 inX10_block_RX10 tyX10 tyX10_ok nmX10 shzM_0 clzM_10 (by decide) rfl (List.mem_of_getElem? (i := 2) rfl) rfl rfl (by decide +kernel) hF (fun σ1 eσ1 hF => ?_)
  refine ww_aload_n (pc := 8) X (j := 0) dX10_block_8 rfl rfl ?_
  refine ww_iconst (pc := 9) X (v := 0) dX10_block_9 (by decide) ?_
  refine ww_putI (pc := 10) X (ref := "PictureBlockModel") (T := TX10) (j := 1) dX10_block_10 inX10_block_RX10 tyX10 tyX10_ok nmX10 shzM_0 clzM_10 (by decide) rfl (List.mem_of_getElem? (i := 1) rfl) rfl rfl (by decide +kernel) hF (fun σ2 eσ2 hF => ?_)
  refine ww_aload_n (pc := 13) X (j := 0) dX10_block_13 rfl rfl ?_
  refine ww_iconst (pc := 14) X (v := 0) dX10_block_14 (by decide) ?_
  refine ww_putI (pc := 15) X (ref := "PictureBlockModel") (T := TX10) (j := 2) dX10_block_15 inX10_block_RX10 tyX10 tyX10_ok nmX10 shzM_0 clzM_10 (by decide) rfl (List.mem_of_getElem? (i := 3) rfl) rfl rfl (by decide +kernel) hF (fun σ3 eσ3 hF => ?_)
  refine ww_aload_n (pc := 18) X (j := 0) dX10_block_18 rfl rfl ?_
  refine ww_iconst (pc := 19) X (v := (-1)) dX10_block_19 (by decide) ?_
  refine ww_putI (pc := 20) X (ref := "PictureBlockModel") (T := TX10) (j := 4) dX10_block_20 inX10_block_RX10 tyX10 tyX10_ok nmX10 shzM_0 clzM_10 (by decide) rfl (List.mem_of_getElem? (i := 4) rfl) rfl rfl (by decide +kernel) hF (fun σ4 eσ4 hF => ?_)
  refine ww_aload_n (pc := 23) X (j := 0) dX10_block_23 rfl rfl ?_
  refine ww_iconst (pc := 24) X (v := 0) dX10_block_24 (by decide) ?_
  refine ww_putI (pc := 25) X (ref := "PictureBlockModel") (T := TX10) (j := 5) dX10_block_25 inX10_block_RX10 tyX10 tyX10_ok nmX10 shzM_0 clzM_10 (by decide) rfl (List.mem_of_getElem? (i := 5) rfl) rfl rfl (by decide +kernel) hF (fun σ5 eσ5 hF => ?_)
  refine ww_aload_n (pc := 28) X (j := 0) dX10_block_28 rfl rfl ?_
  refine ww_iconst (pc := 29) X (v := (-1)) dX10_block_29 (by decide) ?_
  refine ww_putI (pc := 30) X (ref := "PictureBlockModel") (T := TX10) (j := 6) dX10_block_30 inX10_block_RX10 tyX10 tyX10_ok nmX10 shzM_0 clzM_10 (by decide) rfl (List.mem_of_getElem? (i := 6) rfl) rfl rfl (by decide +kernel) hF (fun σ6 eσ6 hF => ?_)
  refine ww_aload_n (pc := 33) X (j := 0) dX10_block_33 rfl rfl ?_
  refine ww_iconst (pc := 34) X (v := 0) dX10_block_34 (by decide) ?_
  refine ww_putI (pc := 35) X (ref := "PictureBlockModel") (T := TX10) (j := 34) dX10_block_35 inX10_block_RX10 tyX10 tyX10_ok nmX10 shzM_0 clzM_10 (by decide) rfl (List.mem_of_getElem? (i := 7) rfl) rfl rfl (by decide +kernel) hF (fun σ7 eσ7 hF => ?_)
  refine ww_iconst (pc := 38) X (v := 0) dX10_block_38 (by decide) ?_
  refine ww_istore_n (pc := 39) X (lv' := [(0, .ref (G.2.1 0))]) dX10_block_39 rfl (by decide) rfl hF (fun x8 ex8 hF => ?_)
  exact ww_sub [1, 0] rfl (lpc_ind (P := (fun (s : Int32 × gS) => WW M (gQi M G zM out.1 out.2) G zM 2 s.2 40 [(0, .ref (G.2.1 0)), (1, .int s.1)] [])) (fun rec s ih hF => wbX10_block_40 X σ7 (fun a1 σ1 => rec (a1, σ1)) (fun a1 σ1 h => ih (a1, σ1) h) s.1 s.2 hF) K9 (x8, σ7) hF)
set_option maxRecDepth 100000 in
set_option maxHeartbeats 4000000 in
theorem kX10_block (l : Launch) (G : gG) (hG : gOK G zM.1) (hT : G.2.2.1.map (fun q => q.2) = zM.2.1) (σ : gS) (out : Int32 × gS) (hF : fX10_block σ = some out) : gCi l yX10_block wsX10_block rmX10_block G zM [.ref (G.2.1 0)] σ out.1 out.2 :=
  gEnter (by decide) rfl ⟨rfl, rfl⟩ hG hT (Nat.le_of_ble_eq_true rfl) rfl (fun M X hl => wX10_block X σ hF)
noncomputable def fX10_fault (σ : gS) (p1 : Int32) : Option (Int32) :=
  if p1 = 0 then some (σ.1 0 7) else if p1 = 1 then some (σ.1 0 8) else some ((-1))
noncomputable abbrev rmX10_fault : Room := { frames := 0, cells := 0, slots := 0, locals := 0 }
set_option maxRecDepth 100000 in
set_option maxHeartbeats 4000000 in
theorem wX10_fault {M : gM} {G : gG} {out : Int32} (X : gX M G zM cX10_fault RX10 2 wsX10_fault rmX10_fault (some .int)) (σ : gS) (p1 : Int32) (hF : fX10_fault σ p1 = some out) : WW M (gQi M G zM out σ) G zM 2 σ 0 [(0, .ref (G.2.1 0)), (1, .int p1)] [] := by
  unfold fX10_fault at hF
  refine ww_iload_n (pc := 0) X (j := 1) dX10_fault_0 rfl rfl ?_
  refine ww_if_ne (pc := 1) (tgt := 11) X dX10_fault_1 (by decide) hF (fun h1 hF => ?_) (fun h1 hF => ?_)
  · refine ww_iload_n (pc := 11) X (j := 1) dX10_fault_11 rfl rfl ?_
    refine ww_iconst (pc := 12) X (v := 1) dX10_fault_12 (by decide) ?_
    refine ww_icmp_ne (pc := 13) (tgt := 23) X dX10_fault_13 (by decide) hF (fun h2 hF => ?_) (fun h2 hF => ?_)
    · refine ww_iconst (pc := 23) X (v := (-1)) dX10_fault_23 (by decide) ?_
      exact ww_iret (pc := 24) X dX10_fault_24 (Option.some.inj hF) rfl
    · refine ww_aload_n (pc := 16) X (j := 0) dX10_fault_16 rfl rfl ?_
      refine ww_get (pc := 17) X (ref := "PictureBlockModel") (T := TX10) (j := 8) dX10_fault_17 inX10_fault_RX10 shzM_0 clzM_10 (by decide) rfl (List.mem_of_getElem? (i := 2) rfl) rfl ?_
      refine ww_goto (pc := 20) X (tgt := 24) dX10_fault_20 (by decide) ?_
      exact ww_iret (pc := 24) X dX10_fault_24 (Option.some.inj hF) rfl
  · refine ww_aload_n (pc := 4) X (j := 0) dX10_fault_4 rfl rfl ?_
    refine ww_get (pc := 5) X (ref := "PictureBlockModel") (T := TX10) (j := 7) dX10_fault_5 inX10_fault_RX10 shzM_0 clzM_10 (by decide) rfl (List.mem_of_getElem? (i := 1) rfl) rfl ?_
    refine ww_goto (pc := 8) X (tgt := 24) dX10_fault_8 (by decide) ?_
    exact ww_iret (pc := 24) X dX10_fault_24 (Option.some.inj hF) rfl
set_option maxRecDepth 100000 in
set_option maxHeartbeats 4000000 in
theorem kX10_fault (l : Launch) (G : gG) (hG : gOK G zM.1) (hT : G.2.2.1.map (fun q => q.2) = zM.2.1) (σ : gS) (p1 : Int32) (out : Int32) (hF : fX10_fault σ p1 = some out) : gCi l yX10_fault wsX10_fault rmX10_fault G zM [.ref (G.2.1 0), .int p1] σ out σ :=
  gEnter (by decide) rfl ⟨rfl, rfl⟩ hG hT (Nat.le_of_ble_eq_true rfl) rfl (fun M X hl => wX10_fault X σ p1 hF)
noncomputable def bX10_dropped_4 (σ : gS) (rec4 : Int32 → Int32 → Option (Int32)) (a1 : Int32) (a2 : Int32) : Option (Int32) :=
  bd (fX10_rows σ) fun r4 => (if r4 ≤ a2 then some a1 else gd (gb a2 60) <| nm (σ.1 26 a2.toNatClampNeg) fun v6 => (if v6 = 0 then nm (a2 + 1 : Int32) fun x8 => rec4 a1 x8 else nm (a1 + 1 : Int32) fun x9 => nm (a2 + 1 : Int32) fun x10 => rec4 x9 x10))
noncomputable def fX10_dropped (σ : gS) : Option (Int32) :=
  nm (0 : Int32) fun x1 => nm (0 : Int32) fun x2 => lpc (S := Int32 × Int32) K9 (fun rec s => bX10_dropped_4 σ (fun a1 a2 => rec (a1, a2)) s.1 s.2) (x1, x2)
noncomputable abbrev rmX10_dropped : Room := { frames := 1, cells := 0, slots := 0, locals := 20 }
set_option maxRecDepth 100000 in
set_option maxHeartbeats 4000000 in
theorem wbX10_dropped_4 {M : gM} {G : gG} {out : Int32} (X : gX M G zM cX10_dropped RX10 3 wsX10_dropped rmX10_dropped (some .int)) (σ : gS) (rec4 : Int32 → Int32 → Option (Int32)) (ih4 : ∀ (a1 : Int32) (a2 : Int32), rec4 a1 a2 = some out → WW M (gQi M G zM out σ) G zM 3 σ 4 [(0, .ref (G.2.1 0)), (1, .int a1), (2, .int a2)] []) (a1 : Int32) (a2 : Int32) (hF : bX10_dropped_4 σ rec4 a1 a2 = some out) : WW M (gQi M G zM out σ) G zM 3 σ 4 [(0, .ref (G.2.1 0)), (1, .int a1), (2, .int a2)] [] := by
  unfold bX10_dropped_4 at hF
  refine ww_iload_n (pc := 4) X (j := 2) dX10_dropped_4 rfl rfl ?_
  refine ww_aload_n (pc := 5) X (j := 0) dX10_dropped_5 rfl rfl ?_
  obtain ⟨r4, h3, hF⟩ := bd_some hF
  refine ww_callVi (pc := 6) X (As := []) (rest := [.int a2]) dX10_dropped_6 (kX10_rows (mL M) G X.2.2.2.2.2.2.1 X.2.2.2.2.2.2.2.1 σ r4 h3) rfl shzM_0 clzM_10 gX10_dropped_X10_rows hyX10_rows ⟨rfl, rfl⟩ ⟨Nat.le_of_ble_eq_true rfl, Nat.le_of_ble_eq_true rfl⟩ rfl rfl (Nat.le_of_ble_eq_true rfl) ?_
  refine ww_icmp_ge (pc := 9) (tgt := 30) X dX10_dropped_9 (by decide) hF (fun h5 hF => ?_) (fun h5 hF => ?_)
  · refine ww_iload_n (pc := 30) X (j := 1) dX10_dropped_30 rfl rfl ?_
    exact ww_iret (pc := 31) X dX10_dropped_31 (Option.some.inj hF) rfl
  · refine ww_aload_n (pc := 12) X (j := 0) dX10_dropped_12 rfl rfl ?_
    refine ww_get (pc := 13) X (ref := "PictureBlockModel") (T := TX10) (j := 35) dX10_dropped_13 inX10_dropped_RX10 shzM_0 clzM_10 (by decide) rfl (List.mem_of_getElem? (i := 1) rfl) rfl ?_
    refine ww_iload_n (pc := 16) X (j := 2) dX10_dropped_16 rfl rfl ?_
    refine ww_zald (pc := 17) X dX10_dropped_17 shzM_26 rfl hF (fun v6 ev6 bv6 hF => ?_)
    refine ww_if_eq (pc := 18) (tgt := 24) X dX10_dropped_18 (by decide) hF (fun h7 hF => ?_) (fun h7 hF => ?_)
    · refine ww_iinc (pc := 24) X (j := 2) (v := 1) (lv' := [(0, .ref (G.2.1 0)), (1, .int a1)]) dX10_dropped_24 rfl rfl (by decide) rfl hF (fun x8 ex8 hF => ?_)
      refine ww_goto (pc := 27) X (tgt := 4) dX10_dropped_27 (by decide) ?_
      exact ww_sub [1, 2, 0] rfl (ih4 a1 x8 hF)
    · refine ww_iinc (pc := 21) X (j := 1) (v := 1) (lv' := [(0, .ref (G.2.1 0)), (2, .int a2)]) dX10_dropped_21 rfl rfl (by decide) rfl hF (fun x9 ex9 hF => ?_)
      refine ww_iinc (pc := 24) X (j := 2) (v := 1) (lv' := [(1, .int x9), (0, .ref (G.2.1 0))]) dX10_dropped_24 rfl rfl (by decide) rfl hF (fun x10 ex10 hF => ?_)
      refine ww_goto (pc := 27) X (tgt := 4) dX10_dropped_27 (by decide) ?_
      exact ww_sub [2, 1, 0] rfl (ih4 x9 x10 hF)
set_option maxRecDepth 100000 in
set_option maxHeartbeats 4000000 in
theorem wX10_dropped {M : gM} {G : gG} {out : Int32} (X : gX M G zM cX10_dropped RX10 3 wsX10_dropped rmX10_dropped (some .int)) (σ : gS) (hF : fX10_dropped σ = some out) : WW M (gQi M G zM out σ) G zM 3 σ 0 [(0, .ref (G.2.1 0))] [] := by
  unfold fX10_dropped at hF
  refine ww_iconst (pc := 0) X (v := 0) dX10_dropped_0 (by decide) ?_
  refine ww_istore_n (pc := 1) X (lv' := [(0, .ref (G.2.1 0))]) dX10_dropped_1 rfl (by decide) rfl hF (fun x1 ex1 hF => ?_)
  refine ww_iconst (pc := 2) X (v := 0) dX10_dropped_2 (by decide) ?_
  refine ww_istore_n (pc := 3) X (lv' := [(1, .int x1), (0, .ref (G.2.1 0))]) dX10_dropped_3 rfl (by decide) rfl hF (fun x2 ex2 hF => ?_)
  exact ww_sub [2, 1, 0] rfl (lpc_ind (P := (fun (s : Int32 × Int32) => WW M (gQi M G zM out σ) G zM 3 σ 4 [(0, .ref (G.2.1 0)), (1, .int s.1), (2, .int s.2)] [])) (fun rec s ih hF => wbX10_dropped_4 X σ (fun a1 a2 => rec (a1, a2)) (fun a1 a2 h => ih (a1, a2) h) s.1 s.2 hF) K9 (x1, x2) hF)
set_option maxRecDepth 100000 in
set_option maxHeartbeats 4000000 in
theorem kX10_dropped (l : Launch) (G : gG) (hG : gOK G zM.1) (hT : G.2.2.1.map (fun q => q.2) = zM.2.1) (σ : gS) (out : Int32) (hF : fX10_dropped σ = some out) : gCi l yX10_dropped wsX10_dropped rmX10_dropped G zM [.ref (G.2.1 0)] σ out σ :=
  gEnter (by decide) rfl ⟨rfl, rfl⟩ hG hT (Nat.le_of_ble_eq_true rfl) rfl (fun M X hl => wX10_dropped X σ hF)
