noncomputable def fX10_measure (σ : gS) (p1 : Int32) (p2 : Int32) (p3 : Int32) : Option (Int32 × gS) :=
  bd (fX10_canMeasure σ p1 p2 p3) fun r2 => (if r2 = 0 then some (0, σ) else bd (fX10_measures σ p1 p2 p3) fun σ5 => some (1, σ5))
noncomputable abbrev rmX10_measure : Room := { frames := 3, cells := 0, slots := 0, locals := 69 }
set_option maxRecDepth 100000 in
set_option maxHeartbeats 4000000 in
theorem wX10_measure {M : gM} {G : gG} {out : Int32 × gS} (X : gX M G zM cX10_measure RX10 4 wsX10_measure rmX10_measure (some .boolean)) (σ : gS) (p1 : Int32) (p2 : Int32) (p3 : Int32) (hF : fX10_measure σ p1 p2 p3 = some out) : WW M (gQi M G zM out.1 out.2) G zM 4 σ 0 [(0, .ref (G.2.1 0)), (1, .int p1), (2, .int p2), (3, .int p3)] [] := by
  unfold fX10_measure at hF
  refine ww_aload_n (pc := 0) X (j := 0) dX10_measure_0 rfl rfl ?_
  refine ww_iload_n (pc := 1) X (j := 1) dX10_measure_1 rfl rfl ?_
  refine ww_iload_n (pc := 2) X (j := 2) dX10_measure_2 rfl rfl ?_
  refine ww_iload_n (pc := 3) X (j := 3) dX10_measure_3 rfl rfl ?_
  obtain ⟨r2, h1, hF⟩ := bd_some hF
  refine ww_callVi (pc := 4) X (As := [.int p1, .int p2, .int p3]) (rest := []) dX10_measure_4 (kX10_canMeasure (mL M) G X.2.2.2.2.2.2.1 X.2.2.2.2.2.2.2.1 σ p1 p2 p3 r2 h1) rfl shzM_0 clzM_10 gX10_measure_X10_canMeasure hyX10_canMeasure ⟨rfl, rfl⟩ ⟨Nat.le_of_ble_eq_true rfl, Nat.le_of_ble_eq_true rfl⟩ rfl rfl (Nat.le_of_ble_eq_true rfl) ?_
  refine ww_if_ne (pc := 7) (tgt := 12) X dX10_measure_7 (by decide) hF (fun h3 hF => ?_) (fun h3 hF => ?_)
  · refine ww_aload_n (pc := 12) X (j := 0) dX10_measure_12 rfl rfl ?_
    refine ww_iload_n (pc := 13) X (j := 1) dX10_measure_13 rfl rfl ?_
    refine ww_iload_n (pc := 14) X (j := 2) dX10_measure_14 rfl rfl ?_
    refine ww_iload_n (pc := 15) X (j := 3) dX10_measure_15 rfl rfl ?_
    obtain ⟨σ5, h4, hF⟩ := bd_some hF
    refine ww_callVv (pc := 16) X (As := [.int p1, .int p2, .int p3]) (rest := []) dX10_measure_16 (kX10_measures (mL M) G X.2.2.2.2.2.2.1 X.2.2.2.2.2.2.2.1 σ p1 p2 p3 σ5 h4) rfl shzM_0 clzM_10 gX10_measure_X10_measures hyX10_measures ⟨rfl, rfl⟩ ⟨Nat.le_of_ble_eq_true rfl, Nat.le_of_ble_eq_true rfl⟩ rfl rfl (Nat.le_of_ble_eq_true rfl) ?_
    refine ww_iconst (pc := 19) X (v := 1) dX10_measure_19 (by decide) ?_
    exact ww_zret (pc := 20) X dX10_measure_20 (by cases hF; rfl) (by cases hF; rfl)
  · refine ww_iconst (pc := 10) X (v := 0) dX10_measure_10 (by decide) ?_
    exact ww_zret (pc := 11) X dX10_measure_11 (by cases hF; rfl) (by cases hF; rfl)
set_option maxRecDepth 100000 in
set_option maxHeartbeats 4000000 in
theorem kX10_measure (l : Launch) (G : gG) (hG : gOK G zM.1) (hT : G.2.2.1.map (fun q => q.2) = zM.2.1) (σ : gS) (p1 : Int32) (p2 : Int32) (p3 : Int32) (out : Int32 × gS) (hF : fX10_measure σ p1 p2 p3 = some out) : gCi l yX10_measure wsX10_measure rmX10_measure G zM [.ref (G.2.1 0), .int p1, .int p2, .int p3] σ out.1 out.2 :=
  gEnter (by decide) rfl ⟨rfl, rfl⟩ hG hT (Nat.le_of_ble_eq_true rfl) rfl (fun M X hl => wX10_measure X σ p1 p2 p3 hF)
noncomputable def fX10_drawOf (σ : gS) (p1 : Int32) : Option (Int32 × gS) :=
  nm (gsL σ 0 54 (lrm ((1103515245 * (σ.2 0 54)) + 12345) 2147483648)) fun σ1 => gd (decide (¬ p1.toInt64 = 0)) <| some ((lrm ((σ1.2 0 54) / 64) p1.toInt64).toInt32, σ1)
noncomputable abbrev rmX10_drawOf : Room := { frames := 0, cells := 0, slots := 0, locals := 0 }
set_option maxRecDepth 100000 in
set_option maxHeartbeats 4000000 in
theorem wX10_drawOf {M : gM} {G : gG} {out : Int32 × gS} (X : gX M G zM cX10_drawOf RX10 2 wsX10_drawOf rmX10_drawOf (some .int)) (σ : gS) (p1 : Int32) (hF : fX10_drawOf σ p1 = some out) : WW M (gQi M G zM out.1 out.2) G zM 2 σ 0 [(0, .ref (G.2.1 0)), (1, .int p1)] [] := by
  unfold fX10_drawOf at hF
  refine ww_aload_n (pc := 0) X (j := 0) dX10_drawOf_0 rfl rfl ?_
  refine ww_ldc2 (pc := 1) X (v := 1103515245) (List.mem_of_getElem? (i := 1) rfl) dX10_drawOf_1 ?_
  refine ww_aload_n (pc := 4) X (j := 0) dX10_drawOf_4 rfl rfl ?_
  refine ww_get (pc := 5) X (ref := "PictureBlockModel") (T := TX10) (j := 54) dX10_drawOf_5 inX10_drawOf_RX10 shzM_0 clzM_10 (by decide) rfl (List.mem_of_getElem? (i := 2) rfl) rfl ?_
  refine ww_lmul (pc := 8) X dX10_drawOf_8 ?_
  refine ww_ldc2 (pc := 9) X (v := 12345) (List.mem_of_getElem? (i := 3) rfl) dX10_drawOf_9 ?_
  refine ww_ladd (pc := 12) X dX10_drawOf_12 ?_
  refine ww_ldc2 (pc := 13) X (v := 2147483648) (List.mem_of_getElem? (i := 4) rfl) dX10_drawOf_13 ?_
  refine ww_lrem (pc := 16) X dX10_drawOf_16 (by decide) ?_
  refine ww_putL (pc := 17) X (ref := "PictureBlockModel") (T := TX10) (j := 54) dX10_drawOf_17 inX10_drawOf_RX10 tyX10 tyX10_ok nmX10 shzM_0 clzM_10 (by decide) rfl (List.mem_of_getElem? (i := 2) rfl) rfl rfl (by decide +kernel) hF (fun σ1 eσ1 hF => ?_)
  refine ww_aload_n (pc := 20) X (j := 0) dX10_drawOf_20 rfl rfl ?_
  refine ww_get (pc := 21) X (ref := "PictureBlockModel") (T := TX10) (j := 54) dX10_drawOf_21 inX10_drawOf_RX10 shzM_0 clzM_10 (by decide) rfl (List.mem_of_getElem? (i := 2) rfl) rfl ?_
  refine ww_ldc2 (pc := 24) X (v := 64) (List.mem_of_getElem? (i := 5) rfl) dX10_drawOf_24 ?_
  refine ww_ldiv (pc := 27) X dX10_drawOf_27 (by decide) ?_
  refine ww_iload_n (pc := 28) X (j := 1) dX10_drawOf_28 rfl rfl ?_
  refine ww_i2l (pc := 29) X dX10_drawOf_29 ?_
  refine ww_lremG (pc := 30) X dX10_drawOf_30 hF (fun h2 hF => ?_)
  refine ww_l2i (pc := 31) X dX10_drawOf_31 ?_
  exact ww_iret (pc := 32) X dX10_drawOf_32 (fst_of hF) (snd_of hF)
set_option maxRecDepth 100000 in
set_option maxHeartbeats 4000000 in
theorem kX10_drawOf (l : Launch) (G : gG) (hG : gOK G zM.1) (hT : G.2.2.1.map (fun q => q.2) = zM.2.1) (σ : gS) (p1 : Int32) (out : Int32 × gS) (hF : fX10_drawOf σ p1 = some out) : gCi l yX10_drawOf wsX10_drawOf rmX10_drawOf G zM [.ref (G.2.1 0), .int p1] σ out.1 out.2 :=
  gEnter (by decide) rfl ⟨rfl, rfl⟩ hG hT (Nat.le_of_ble_eq_true rfl) rfl (fun M X hl => wX10_drawOf X σ p1 hF)
noncomputable def fX10_within (σ : gS) (p0 : Int32) : Option (Int32) :=
  if 0 ≤ p0 then if p0 ≤ 9999 then some p0 else some 9999 else some 0
noncomputable abbrev rmX10_within : Room := { frames := 0, cells := 0, slots := 0, locals := 0 }
set_option maxRecDepth 100000 in
set_option maxHeartbeats 4000000 in
theorem wX10_within {M : gM} {G : gG} {out : Int32} (X : gX M G zM cX10_within RX10 1 wsX10_within rmX10_within (some .int)) (σ : gS) (p0 : Int32) (hF : fX10_within σ p0 = some out) : WW M (gQi M G zM out σ) G zM 1 σ 0 [(0, .int p0)] [] := by
  unfold fX10_within at hF
  refine ww_iload_n (pc := 0) X (j := 0) dX10_within_0 rfl rfl ?_
  refine ww_if_ge (pc := 1) (tgt := 8) X dX10_within_1 (by decide) hF (fun h1 hF => ?_) (fun h1 hF => ?_)
  · refine ww_iload_n (pc := 8) X (j := 0) dX10_within_8 rfl rfl ?_
    refine ww_sipush (pc := 9) X (v := 9999) dX10_within_9 (by decide) ?_
    refine ww_icmp_le (pc := 12) (tgt := 21) X dX10_within_12 (by decide) hF (fun h2 hF => ?_) (fun h2 hF => ?_)
    · refine ww_iload_n (pc := 21) X (j := 0) dX10_within_21 rfl rfl ?_
      exact ww_iret (pc := 22) X dX10_within_22 (Option.some.inj hF) rfl
    · refine ww_sipush (pc := 15) X (v := 9999) dX10_within_15 (by decide) ?_
      refine ww_goto (pc := 18) X (tgt := 22) dX10_within_18 (by decide) ?_
      exact ww_iret (pc := 22) X dX10_within_22 (Option.some.inj hF) rfl
  · refine ww_iconst (pc := 4) X (v := 0) dX10_within_4 (by decide) ?_
    refine ww_goto (pc := 5) X (tgt := 22) dX10_within_5 (by decide) ?_
    exact ww_iret (pc := 22) X dX10_within_22 (Option.some.inj hF) rfl
set_option maxRecDepth 100000 in
set_option maxHeartbeats 4000000 in
theorem kX10_within (l : Launch) (G : gG) (hG : gOK G zM.1) (hT : G.2.2.1.map (fun q => q.2) = zM.2.1) (σ : gS) (p0 : Int32) (out : Int32) (hF : fX10_within σ p0 = some out) : gCi l yX10_within wsX10_within rmX10_within G zM [.int p0] σ out σ :=
  gEnter (by decide) rfl ⟨rfl, rfl⟩ hG hT (Nat.le_of_ble_eq_true rfl) rfl (fun M X hl => wX10_within X σ p0 hF)
noncomputable def bX10_slips_46 (σ : gS) (c46_1 : Int32) (c46_2 : Int32) (rec46 : Int32 → gS → Option (Int32 × gS)) (a4 : Int32) (σ1 : gS) : Option (Int32 × gS) :=
  if c46_1 ≤ a4 then some (3 * c46_1, σ1) else bd (fX10_rows σ1) fun r15 => bd2 (fX10_drawOf σ1 r15) fun r17 σ18 => nm (r17 : Int32) fun x19 => gd (gb (120 + (2 * x19)) 240) <| nm (σ18.1 24 (120 + (2 * x19)).toNatClampNeg) fun v20 => bd2 (fX10_drawOf σ18 ((2 * c46_2) + 1)) fun r22 σ23 => nm ((v20 + r22) - c46_2 : Int32) fun x24 => gd (gb ((120 + (2 * x19)) + 1) 240) <| nm (σ23.1 24 ((120 + (2 * x19)) + 1).toNatClampNeg) fun v25 => bd2 (fX10_drawOf σ23 ((2 * c46_2) + 1)) fun r27 σ28 => nm ((v25 + r27) - c46_2 : Int32) fun x29 => bd (fX10_within σ28 x24) fun r31 => bd (fX10_within σ28 x29) fun r33 => bd (fX10_measures σ28 x19 r31 r33) fun σ35 => nm (a4 + 1 : Int32) fun x36 => rec46 x36 σ35
noncomputable def fX10_slips (σ : gS) (p1 : Int32) (p2 : Int32) (p3 : Int32) : Option (Int32 × gS) :=
  bd (fX10_isIn σ p1.toInt64 1 60) fun r2 => (if r2 = 0 then some ((-1), σ) else bd (fX10_isIn σ p2.toInt64 0 999) fun r5 => (if r5 = 0 then some ((-1), σ) else if p3 < 0 then some ((-1), σ) else bd (fX10_rows σ) fun r9 => (if r9 = 0 then some ((-1), σ) else nm (gsL σ 0 54 p3.toInt64) fun σ11 => nm (0 : Int32) fun x12 => lpc (S := Int32 × gS) K9 (fun rec s => bX10_slips_46 σ11 p1 p2 (fun a4 σ1 => rec (a4, σ1)) s.1 s.2) (x12, σ11))))
noncomputable abbrev rmX10_slips : Room := { frames := 1, cells := 0, slots := 0, locals := 25 }
set_option maxRecDepth 100000 in
set_option maxHeartbeats 4000000 in
theorem wbX10_slips_46 {M : gM} {G : gG} {out : Int32 × gS} (X : gX M G zM cX10_slips RX10 8 wsX10_slips rmX10_slips (some .int)) (σ : gS) (c46_1 : Int32) (c46_2 : Int32) (rec46 : Int32 → gS → Option (Int32 × gS)) (ih46 : ∀ (a4 : Int32) (σ1 : gS), rec46 a4 σ1 = some out → WW M (gQi M G zM out.1 out.2) G zM 8 σ1 46 [(0, .ref (G.2.1 0)), (1, .int c46_1), (2, .int c46_2), (4, .int a4)] []) (a4 : Int32) (σ1 : gS) (hF : bX10_slips_46 σ c46_1 c46_2 rec46 a4 σ1 = some out) : WW M (gQi M G zM out.1 out.2) G zM 8 σ1 46 [(0, .ref (G.2.1 0)), (1, .int c46_1), (2, .int c46_2), (4, .int a4)] [] := by
  unfold bX10_slips_46 at hF
  refine ww_iload (pc := 46) X (j := 3) dX10_slips_46 rfl ?_
  refine ww_iload_n (pc := 48) X (j := 1) dX10_slips_48 rfl rfl ?_
  refine ww_icmp_ge (pc := 49) (tgt := 138) X dX10_slips_49 (by decide) hF (fun h13 hF => ?_) (fun h13 hF => ?_)
  · refine ww_iconst (pc := 138) X (v := 3) dX10_slips_138 (by decide) ?_
    refine ww_iload_n (pc := 139) X (j := 1) dX10_slips_139 rfl rfl ?_
    refine ww_imul (pc := 140) X dX10_slips_140 ?_
    exact ww_iret (pc := 141) X dX10_slips_141 (fst_of hF) (snd_of hF)
  · refine ww_aload_n (pc := 52) X (j := 0) dX10_slips_52 rfl rfl ?_
    refine ww_aload_n (pc := 53) X (j := 0) dX10_slips_53 rfl rfl ?_
    obtain ⟨r15, h14, hF⟩ := bd_some hF
    refine ww_callVi (pc := 54) X (As := []) (rest := [.ref (G.2.1 0)]) dX10_slips_54 (kX10_rows (mL M) G X.2.2.2.2.2.2.1 X.2.2.2.2.2.2.2.1 σ1 r15 h14) rfl shzM_0 clzM_10 gX10_slips_X10_rows hyX10_rows ⟨rfl, rfl⟩ ⟨Nat.le_of_ble_eq_true rfl, Nat.le_of_ble_eq_true rfl⟩ rfl rfl (Nat.le_of_ble_eq_true rfl) ?_
    obtain ⟨r17, σ18, h16, hF⟩ := bd2_some hF
    refine ww_callVi (pc := 57) X (As := [.int r15]) (rest := []) dX10_slips_57 (kX10_drawOf (mL M) G X.2.2.2.2.2.2.1 X.2.2.2.2.2.2.2.1 σ1 r15 (r17, σ18) h16) rfl shzM_0 clzM_10 gX10_slips_X10_drawOf hyX10_drawOf ⟨rfl, rfl⟩ ⟨Nat.le_of_ble_eq_true rfl, Nat.le_of_ble_eq_true rfl⟩ rfl rfl (Nat.le_of_ble_eq_true rfl) ?_
    refine ww_istore (pc := 60) X (lv' := [(0, .ref (G.2.1 0)), (1, .int c46_1), (2, .int c46_2), (4, .int a4)]) dX10_slips_60 (by decide) rfl hF (fun x19 ex19 hF => ?_)
    refine ww_aload_n (pc := 62) X (j := 1) dX10_slips_62 rfl rfl ?_
    refine ww_get (pc := 63) X (ref := "PictureBlockModel") (T := TX10) (j := 32) dX10_slips_63 inX10_slips_RX10 shzM_0 clzM_10 (by decide) rfl (List.mem_of_getElem? (i := 4) rfl) rfl ?_
    refine ww_bipush (pc := 66) X (v := 120) dX10_slips_66 (by decide) ?_
    refine ww_iconst (pc := 68) X (v := 2) dX10_slips_68 (by decide) ?_
    refine ww_iload (pc := 69) X (j := 0) dX10_slips_69 rfl ?_
    refine ww_imul (pc := 71) X dX10_slips_71 ?_
    refine ww_iadd (pc := 72) X dX10_slips_72 ?_
    refine ww_iald (pc := 73) X dX10_slips_73 shzM_24 rfl hF (fun v20 ev20 bv20 hF => ?_)
    refine ww_aload_n (pc := 74) X (j := 1) dX10_slips_74 rfl rfl ?_
    refine ww_iconst (pc := 75) X (v := 2) dX10_slips_75 (by decide) ?_
    refine ww_iload_n (pc := 76) X (j := 3) dX10_slips_76 rfl rfl ?_
    refine ww_imul (pc := 77) X dX10_slips_77 ?_
    refine ww_iconst (pc := 78) X (v := 1) dX10_slips_78 (by decide) ?_
    refine ww_iadd (pc := 79) X dX10_slips_79 ?_
    obtain ⟨r22, σ23, h21, hF⟩ := bd2_some hF
    refine ww_callVi (pc := 80) X (As := [.int ((2 * c46_2) + 1)]) (rest := [.int v20]) dX10_slips_80 (kX10_drawOf (mL M) G X.2.2.2.2.2.2.1 X.2.2.2.2.2.2.2.1 σ18 ((2 * c46_2) + 1) (r22, σ23) h21) rfl shzM_0 clzM_10 gX10_slips_X10_drawOf hyX10_drawOf ⟨rfl, rfl⟩ ⟨Nat.le_of_ble_eq_true rfl, Nat.le_of_ble_eq_true rfl⟩ rfl rfl (Nat.le_of_ble_eq_true rfl) ?_
    refine ww_iadd (pc := 83) X dX10_slips_83 ?_
    refine ww_iload_n (pc := 84) X (j := 3) dX10_slips_84 rfl rfl ?_
    refine ww_isub (pc := 85) X dX10_slips_85 ?_
    refine ww_istore (pc := 86) X (lv' := [(5, .int x19), (0, .ref (G.2.1 0)), (1, .int c46_1), (2, .int c46_2), (4, .int a4)]) dX10_slips_86 (by decide) rfl hF (fun x24 ex24 hF => ?_)
    refine ww_aload_n (pc := 88) X (j := 2) dX10_slips_88 rfl rfl ?_
    refine ww_get (pc := 89) X (ref := "PictureBlockModel") (T := TX10) (j := 32) dX10_slips_89 inX10_slips_RX10 shzM_0 clzM_10 (by decide) rfl (List.mem_of_getElem? (i := 4) rfl) rfl ?_
    refine ww_bipush (pc := 92) X (v := 120) dX10_slips_92 (by decide) ?_
    refine ww_iconst (pc := 94) X (v := 2) dX10_slips_94 (by decide) ?_
    refine ww_iload (pc := 95) X (j := 1) dX10_slips_95 rfl ?_
    refine ww_imul (pc := 97) X dX10_slips_97 ?_
    refine ww_iadd (pc := 98) X dX10_slips_98 ?_
    refine ww_iconst (pc := 99) X (v := 1) dX10_slips_99 (by decide) ?_
    refine ww_iadd (pc := 100) X dX10_slips_100 ?_
    refine ww_iald (pc := 101) X dX10_slips_101 shzM_24 rfl hF (fun v25 ev25 bv25 hF => ?_)
    refine ww_aload_n (pc := 102) X (j := 2) dX10_slips_102 rfl rfl ?_
    refine ww_iconst (pc := 103) X (v := 2) dX10_slips_103 (by decide) ?_
    refine ww_iload_n (pc := 104) X (j := 4) dX10_slips_104 rfl rfl ?_
    refine ww_imul (pc := 105) X dX10_slips_105 ?_
    refine ww_iconst (pc := 106) X (v := 1) dX10_slips_106 (by decide) ?_
    refine ww_iadd (pc := 107) X dX10_slips_107 ?_
    obtain ⟨r27, σ28, h26, hF⟩ := bd2_some hF
    refine ww_callVi (pc := 108) X (As := [.int ((2 * c46_2) + 1)]) (rest := [.int v25]) dX10_slips_108 (kX10_drawOf (mL M) G X.2.2.2.2.2.2.1 X.2.2.2.2.2.2.2.1 σ23 ((2 * c46_2) + 1) (r27, σ28) h26) rfl shzM_0 clzM_10 gX10_slips_X10_drawOf hyX10_drawOf ⟨rfl, rfl⟩ ⟨Nat.le_of_ble_eq_true rfl, Nat.le_of_ble_eq_true rfl⟩ rfl rfl (Nat.le_of_ble_eq_true rfl) ?_
    refine ww_iadd (pc := 111) X dX10_slips_111 ?_
    refine ww_iload_n (pc := 112) X (j := 4) dX10_slips_112 rfl rfl ?_
    refine ww_isub (pc := 113) X dX10_slips_113 ?_
    refine ww_istore (pc := 114) X (lv' := [(6, .int x24), (5, .int x19), (0, .ref (G.2.1 0)), (1, .int c46_1), (2, .int c46_2), (4, .int a4)]) dX10_slips_114 (by decide) rfl hF (fun x29 ex29 hF => ?_)
    refine ww_aload_n (pc := 116) X (j := 3) dX10_slips_116 rfl rfl ?_
    refine ww_iload (pc := 117) X (j := 2) dX10_slips_117 rfl ?_
    refine ww_iload (pc := 119) X (j := 1) dX10_slips_119 rfl ?_
    obtain ⟨r31, h30, hF⟩ := bd_some hF
    refine ww_callSi (pc := 121) X (As := [.int x24]) (rest := [.int x19, .ref (G.2.1 0)]) dX10_slips_121 (kX10_within (mL M) G X.2.2.2.2.2.2.1 X.2.2.2.2.2.2.2.1 σ28 x24 r31 h30) rfl gX10_slips_X10_within hyX10_within ⟨rfl, rfl⟩ ⟨Nat.le_of_ble_eq_true rfl, Nat.le_of_ble_eq_true rfl⟩ rfl rfl (Nat.le_of_ble_eq_true rfl) ?_
    refine ww_iload (pc := 124) X (j := 0) dX10_slips_124 rfl ?_
    obtain ⟨r33, h32, hF⟩ := bd_some hF
    refine ww_callSi (pc := 126) X (As := [.int x29]) (rest := [.int r31, .int x19, .ref (G.2.1 0)]) dX10_slips_126 (kX10_within (mL M) G X.2.2.2.2.2.2.1 X.2.2.2.2.2.2.2.1 σ28 x29 r33 h32) rfl gX10_slips_X10_within hyX10_within ⟨rfl, rfl⟩ ⟨Nat.le_of_ble_eq_true rfl, Nat.le_of_ble_eq_true rfl⟩ rfl rfl (Nat.le_of_ble_eq_true rfl) ?_
    obtain ⟨σ35, h34, hF⟩ := bd_some hF
    refine ww_callVv (pc := 129) X (As := [.int x19, .int r31, .int r33]) (rest := []) dX10_slips_129 (kX10_measures (mL M) G X.2.2.2.2.2.2.1 X.2.2.2.2.2.2.2.1 σ28 x19 r31 r33 σ35 h34) rfl shzM_0 clzM_10 gX10_slips_X10_measures hyX10_measures ⟨rfl, rfl⟩ ⟨Nat.le_of_ble_eq_true rfl, Nat.le_of_ble_eq_true rfl⟩ rfl rfl (Nat.le_of_ble_eq_true rfl) ?_
    refine ww_iinc (pc := 132) X (j := 6) (v := 1) (lv' := [(7, .int x29), (6, .int x24), (5, .int x19), (0, .ref (G.2.1 0)), (1, .int c46_1), (2, .int c46_2)]) dX10_slips_132 rfl rfl (by decide) rfl hF (fun x36 ex36 hF => ?_)
    refine ww_goto (pc := 135) X (tgt := 46) dX10_slips_135 (by decide) ?_
    exact ww_sub [4, 5, 6, 0] rfl (ih46 x36 σ35 hF)
set_option maxRecDepth 100000 in
set_option maxHeartbeats 4000000 in
theorem wX10_slips {M : gM} {G : gG} {out : Int32 × gS} (X : gX M G zM cX10_slips RX10 8 wsX10_slips rmX10_slips (some .int)) (σ : gS) (p1 : Int32) (p2 : Int32) (p3 : Int32) (hF : fX10_slips σ p1 p2 p3 = some out) : WW M (gQi M G zM out.1 out.2) G zM 8 σ 0 [(0, .ref (G.2.1 0)), (1, .int p1), (2, .int p2), (3, .int p3)] [] := by
  unfold fX10_slips at hF
  refine ww_iload_n (pc := 0) X (j := 1) dX10_slips_0 rfl rfl ?_
  refine ww_i2l (pc := 1) X dX10_slips_1 ?_
  refine ww_lconst (pc := 2) X (v := 1) dX10_slips_2 (by decide) ?_
  refine ww_ldc2 (pc := 3) X (v := 60) (List.mem_of_getElem? (i := 1) rfl) dX10_slips_3 ?_
  obtain ⟨r2, h1, hF⟩ := bd_some hF
  refine ww_callSi (pc := 6) X (As := [.long p1.toInt64, .long 1, .long 60]) (rest := []) dX10_slips_6 (kX10_isIn (mL M) G X.2.2.2.2.2.2.1 X.2.2.2.2.2.2.2.1 σ p1.toInt64 1 60 r2 h1) rfl gX10_slips_X10_isIn hyX10_isIn ⟨rfl, rfl⟩ ⟨Nat.le_of_ble_eq_true rfl, Nat.le_of_ble_eq_true rfl⟩ rfl rfl (Nat.le_of_ble_eq_true rfl) ?_
  refine ww_if_eq (pc := 9) (tgt := 35) X dX10_slips_9 (by decide) hF (fun h3 hF => ?_) (fun h3 hF => ?_)
  · refine ww_iconst (pc := 35) X (v := (-1)) dX10_slips_35 (by decide) ?_
    exact ww_iret (pc := 36) X dX10_slips_36 (fst_of hF) (snd_of hF)
  · refine ww_iload_n (pc := 12) X (j := 2) dX10_slips_12 rfl rfl ?_
    refine ww_i2l (pc := 13) X dX10_slips_13 ?_
    refine ww_lconst (pc := 14) X (v := 0) dX10_slips_14 (by decide) ?_
    refine ww_ldc2 (pc := 15) X (v := 999) (List.mem_of_getElem? (i := 2) rfl) dX10_slips_15 ?_
    obtain ⟨r5, h4, hF⟩ := bd_some hF
    refine ww_callSi (pc := 18) X (As := [.long p2.toInt64, .long 0, .long 999]) (rest := []) dX10_slips_18 (kX10_isIn (mL M) G X.2.2.2.2.2.2.1 X.2.2.2.2.2.2.2.1 σ p2.toInt64 0 999 r5 h4) rfl gX10_slips_X10_isIn hyX10_isIn ⟨rfl, rfl⟩ ⟨Nat.le_of_ble_eq_true rfl, Nat.le_of_ble_eq_true rfl⟩ rfl rfl (Nat.le_of_ble_eq_true rfl) ?_
    refine ww_if_eq (pc := 21) (tgt := 35) X dX10_slips_21 (by decide) hF (fun h6 hF => ?_) (fun h6 hF => ?_)
    · refine ww_iconst (pc := 35) X (v := (-1)) dX10_slips_35 (by decide) ?_
      exact ww_iret (pc := 36) X dX10_slips_36 (fst_of hF) (snd_of hF)
    · refine ww_iload_n (pc := 24) X (j := 3) dX10_slips_24 rfl rfl ?_
      refine ww_if_lt (pc := 25) (tgt := 35) X dX10_slips_25 (by decide) hF (fun h7 hF => ?_) (fun h7 hF => ?_)
      · refine ww_iconst (pc := 35) X (v := (-1)) dX10_slips_35 (by decide) ?_
        exact ww_iret (pc := 36) X dX10_slips_36 (fst_of hF) (snd_of hF)
      · refine ww_aload_n (pc := 28) X (j := 0) dX10_slips_28 rfl rfl ?_
        obtain ⟨r9, h8, hF⟩ := bd_some hF
        refine ww_callVi (pc := 29) X (As := []) (rest := []) dX10_slips_29 (kX10_rows (mL M) G X.2.2.2.2.2.2.1 X.2.2.2.2.2.2.2.1 σ r9 h8) rfl shzM_0 clzM_10 gX10_slips_X10_rows hyX10_rows ⟨rfl, rfl⟩ ⟨Nat.le_of_ble_eq_true rfl, Nat.le_of_ble_eq_true rfl⟩ rfl rfl (Nat.le_of_ble_eq_true rfl) ?_
        refine ww_if_ne (pc := 32) (tgt := 37) X dX10_slips_32 (by decide) hF (fun h10 hF => ?_) (fun h10 hF => ?_)
        · refine ww_aload_n (pc := 37) X (j := 0) dX10_slips_37 rfl rfl ?_
          refine ww_iload_n (pc := 38) X (j := 3) dX10_slips_38 rfl rfl ?_
          refine ww_i2l (pc := 39) X dX10_slips_39 ?_
          refine ww_putL (pc := 40) X (ref := "PictureBlockModel") (T := TX10) (j := 54) dX10_slips_40 inX10_slips_RX10 tyX10 tyX10_ok nmX10 shzM_0 clzM_10 (by decide) rfl (List.mem_of_getElem? (i := 3) rfl) rfl rfl (by decide +kernel) hF (fun σ11 eσ11 hF => ?_)
          refine ww_iconst (pc := 43) X (v := 0) dX10_slips_43 (by decide) ?_
          refine ww_istore (pc := 44) X (lv' := [(0, .ref (G.2.1 0)), (1, .int p1), (2, .int p2), (3, .int p3)]) dX10_slips_44 (by decide) rfl hF (fun x12 ex12 hF => ?_)
          exact ww_sub [1, 2, 3, 0] rfl (lpc_ind (P := (fun (s : Int32 × gS) => WW M (gQi M G zM out.1 out.2) G zM 8 s.2 46 [(0, .ref (G.2.1 0)), (1, .int p1), (2, .int p2), (4, .int s.1)] [])) (fun rec s ih hF => wbX10_slips_46 X σ11 p1 p2 (fun a4 σ1 => rec (a4, σ1)) (fun a4 σ1 h => ih (a4, σ1) h) s.1 s.2 hF) K9 (x12, σ11) hF)
        · refine ww_iconst (pc := 35) X (v := (-1)) dX10_slips_35 (by decide) ?_
          exact ww_iret (pc := 36) X dX10_slips_36 (fst_of hF) (snd_of hF)
set_option maxRecDepth 100000 in
set_option maxHeartbeats 4000000 in
theorem kX10_slips (l : Launch) (G : gG) (hG : gOK G zM.1) (hT : G.2.2.1.map (fun q => q.2) = zM.2.1) (σ : gS) (p1 : Int32) (p2 : Int32) (p3 : Int32) (out : Int32 × gS) (hF : fX10_slips σ p1 p2 p3 = some out) : gCi l yX10_slips wsX10_slips rmX10_slips G zM [.ref (G.2.1 0), .int p1, .int p2, .int p3] σ out.1 out.2 :=
  gEnter (by decide) rfl ⟨rfl, rfl⟩ hG hT (Nat.le_of_ble_eq_true rfl) rfl (fun M X hl => wX10_slips X σ p1 p2 p3 hF)
noncomputable def fX10_writes (σ : gS) (p1 : Int32) : Option (gS) :=
  gd (gb (σ.1 0 56) 400) <| nm (gsI σ 40 (σ.1 0 56).toNatClampNeg p1) fun σ1 => nm (gsI σ1 0 56 ((σ1.1 0 56) + 1)) fun σ2 => some σ2
noncomputable abbrev rmX10_writes : Room := { frames := 0, cells := 0, slots := 0, locals := 0 }
set_option maxRecDepth 100000 in
set_option maxHeartbeats 4000000 in
theorem wX10_writes {M : gM} {G : gG} {out : gS} (X : gX M G zM cX10_writes RX10 2 wsX10_writes rmX10_writes none) (σ : gS) (p1 : Int32) (hF : fX10_writes σ p1 = some out) : WW M (gQv M G zM out) G zM 2 σ 0 [(0, .ref (G.2.1 0)), (1, .int p1)] [] := by
  unfold fX10_writes at hF
  refine ww_aload_n (pc := 0) X (j := 0) dX10_writes_0 rfl rfl ?_
  refine ww_get (pc := 1) X (ref := "PictureBlockModel") (T := TX10) (j := 55) dX10_writes_1 inX10_writes_RX10 shzM_0 clzM_10 (by decide) rfl (List.mem_of_getElem? (i := 1) rfl) rfl ?_
  refine ww_aload_n (pc := 4) X (j := 0) dX10_writes_4 rfl rfl ?_
  refine ww_get (pc := 5) X (ref := "PictureBlockModel") (T := TX10) (j := 56) dX10_writes_5 inX10_writes_RX10 shzM_0 clzM_10 (by decide) rfl (List.mem_of_getElem? (i := 2) rfl) rfl ?_
  refine ww_iload_n (pc := 8) X (j := 1) dX10_writes_8 rfl rfl ?_
  refine ww_iast (pc := 9) X dX10_writes_9 shzM_40 rfl hF (fun σ1 eσ1 bσ1 hF => ?_)
  refine ww_aload_n (pc := 10) X (j := 0) dX10_writes_10 rfl rfl ?_
  refine ww_dup (pc := 11) X dX10_writes_11 rfl ?_
  refine ww_get (pc := 12) X (ref := "PictureBlockModel") (T := TX10) (j := 56) dX10_writes_12 inX10_writes_RX10 shzM_0 clzM_10 (by decide) rfl (List.mem_of_getElem? (i := 2) rfl) rfl ?_
  refine ww_iconst (pc := 15) X (v := 1) dX10_writes_15 (by decide) ?_
  refine ww_iadd (pc := 16) X dX10_writes_16 ?_
  refine ww_putI (pc := 17) X (ref := "PictureBlockModel") (T := TX10) (j := 56) dX10_writes_17 inX10_writes_RX10 tyX10 tyX10_ok nmX10 shzM_0 clzM_10 (by decide) rfl (List.mem_of_getElem? (i := 2) rfl) rfl rfl (by decide +kernel) hF (fun σ2 eσ2 hF => ?_)
  exact ww_vret (pc := 20) X dX10_writes_20 (by cases hF; rfl)
set_option maxRecDepth 100000 in
set_option maxHeartbeats 4000000 in
theorem kX10_writes (l : Launch) (G : gG) (hG : gOK G zM.1) (hT : G.2.2.1.map (fun q => q.2) = zM.2.1) (σ : gS) (p1 : Int32) (out : gS) (hF : fX10_writes σ p1 = some out) : gCv l yX10_writes wsX10_writes rmX10_writes G zM [.ref (G.2.1 0), .int p1] σ out :=
  gEnter (by decide) rfl ⟨rfl, rfl⟩ hG hT (Nat.le_of_ble_eq_true rfl) rfl (fun M X hl => wX10_writes X σ p1 hF)
noncomputable def bX10_checked_5 (σ : gS) (c5_0 : Nat) (c5_1 : Int32) (rec5 : Int32 → Int32 → Option (Int32)) (a2 : Int32) (a3 : Int32) : Option (Int32) :=
  if c5_1 ≤ a3 then some a2 else gd (gb a3 (gsz zM.1 0 0 c5_0)) <| nm (σ.1 c5_0 a3.toNatClampNeg) fun v4 => nm (irm ((5 * a2) + v4) 241 : Int32) fun x5 => nm (a3 + 1 : Int32) fun x6 => rec5 x5 x6
noncomputable def fX10_checked (σ : gS) (p0 : Nat) (p1 : Int32) : Option (Int32) :=
  nm (45 : Int32) fun x1 => nm (0 : Int32) fun x2 => lpc (S := Int32 × Int32) K9 (fun rec s => bX10_checked_5 σ p0 p1 (fun a2 a3 => rec (a2, a3)) s.1 s.2) (x1, x2)
noncomputable abbrev rmX10_checked : Room := { frames := 0, cells := 0, slots := 0, locals := 0 }
set_option maxRecDepth 100000 in
set_option maxHeartbeats 4000000 in
theorem wbX10_checked_5 {M : gM} {G : gG} {out : Int32} (X : gX M G zM cX10_checked RX10 4 wsX10_checked rmX10_checked (some .int)) (σ : gS) (c5_0 : Nat) (c5_1 : Int32) (rec5 : Int32 → Int32 → Option (Int32)) (ih5 : ∀ (a2 : Int32) (a3 : Int32), rec5 a2 a3 = some out → WW M (gQi M G zM out σ) G zM 4 σ 5 [(0, .ref (G.2.1 c5_0)), (1, .int c5_1), (2, .int a2), (3, .int a3)] []) (a2 : Int32) (a3 : Int32) (hF : bX10_checked_5 σ c5_0 c5_1 rec5 a2 a3 = some out) : WW M (gQi M G zM out σ) G zM 4 σ 5 [(0, .ref (G.2.1 c5_0)), (1, .int c5_1), (2, .int a2), (3, .int a3)] [] := by
  unfold bX10_checked_5 at hF
  refine ww_iload_n (pc := 5) X (j := 3) dX10_checked_5 rfl rfl ?_
  refine ww_iload_n (pc := 6) X (j := 1) dX10_checked_6 rfl rfl ?_
  refine ww_icmp_ge (pc := 7) (tgt := 28) X dX10_checked_7 (by decide) hF (fun h3 hF => ?_) (fun h3 hF => ?_)
  · refine ww_iload_n (pc := 28) X (j := 2) dX10_checked_28 rfl rfl ?_
    exact ww_iret (pc := 29) X dX10_checked_29 (Option.some.inj hF) rfl
  · refine ww_iconst (pc := 10) X (v := 5) dX10_checked_10 (by decide) ?_
    refine ww_iload_n (pc := 11) X (j := 2) dX10_checked_11 rfl rfl ?_
    refine ww_imul (pc := 12) X dX10_checked_12 ?_
    refine ww_aload_n (pc := 13) X (j := 0) dX10_checked_13 rfl rfl ?_
    refine ww_iload_n (pc := 14) X (j := 3) dX10_checked_14 rfl rfl ?_
    refine ww_ialdS (pc := 15) X dX10_checked_15  (t := 0) rfl hF (fun v4 ev4 bv4 hF => ?_)
    refine ww_iadd (pc := 16) X dX10_checked_16 ?_
    refine ww_sipush (pc := 17) X (v := 241) dX10_checked_17 (by decide) ?_
    refine ww_irem (pc := 20) X dX10_checked_20 (by decide) ?_
    refine ww_istore_n (pc := 21) X (lv' := [(0, .ref (G.2.1 c5_0)), (1, .int c5_1), (3, .int a3)]) dX10_checked_21 rfl (by decide) rfl hF (fun x5 ex5 hF => ?_)
    refine ww_iinc (pc := 22) X (j := 3) (v := 1) (lv' := [(2, .int x5), (0, .ref (G.2.1 c5_0)), (1, .int c5_1)]) dX10_checked_22 rfl rfl (by decide) rfl hF (fun x6 ex6 hF => ?_)
    refine ww_goto (pc := 25) X (tgt := 5) dX10_checked_25 (by decide) ?_
    exact ww_sub [2, 3, 1, 0] rfl (ih5 x5 x6 hF)
set_option maxRecDepth 100000 in
set_option maxHeartbeats 4000000 in
theorem wX10_checked {M : gM} {G : gG} {out : Int32} (X : gX M G zM cX10_checked RX10 4 wsX10_checked rmX10_checked (some .int)) (σ : gS) (p0 : Nat) (p1 : Int32) (hF : fX10_checked σ p0 p1 = some out) : WW M (gQi M G zM out σ) G zM 4 σ 0 [(0, .ref (G.2.1 p0)), (1, .int p1)] [] := by
  unfold fX10_checked at hF
  refine ww_bipush (pc := 0) X (v := 45) dX10_checked_0 (by decide) ?_
  refine ww_istore_n (pc := 2) X (lv' := [(0, .ref (G.2.1 p0)), (1, .int p1)]) dX10_checked_2 rfl (by decide) rfl hF (fun x1 ex1 hF => ?_)
  refine ww_iconst (pc := 3) X (v := 0) dX10_checked_3 (by decide) ?_
  refine ww_istore_n (pc := 4) X (lv' := [(2, .int x1), (0, .ref (G.2.1 p0)), (1, .int p1)]) dX10_checked_4 rfl (by decide) rfl hF (fun x2 ex2 hF => ?_)
  exact ww_sub [2, 3, 1, 0] rfl (lpc_ind (P := (fun (s : Int32 × Int32) => WW M (gQi M G zM out σ) G zM 4 σ 5 [(0, .ref (G.2.1 p0)), (1, .int p1), (2, .int s.1), (3, .int s.2)] [])) (fun rec s ih hF => wbX10_checked_5 X σ p0 p1 (fun a2 a3 => rec (a2, a3)) (fun a2 a3 h => ih (a2, a3) h) s.1 s.2 hF) K9 (x1, x2) hF)
set_option maxRecDepth 100000 in
set_option maxHeartbeats 4000000 in
theorem kX10_checked (l : Launch) (G : gG) (hG : gOK G zM.1) (hT : G.2.2.1.map (fun q => q.2) = zM.2.1) (σ : gS) (p0 : Nat) (p1 : Int32) (out : Int32) (hF : fX10_checked σ p0 p1 = some out) : gCi l yX10_checked wsX10_checked rmX10_checked G zM [.ref (G.2.1 p0), .int p1] σ out σ :=
  gEnter (by decide) rfl ⟨rfl, rfl⟩ hG hT (Nat.le_of_ble_eq_true rfl) rfl (fun M X hl => wX10_checked X σ p0 p1 hF)
noncomputable def bX10_writesFour_3 (σ : gS) (c3_1 : Int32) (rec3 : Int32 → gS → Option (gS)) (a2 : Int32) (σ1 : gS) : Option (gS) :=
  if a2 < 0 then some σ1 else bd (fX10_writes σ1 ((c3_1 >>> (a2 &&& 31)) &&& 255)) fun σ4 => nm (a2 + (-8) : Int32) fun x5 => rec3 x5 σ4
noncomputable def fX10_writesFour (σ : gS) (p1 : Int32) : Option (gS) :=
  nm (24 : Int32) fun x1 => lpc (S := Int32 × gS) K9 (fun rec s => bX10_writesFour_3 σ p1 (fun a2 σ1 => rec (a2, σ1)) s.1 s.2) (x1, σ)
noncomputable abbrev rmX10_writesFour : Room := { frames := 1, cells := 0, slots := 0, locals := 21 }
set_option maxRecDepth 100000 in
set_option maxHeartbeats 4000000 in
theorem wbX10_writesFour_3 {M : gM} {G : gG} {out : gS} (X : gX M G zM cX10_writesFour RX10 3 wsX10_writesFour rmX10_writesFour none) (σ : gS) (c3_1 : Int32) (rec3 : Int32 → gS → Option (gS)) (ih3 : ∀ (a2 : Int32) (σ1 : gS), rec3 a2 σ1 = some out → WW M (gQv M G zM out) G zM 3 σ1 3 [(0, .ref (G.2.1 0)), (1, .int c3_1), (2, .int a2)] []) (a2 : Int32) (σ1 : gS) (hF : bX10_writesFour_3 σ c3_1 rec3 a2 σ1 = some out) : WW M (gQv M G zM out) G zM 3 σ1 3 [(0, .ref (G.2.1 0)), (1, .int c3_1), (2, .int a2)] [] := by
  unfold bX10_writesFour_3 at hF
  refine ww_iload_n (pc := 3) X (j := 2) dX10_writesFour_3 rfl rfl ?_
  refine ww_if_lt (pc := 4) (tgt := 24) X dX10_writesFour_4 (by decide) hF (fun h2 hF => ?_) (fun h2 hF => ?_)
  · exact ww_vret (pc := 24) X dX10_writesFour_24 (by cases hF; rfl)
  · refine ww_aload_n (pc := 7) X (j := 0) dX10_writesFour_7 rfl rfl ?_
    refine ww_iload_n (pc := 8) X (j := 1) dX10_writesFour_8 rfl rfl ?_
    refine ww_iload_n (pc := 9) X (j := 2) dX10_writesFour_9 rfl rfl ?_
    refine ww_ishr (pc := 10) X dX10_writesFour_10 ?_
    refine ww_sipush (pc := 11) X (v := 255) dX10_writesFour_11 (by decide) ?_
    refine ww_iand (pc := 14) X dX10_writesFour_14 ?_
    obtain ⟨σ4, h3, hF⟩ := bd_some hF
    refine ww_callVv (pc := 15) X (As := [.int ((c3_1 >>> (a2 &&& 31)) &&& 255)]) (rest := []) dX10_writesFour_15 (kX10_writes (mL M) G X.2.2.2.2.2.2.1 X.2.2.2.2.2.2.2.1 σ1 ((c3_1 >>> (a2 &&& 31)) &&& 255) σ4 h3) rfl shzM_0 clzM_10 gX10_writesFour_X10_writes hyX10_writes ⟨rfl, rfl⟩ ⟨Nat.le_of_ble_eq_true rfl, Nat.le_of_ble_eq_true rfl⟩ rfl rfl (Nat.le_of_ble_eq_true rfl) ?_
    refine ww_iinc (pc := 18) X (j := 2) (v := (-8)) (lv' := [(0, .ref (G.2.1 0)), (1, .int c3_1)]) dX10_writesFour_18 rfl rfl (by decide) rfl hF (fun x5 ex5 hF => ?_)
    refine ww_goto (pc := 21) X (tgt := 3) dX10_writesFour_21 (by decide) ?_
    exact ww_sub [1, 2, 0] rfl (ih3 x5 σ4 hF)
set_option maxRecDepth 100000 in
set_option maxHeartbeats 4000000 in
theorem wX10_writesFour {M : gM} {G : gG} {out : gS} (X : gX M G zM cX10_writesFour RX10 3 wsX10_writesFour rmX10_writesFour none) (σ : gS) (p1 : Int32) (hF : fX10_writesFour σ p1 = some out) : WW M (gQv M G zM out) G zM 3 σ 0 [(0, .ref (G.2.1 0)), (1, .int p1)] [] := by
  unfold fX10_writesFour at hF
  refine ww_bipush (pc := 0) X (v := 24) dX10_writesFour_0 (by decide) ?_
  refine ww_istore_n (pc := 2) X (lv' := [(0, .ref (G.2.1 0)), (1, .int p1)]) dX10_writesFour_2 rfl (by decide) rfl hF (fun x1 ex1 hF => ?_)
  exact ww_sub [1, 2, 0] rfl (lpc_ind (P := (fun (s : Int32 × gS) => WW M (gQv M G zM out) G zM 3 s.2 3 [(0, .ref (G.2.1 0)), (1, .int p1), (2, .int s.1)] [])) (fun rec s ih hF => wbX10_writesFour_3 X σ p1 (fun a2 σ1 => rec (a2, σ1)) (fun a2 σ1 h => ih (a2, σ1) h) s.1 s.2 hF) K9 (x1, σ) hF)
set_option maxRecDepth 100000 in
set_option maxHeartbeats 4000000 in
theorem kX10_writesFour (l : Launch) (G : gG) (hG : gOK G zM.1) (hT : G.2.2.1.map (fun q => q.2) = zM.2.1) (σ : gS) (p1 : Int32) (out : gS) (hF : fX10_writesFour σ p1 = some out) : gCv l yX10_writesFour wsX10_writesFour rmX10_writesFour G zM [.ref (G.2.1 0), .int p1] σ out :=
  gEnter (by decide) rfl ⟨rfl, rfl⟩ hG hT (Nat.le_of_ble_eq_true rfl) rfl (fun M X hl => wX10_writesFour X σ p1 hF)
noncomputable def fX10_writesPlace (σ : gS) (p1 : Int32) : Option (gS) :=
  gd (gb p1 76) <| nm (σ.1 28 p1.toNatClampNeg) fun v1 => bd (fX10_writesFour σ v1) fun σ3 => gd (gb (38 + p1) 76) <| nm (σ3.1 28 (38 + p1).toNatClampNeg) fun v4 => bd (fX10_writesFour σ3 v4) fun σ6 => some σ6
noncomputable abbrev rmX10_writesPlace : Room := { frames := 2, cells := 0, slots := 0, locals := 43 }
set_option maxRecDepth 100000 in
set_option maxHeartbeats 4000000 in
theorem wX10_writesPlace {M : gM} {G : gG} {out : gS} (X : gX M G zM cX10_writesPlace RX10 2 wsX10_writesPlace rmX10_writesPlace none) (σ : gS) (p1 : Int32) (hF : fX10_writesPlace σ p1 = some out) : WW M (gQv M G zM out) G zM 2 σ 0 [(0, .ref (G.2.1 0)), (1, .int p1)] [] := by
  unfold fX10_writesPlace at hF
  refine ww_aload_n (pc := 0) X (j := 0) dX10_writesPlace_0 rfl rfl ?_
  refine ww_aload_n (pc := 1) X (j := 0) dX10_writesPlace_1 rfl rfl ?_
  refine ww_get (pc := 2) X (ref := "PictureBlockModel") (T := TX10) (j := 38) dX10_writesPlace_2 inX10_writesPlace_RX10 shzM_0 clzM_10 (by decide) rfl (List.mem_of_getElem? (i := 1) rfl) rfl ?_
  refine ww_iload_n (pc := 5) X (j := 1) dX10_writesPlace_5 rfl rfl ?_
  refine ww_iald (pc := 6) X dX10_writesPlace_6 shzM_28 rfl hF (fun v1 ev1 bv1 hF => ?_)
  obtain ⟨σ3, h2, hF⟩ := bd_some hF
  refine ww_callVv (pc := 7) X (As := [.int v1]) (rest := []) dX10_writesPlace_7 (kX10_writesFour (mL M) G X.2.2.2.2.2.2.1 X.2.2.2.2.2.2.2.1 σ v1 σ3 h2) rfl shzM_0 clzM_10 gX10_writesPlace_X10_writesFour hyX10_writesFour ⟨rfl, rfl⟩ ⟨Nat.le_of_ble_eq_true rfl, Nat.le_of_ble_eq_true rfl⟩ rfl rfl (Nat.le_of_ble_eq_true rfl) ?_
  refine ww_aload_n (pc := 10) X (j := 0) dX10_writesPlace_10 rfl rfl ?_
  refine ww_aload_n (pc := 11) X (j := 0) dX10_writesPlace_11 rfl rfl ?_
  refine ww_get (pc := 12) X (ref := "PictureBlockModel") (T := TX10) (j := 38) dX10_writesPlace_12 inX10_writesPlace_RX10 shzM_0 clzM_10 (by decide) rfl (List.mem_of_getElem? (i := 1) rfl) rfl ?_
  refine ww_bipush (pc := 15) X (v := 38) dX10_writesPlace_15 (by decide) ?_
  refine ww_iload_n (pc := 17) X (j := 1) dX10_writesPlace_17 rfl rfl ?_
  refine ww_iadd (pc := 18) X dX10_writesPlace_18 ?_
  refine ww_iald (pc := 19) X dX10_writesPlace_19 shzM_28 rfl hF (fun v4 ev4 bv4 hF => ?_)
  obtain ⟨σ6, h5, hF⟩ := bd_some hF
  refine ww_callVv (pc := 20) X (As := [.int v4]) (rest := []) dX10_writesPlace_20 (kX10_writesFour (mL M) G X.2.2.2.2.2.2.1 X.2.2.2.2.2.2.2.1 σ3 v4 σ6 h5) rfl shzM_0 clzM_10 gX10_writesPlace_X10_writesFour hyX10_writesFour ⟨rfl, rfl⟩ ⟨Nat.le_of_ble_eq_true rfl, Nat.le_of_ble_eq_true rfl⟩ rfl rfl (Nat.le_of_ble_eq_true rfl) ?_
  exact ww_vret (pc := 23) X dX10_writesPlace_23 (by cases hF; rfl)
set_option maxRecDepth 100000 in
set_option maxHeartbeats 4000000 in
theorem kX10_writesPlace (l : Launch) (G : gG) (hG : gOK G zM.1) (hT : G.2.2.1.map (fun q => q.2) = zM.2.1) (σ : gS) (p1 : Int32) (out : gS) (hF : fX10_writesPlace σ p1 = some out) : gCv l yX10_writesPlace wsX10_writesPlace rmX10_writesPlace G zM [.ref (G.2.1 0), .int p1] σ out :=
  gEnter (by decide) rfl ⟨rfl, rfl⟩ hG hT (Nat.le_of_ble_eq_true rfl) rfl (fun M X hl => wX10_writesPlace X σ p1 hF)
noncomputable def bX10_image_97 (σ : gS) (rec97 : Int32 → gS → Option (Int32 × gS)) (a1 : Int32) (σ1 : gS) : Option (Int32 × gS) :=
  bd (fX10_rows σ1) fun r17 => (if r17 ≤ a1 then bd (fX10_checked σ1 40 (σ1.1 0 56)) fun r20 => bd (fX10_writes σ1 r20) fun σ22 => some (σ22.1 0 56, σ22) else gd (gb a1 60) <| nm (σ1.1 26 a1.toNatClampNeg) fun v23 => (if v23 = 0 then bd (fX10_writes σ1 0) fun σ26 => nm (a1 + 1 : Int32) fun x27 => rec97 x27 σ26 else bd (fX10_writes σ1 1) fun σ29 => nm (a1 + 1 : Int32) fun x30 => rec97 x30 σ29))
noncomputable def bX10_image_70 (σ : gS) (rec70 : Int32 → gS → Option (Int32 × gS)) (a1 : Int32) (σ1 : gS) : Option (Int32 × gS) :=
  gd (gb 6 12) <| nm (σ1.1 15 ((6 : Int32).toNatClampNeg)) fun v13 => (if v13 ≤ a1 then nm (0 : Int32) fun x15 => lpc (S := Int32 × gS) K9 (fun rec s => bX10_image_97 σ1 (fun a1 σ1 => rec (a1, σ1)) s.1 s.2) (x15, σ1) else bd (fX10_writesPlace σ1 (32 + a1)) fun σ32 => nm (a1 + 1 : Int32) fun x33 => rec70 x33 σ32)
noncomputable def bX10_image_46 (σ : gS) (rec46 : Int32 → gS → Option (Int32 × gS)) (a1 : Int32) (σ1 : gS) : Option (Int32 × gS) :=
  bd (fX10_points σ1) fun r10 => (if r10 ≤ a1 then nm (0 : Int32) fun x12 => lpc (S := Int32 × gS) K9 (fun rec s => bX10_image_70 σ1 (fun a1 σ1 => rec (a1, σ1)) s.1 s.2) (x12, σ1) else bd (fX10_writesPlace σ1 (12 + a1)) fun σ35 => nm (a1 + 1 : Int32) fun x36 => rec46 x36 σ35)
noncomputable def bX10_image_15 (σ : gS) (rec15 : Int32 → gS → Option (Int32 × gS)) (a1 : Int32) (σ1 : gS) : Option (Int32 × gS) :=
  bd (fX10_pictures σ1) fun r6 => (if r6 ≤ a1 then nm (0 : Int32) fun x8 => lpc (S := Int32 × gS) K9 (fun rec s => bX10_image_46 σ1 (fun a1 σ1 => rec (a1, σ1)) s.1 s.2) (x8, σ1) else gd (gb a1 12) <| nm (σ1.1 27 a1.toNatClampNeg) fun v37 => bd (fX10_writes σ1 v37) fun σ39 => bd (fX10_writesPlace σ39 a1) fun σ41 => nm (a1 + 1 : Int32) fun x42 => rec15 x42 σ41)
noncomputable def fX10_image (σ : gS) : Option (Int32 × gS) :=
  nm (gsI σ 0 56 0) fun σ1 => bd (fX10_writes σ1 (σ1.1 0 36)) fun σ3 => nm (0 : Int32) fun x4 => lpc (S := Int32 × gS) K9 (fun rec s => bX10_image_15 σ3 (fun a1 σ1 => rec (a1, σ1)) s.1 s.2) (x4, σ3)
noncomputable abbrev rmX10_image : Room := { frames := 3, cells := 0, slots := 0, locals := 64 }
set_option maxRecDepth 100000 in
set_option maxHeartbeats 4000000 in
theorem wbX10_image_97 {M : gM} {G : gG} {out : Int32 × gS} (X : gX M G zM cX10_image RX10 2 wsX10_image rmX10_image (some .int)) (σ : gS) (rec97 : Int32 → gS → Option (Int32 × gS)) (ih97 : ∀ (a1 : Int32) (σ1 : gS), rec97 a1 σ1 = some out → WW M (gQi M G zM out.1 out.2) G zM 2 σ1 97 [(0, .ref (G.2.1 0)), (1, .int a1)] []) (a1 : Int32) (σ1 : gS) (hF : bX10_image_97 σ rec97 a1 σ1 = some out) : WW M (gQi M G zM out.1 out.2) G zM 2 σ1 97 [(0, .ref (G.2.1 0)), (1, .int a1)] [] := by
  unfold bX10_image_97 at hF
  refine ww_iload_n (pc := 97) X (j := 1) dX10_image_97 rfl rfl ?_
  refine ww_aload_n (pc := 98) X (j := 0) dX10_image_98 rfl rfl ?_
  obtain ⟨r17, h16, hF⟩ := bd_some hF
  refine ww_callVi (pc := 99) X (As := []) (rest := [.int a1]) dX10_image_99 (kX10_rows (mL M) G X.2.2.2.2.2.2.1 X.2.2.2.2.2.2.2.1 σ1 r17 h16) rfl shzM_0 clzM_10 gX10_image_X10_rows hyX10_rows ⟨rfl, rfl⟩ ⟨Nat.le_of_ble_eq_true rfl, Nat.le_of_ble_eq_true rfl⟩ rfl rfl (Nat.le_of_ble_eq_true rfl) ?_
  refine ww_icmp_ge (pc := 102) (tgt := 129) X dX10_image_102 (by decide) hF (fun h18 hF => ?_) (fun h18 hF => ?_)
  · refine ww_aload_n (pc := 129) X (j := 0) dX10_image_129 rfl rfl ?_
    refine ww_aload_n (pc := 130) X (j := 0) dX10_image_130 rfl rfl ?_
    refine ww_get (pc := 131) X (ref := "PictureBlockModel") (T := TX10) (j := 55) dX10_image_131 inX10_image_RX10 shzM_0 clzM_10 (by decide) rfl (List.mem_of_getElem? (i := 6) rfl) rfl ?_
    refine ww_aload_n (pc := 134) X (j := 0) dX10_image_134 rfl rfl ?_
    refine ww_get (pc := 135) X (ref := "PictureBlockModel") (T := TX10) (j := 56) dX10_image_135 inX10_image_RX10 shzM_0 clzM_10 (by decide) rfl (List.mem_of_getElem? (i := 1) rfl) rfl ?_
    obtain ⟨r20, h19, hF⟩ := bd_some hF
    refine ww_callSi (pc := 138) X (As := [.ref (G.2.1 40), .int (σ1.1 0 56)]) (rest := [.ref (G.2.1 0)]) dX10_image_138 (kX10_checked (mL M) G X.2.2.2.2.2.2.1 X.2.2.2.2.2.2.2.1 σ1 40 (σ1.1 0 56) r20 h19) rfl gX10_image_X10_checked hyX10_checked ⟨rfl, rfl⟩ ⟨Nat.le_of_ble_eq_true rfl, Nat.le_of_ble_eq_true rfl⟩ rfl rfl (Nat.le_of_ble_eq_true rfl) ?_
    obtain ⟨σ22, h21, hF⟩ := bd_some hF
    refine ww_callVv (pc := 141) X (As := [.int r20]) (rest := []) dX10_image_141 (kX10_writes (mL M) G X.2.2.2.2.2.2.1 X.2.2.2.2.2.2.2.1 σ1 r20 σ22 h21) rfl shzM_0 clzM_10 gX10_image_X10_writes hyX10_writes ⟨rfl, rfl⟩ ⟨Nat.le_of_ble_eq_true rfl, Nat.le_of_ble_eq_true rfl⟩ rfl rfl (Nat.le_of_ble_eq_true rfl) ?_
    refine ww_aload_n (pc := 144) X (j := 0) dX10_image_144 rfl rfl ?_
    refine ww_get (pc := 145) X (ref := "PictureBlockModel") (T := TX10) (j := 56) dX10_image_145 inX10_image_RX10 shzM_0 clzM_10 (by decide) rfl (List.mem_of_getElem? (i := 1) rfl) rfl ?_
    exact ww_iret (pc := 148) X dX10_image_148 (fst_of hF) (snd_of hF)
  · refine ww_aload_n (pc := 105) X (j := 0) dX10_image_105 rfl rfl ?_
    refine ww_aload_n (pc := 106) X (j := 0) dX10_image_106 rfl rfl ?_
    refine ww_get (pc := 107) X (ref := "PictureBlockModel") (T := TX10) (j := 35) dX10_image_107 inX10_image_RX10 shzM_0 clzM_10 (by decide) rfl (List.mem_of_getElem? (i := 5) rfl) rfl ?_
    refine ww_iload_n (pc := 110) X (j := 1) dX10_image_110 rfl rfl ?_
    refine ww_zald (pc := 111) X dX10_image_111 shzM_26 rfl hF (fun v23 ev23 bv23 hF => ?_)
    refine ww_if_eq (pc := 112) (tgt := 119) X dX10_image_112 (by decide) hF (fun h24 hF => ?_) (fun h24 hF => ?_)
    · refine ww_iconst (pc := 119) X (v := 0) dX10_image_119 (by decide) ?_
      obtain ⟨σ26, h25, hF⟩ := bd_some hF
      refine ww_callVv (pc := 120) X (As := [.int 0]) (rest := []) dX10_image_120 (kX10_writes (mL M) G X.2.2.2.2.2.2.1 X.2.2.2.2.2.2.2.1 σ1 0 σ26 h25) rfl shzM_0 clzM_10 gX10_image_X10_writes hyX10_writes ⟨rfl, rfl⟩ ⟨Nat.le_of_ble_eq_true rfl, Nat.le_of_ble_eq_true rfl⟩ rfl rfl (Nat.le_of_ble_eq_true rfl) ?_
      refine ww_iinc (pc := 123) X (j := 1) (v := 1) (lv' := [(0, .ref (G.2.1 0))]) dX10_image_123 rfl rfl (by decide) rfl hF (fun x27 ex27 hF => ?_)
      refine ww_goto (pc := 126) X (tgt := 97) dX10_image_126 (by decide) ?_
      exact ww_sub [1, 0] rfl (ih97 x27 σ26 hF)
    · refine ww_iconst (pc := 115) X (v := 1) dX10_image_115 (by decide) ?_
      refine ww_goto (pc := 116) X (tgt := 120) dX10_image_116 (by decide) ?_
      obtain ⟨σ29, h28, hF⟩ := bd_some hF
      refine ww_callVv (pc := 120) X (As := [.int 1]) (rest := []) dX10_image_120 (kX10_writes (mL M) G X.2.2.2.2.2.2.1 X.2.2.2.2.2.2.2.1 σ1 1 σ29 h28) rfl shzM_0 clzM_10 gX10_image_X10_writes hyX10_writes ⟨rfl, rfl⟩ ⟨Nat.le_of_ble_eq_true rfl, Nat.le_of_ble_eq_true rfl⟩ rfl rfl (Nat.le_of_ble_eq_true rfl) ?_
      refine ww_iinc (pc := 123) X (j := 1) (v := 1) (lv' := [(0, .ref (G.2.1 0))]) dX10_image_123 rfl rfl (by decide) rfl hF (fun x30 ex30 hF => ?_)
      refine ww_goto (pc := 126) X (tgt := 97) dX10_image_126 (by decide) ?_
      exact ww_sub [1, 0] rfl (ih97 x30 σ29 hF)
set_option maxRecDepth 100000 in
set_option maxHeartbeats 4000000 in
theorem wbX10_image_70 {M : gM} {G : gG} {out : Int32 × gS} (X : gX M G zM cX10_image RX10 2 wsX10_image rmX10_image (some .int)) (σ : gS) (rec70 : Int32 → gS → Option (Int32 × gS)) (ih70 : ∀ (a1 : Int32) (σ1 : gS), rec70 a1 σ1 = some out → WW M (gQi M G zM out.1 out.2) G zM 2 σ1 70 [(0, .ref (G.2.1 0)), (1, .int a1)] []) (a1 : Int32) (σ1 : gS) (hF : bX10_image_70 σ rec70 a1 σ1 = some out) : WW M (gQi M G zM out.1 out.2) G zM 2 σ1 70 [(0, .ref (G.2.1 0)), (1, .int a1)] [] := by
  unfold bX10_image_70 at hF
  refine ww_iload_n (pc := 70) X (j := 1) dX10_image_70 rfl rfl ?_
  refine ww_aload_n (pc := 71) X (j := 0) dX10_image_71 rfl rfl ?_
  refine ww_get (pc := 72) X (ref := "PictureBlockModel") (T := TX10) (j := 23) dX10_image_72 inX10_image_RX10 shzM_0 clzM_10 (by decide) rfl (List.mem_of_getElem? (i := 4) rfl) rfl ?_
  refine ww_bipush (pc := 75) X (v := 6) dX10_image_75 (by decide) ?_
  refine ww_iald (pc := 77) X dX10_image_77 shzM_15 rfl hF (fun v13 ev13 bv13 hF => ?_)
  refine ww_icmp_ge (pc := 78) (tgt := 95) X dX10_image_78 (by decide) hF (fun h14 hF => ?_) (fun h14 hF => ?_)
  · refine ww_iconst (pc := 95) X (v := 0) dX10_image_95 (by decide) ?_
    refine ww_istore_n (pc := 96) X (lv' := [(0, .ref (G.2.1 0))]) dX10_image_96 rfl (by decide) rfl hF (fun x15 ex15 hF => ?_)
    exact ww_sub [1, 0] rfl (lpc_ind (P := (fun (s : Int32 × gS) => WW M (gQi M G zM out.1 out.2) G zM 2 s.2 97 [(0, .ref (G.2.1 0)), (1, .int s.1)] [])) (fun rec s ih hF => wbX10_image_97 X σ1 (fun a1 σ1 => rec (a1, σ1)) (fun a1 σ1 h => ih (a1, σ1) h) s.1 s.2 hF) K9 (x15, σ1) hF)
  · refine ww_aload_n (pc := 81) X (j := 0) dX10_image_81 rfl rfl ?_
    refine ww_bipush (pc := 82) X (v := 32) dX10_image_82 (by decide) ?_
    refine ww_iload_n (pc := 84) X (j := 1) dX10_image_84 rfl rfl ?_
    refine ww_iadd (pc := 85) X dX10_image_85 ?_
    obtain ⟨σ32, h31, hF⟩ := bd_some hF
    refine ww_callVv (pc := 86) X (As := [.int (32 + a1)]) (rest := []) dX10_image_86 (kX10_writesPlace (mL M) G X.2.2.2.2.2.2.1 X.2.2.2.2.2.2.2.1 σ1 (32 + a1) σ32 h31) rfl shzM_0 clzM_10 gX10_image_X10_writesPlace hyX10_writesPlace ⟨rfl, rfl⟩ ⟨Nat.le_of_ble_eq_true rfl, Nat.le_of_ble_eq_true rfl⟩ rfl rfl (Nat.le_of_ble_eq_true rfl) ?_
    refine ww_iinc (pc := 89) X (j := 1) (v := 1) (lv' := [(0, .ref (G.2.1 0))]) dX10_image_89 rfl rfl (by decide) rfl hF (fun x33 ex33 hF => ?_)
    refine ww_goto (pc := 92) X (tgt := 70) dX10_image_92 (by decide) ?_
    exact ww_sub [1, 0] rfl (ih70 x33 σ32 hF)
set_option maxRecDepth 100000 in
set_option maxHeartbeats 4000000 in
theorem wbX10_image_46 {M : gM} {G : gG} {out : Int32 × gS} (X : gX M G zM cX10_image RX10 2 wsX10_image rmX10_image (some .int)) (σ : gS) (rec46 : Int32 → gS → Option (Int32 × gS)) (ih46 : ∀ (a1 : Int32) (σ1 : gS), rec46 a1 σ1 = some out → WW M (gQi M G zM out.1 out.2) G zM 2 σ1 46 [(0, .ref (G.2.1 0)), (1, .int a1)] []) (a1 : Int32) (σ1 : gS) (hF : bX10_image_46 σ rec46 a1 σ1 = some out) : WW M (gQi M G zM out.1 out.2) G zM 2 σ1 46 [(0, .ref (G.2.1 0)), (1, .int a1)] [] := by
  unfold bX10_image_46 at hF
  refine ww_iload_n (pc := 46) X (j := 1) dX10_image_46 rfl rfl ?_
  refine ww_aload_n (pc := 47) X (j := 0) dX10_image_47 rfl rfl ?_
  obtain ⟨r10, h9, hF⟩ := bd_some hF
  refine ww_callVi (pc := 48) X (As := []) (rest := [.int a1]) dX10_image_48 (kX10_points (mL M) G X.2.2.2.2.2.2.1 X.2.2.2.2.2.2.2.1 σ1 r10 h9) rfl shzM_0 clzM_10 gX10_image_X10_points hyX10_points ⟨rfl, rfl⟩ ⟨Nat.le_of_ble_eq_true rfl, Nat.le_of_ble_eq_true rfl⟩ rfl rfl (Nat.le_of_ble_eq_true rfl) ?_
  refine ww_icmp_ge (pc := 51) (tgt := 68) X dX10_image_51 (by decide) hF (fun h11 hF => ?_) (fun h11 hF => ?_)
  · refine ww_iconst (pc := 68) X (v := 0) dX10_image_68 (by decide) ?_
    refine ww_istore_n (pc := 69) X (lv' := [(0, .ref (G.2.1 0))]) dX10_image_69 rfl (by decide) rfl hF (fun x12 ex12 hF => ?_)
    exact ww_sub [1, 0] rfl (lpc_ind (P := (fun (s : Int32 × gS) => WW M (gQi M G zM out.1 out.2) G zM 2 s.2 70 [(0, .ref (G.2.1 0)), (1, .int s.1)] [])) (fun rec s ih hF => wbX10_image_70 X σ1 (fun a1 σ1 => rec (a1, σ1)) (fun a1 σ1 h => ih (a1, σ1) h) s.1 s.2 hF) K9 (x12, σ1) hF)
  · refine ww_aload_n (pc := 54) X (j := 0) dX10_image_54 rfl rfl ?_
    refine ww_bipush (pc := 55) X (v := 12) dX10_image_55 (by decide) ?_
    refine ww_iload_n (pc := 57) X (j := 1) dX10_image_57 rfl rfl ?_
    refine ww_iadd (pc := 58) X dX10_image_58 ?_
    obtain ⟨σ35, h34, hF⟩ := bd_some hF
    refine ww_callVv (pc := 59) X (As := [.int (12 + a1)]) (rest := []) dX10_image_59 (kX10_writesPlace (mL M) G X.2.2.2.2.2.2.1 X.2.2.2.2.2.2.2.1 σ1 (12 + a1) σ35 h34) rfl shzM_0 clzM_10 gX10_image_X10_writesPlace hyX10_writesPlace ⟨rfl, rfl⟩ ⟨Nat.le_of_ble_eq_true rfl, Nat.le_of_ble_eq_true rfl⟩ rfl rfl (Nat.le_of_ble_eq_true rfl) ?_
    refine ww_iinc (pc := 62) X (j := 1) (v := 1) (lv' := [(0, .ref (G.2.1 0))]) dX10_image_62 rfl rfl (by decide) rfl hF (fun x36 ex36 hF => ?_)
    refine ww_goto (pc := 65) X (tgt := 46) dX10_image_65 (by decide) ?_
    exact ww_sub [1, 0] rfl (ih46 x36 σ35 hF)
set_option maxRecDepth 100000 in
set_option maxHeartbeats 4000000 in
theorem wbX10_image_15 {M : gM} {G : gG} {out : Int32 × gS} (X : gX M G zM cX10_image RX10 2 wsX10_image rmX10_image (some .int)) (σ : gS) (rec15 : Int32 → gS → Option (Int32 × gS)) (ih15 : ∀ (a1 : Int32) (σ1 : gS), rec15 a1 σ1 = some out → WW M (gQi M G zM out.1 out.2) G zM 2 σ1 15 [(0, .ref (G.2.1 0)), (1, .int a1)] []) (a1 : Int32) (σ1 : gS) (hF : bX10_image_15 σ rec15 a1 σ1 = some out) : WW M (gQi M G zM out.1 out.2) G zM 2 σ1 15 [(0, .ref (G.2.1 0)), (1, .int a1)] [] := by
  unfold bX10_image_15 at hF
  refine ww_iload_n (pc := 15) X (j := 1) dX10_image_15 rfl rfl ?_
  refine ww_aload_n (pc := 16) X (j := 0) dX10_image_16 rfl rfl ?_
  obtain ⟨r6, h5, hF⟩ := bd_some hF
  refine ww_callVi (pc := 17) X (As := []) (rest := [.int a1]) dX10_image_17 (kX10_pictures (mL M) G X.2.2.2.2.2.2.1 X.2.2.2.2.2.2.2.1 σ1 r6 h5) rfl shzM_0 clzM_10 gX10_image_X10_pictures hyX10_pictures ⟨rfl, rfl⟩ ⟨Nat.le_of_ble_eq_true rfl, Nat.le_of_ble_eq_true rfl⟩ rfl rfl (Nat.le_of_ble_eq_true rfl) ?_
  refine ww_icmp_ge (pc := 20) (tgt := 44) X dX10_image_20 (by decide) hF (fun h7 hF => ?_) (fun h7 hF => ?_)
  · refine ww_iconst (pc := 44) X (v := 0) dX10_image_44 (by decide) ?_
    refine ww_istore_n (pc := 45) X (lv' := [(0, .ref (G.2.1 0))]) dX10_image_45 rfl (by decide) rfl hF (fun x8 ex8 hF => ?_)
    exact ww_sub [1, 0] rfl (lpc_ind (P := (fun (s : Int32 × gS) => WW M (gQi M G zM out.1 out.2) G zM 2 s.2 46 [(0, .ref (G.2.1 0)), (1, .int s.1)] [])) (fun rec s ih hF => wbX10_image_46 X σ1 (fun a1 σ1 => rec (a1, σ1)) (fun a1 σ1 h => ih (a1, σ1) h) s.1 s.2 hF) K9 (x8, σ1) hF)
  · refine ww_aload_n (pc := 23) X (j := 0) dX10_image_23 rfl rfl ?_
    refine ww_aload_n (pc := 24) X (j := 0) dX10_image_24 rfl rfl ?_
    refine ww_get (pc := 25) X (ref := "PictureBlockModel") (T := TX10) (j := 37) dX10_image_25 inX10_image_RX10 shzM_0 clzM_10 (by decide) rfl (List.mem_of_getElem? (i := 3) rfl) rfl ?_
    refine ww_iload_n (pc := 28) X (j := 1) dX10_image_28 rfl rfl ?_
    refine ww_iald (pc := 29) X dX10_image_29 shzM_27 rfl hF (fun v37 ev37 bv37 hF => ?_)
    obtain ⟨σ39, h38, hF⟩ := bd_some hF
    refine ww_callVv (pc := 30) X (As := [.int v37]) (rest := []) dX10_image_30 (kX10_writes (mL M) G X.2.2.2.2.2.2.1 X.2.2.2.2.2.2.2.1 σ1 v37 σ39 h38) rfl shzM_0 clzM_10 gX10_image_X10_writes hyX10_writes ⟨rfl, rfl⟩ ⟨Nat.le_of_ble_eq_true rfl, Nat.le_of_ble_eq_true rfl⟩ rfl rfl (Nat.le_of_ble_eq_true rfl) ?_
    refine ww_aload_n (pc := 33) X (j := 0) dX10_image_33 rfl rfl ?_
    refine ww_iload_n (pc := 34) X (j := 1) dX10_image_34 rfl rfl ?_
    obtain ⟨σ41, h40, hF⟩ := bd_some hF
    refine ww_callVv (pc := 35) X (As := [.int a1]) (rest := []) dX10_image_35 (kX10_writesPlace (mL M) G X.2.2.2.2.2.2.1 X.2.2.2.2.2.2.2.1 σ39 a1 σ41 h40) rfl shzM_0 clzM_10 gX10_image_X10_writesPlace hyX10_writesPlace ⟨rfl, rfl⟩ ⟨Nat.le_of_ble_eq_true rfl, Nat.le_of_ble_eq_true rfl⟩ rfl rfl (Nat.le_of_ble_eq_true rfl) ?_
    refine ww_iinc (pc := 38) X (j := 1) (v := 1) (lv' := [(0, .ref (G.2.1 0))]) dX10_image_38 rfl rfl (by decide) rfl hF (fun x42 ex42 hF => ?_)
    refine ww_goto (pc := 41) X (tgt := 15) dX10_image_41 (by decide) ?_
    exact ww_sub [1, 0] rfl (ih15 x42 σ41 hF)
set_option maxRecDepth 100000 in
set_option maxHeartbeats 4000000 in
theorem wX10_image {M : gM} {G : gG} {out : Int32 × gS} (X : gX M G zM cX10_image RX10 2 wsX10_image rmX10_image (some .int)) (σ : gS) (hF : fX10_image σ = some out) : WW M (gQi M G zM out.1 out.2) G zM 2 σ 0 [(0, .ref (G.2.1 0))] [] := by
  unfold fX10_image at hF
  refine ww_aload_n (pc := 0) X (j := 0) dX10_image_0 rfl rfl ?_
  refine ww_iconst (pc := 1) X (v := 0) dX10_image_1 (by decide) ?_
  refine ww_putI (pc := 2) X (ref := "PictureBlockModel") (T := TX10) (j := 56) dX10_image_2 inX10_image_RX10 tyX10 tyX10_ok nmX10 shzM_0 clzM_10 (by decide) rfl (List.mem_of_getElem? (i := 1) rfl) rfl rfl (by decide +kernel) hF (fun σ1 eσ1 hF => ?_)
  refine ww_aload_n (pc := 5) X (j := 0) dX10_image_5 rfl rfl ?_
  refine ww_aload_n (pc := 6) X (j := 0) dX10_image_6 rfl rfl ?_
  refine ww_get (pc := 7) X (ref := "PictureBlockModel") (T := TX10) (j := 36) dX10_image_7 inX10_image_RX10 shzM_0 clzM_10 (by decide) rfl (List.mem_of_getElem? (i := 2) rfl) rfl ?_
  obtain ⟨σ3, h2, hF⟩ := bd_some hF
  refine ww_callVv (pc := 10) X (As := [.int (σ1.1 0 36)]) (rest := []) dX10_image_10 (kX10_writes (mL M) G X.2.2.2.2.2.2.1 X.2.2.2.2.2.2.2.1 σ1 (σ1.1 0 36) σ3 h2) rfl shzM_0 clzM_10 gX10_image_X10_writes hyX10_writes ⟨rfl, rfl⟩ ⟨Nat.le_of_ble_eq_true rfl, Nat.le_of_ble_eq_true rfl⟩ rfl rfl (Nat.le_of_ble_eq_true rfl) ?_
  refine ww_iconst (pc := 13) X (v := 0) dX10_image_13 (by decide) ?_
  refine ww_istore_n (pc := 14) X (lv' := [(0, .ref (G.2.1 0))]) dX10_image_14 rfl (by decide) rfl hF (fun x4 ex4 hF => ?_)
  exact ww_sub [1, 0] rfl (lpc_ind (P := (fun (s : Int32 × gS) => WW M (gQi M G zM out.1 out.2) G zM 2 s.2 15 [(0, .ref (G.2.1 0)), (1, .int s.1)] [])) (fun rec s ih hF => wbX10_image_15 X σ3 (fun a1 σ1 => rec (a1, σ1)) (fun a1 σ1 h => ih (a1, σ1) h) s.1 s.2 hF) K9 (x4, σ3) hF)
set_option maxRecDepth 100000 in
set_option maxHeartbeats 4000000 in
theorem kX10_image (l : Launch) (G : gG) (hG : gOK G zM.1) (hT : G.2.2.1.map (fun q => q.2) = zM.2.1) (σ : gS) (out : Int32 × gS) (hF : fX10_image σ = some out) : gCi l yX10_image wsX10_image rmX10_image G zM [.ref (G.2.1 0)] σ out.1 out.2 :=
  gEnter (by decide) rfl ⟨rfl, rfl⟩ hG hT (Nat.le_of_ble_eq_true rfl) rfl (fun M X hl => wX10_image X σ hF)
noncomputable def fX10_octet (σ : gS) (p1 : Int32) : Option (Int32) :=
  if p1 < 0 then some ((-1)) else if (σ.1 0 56) ≤ p1 then some ((-1)) else gd (gb p1 400) <| nm (σ.1 40 p1.toNatClampNeg) fun v3 => some v3
noncomputable abbrev rmX10_octet : Room := { frames := 0, cells := 0, slots := 0, locals := 0 }
set_option maxRecDepth 100000 in
set_option maxHeartbeats 4000000 in
theorem wX10_octet {M : gM} {G : gG} {out : Int32} (X : gX M G zM cX10_octet RX10 2 wsX10_octet rmX10_octet (some .int)) (σ : gS) (p1 : Int32) (hF : fX10_octet σ p1 = some out) : WW M (gQi M G zM out σ) G zM 2 σ 0 [(0, .ref (G.2.1 0)), (1, .int p1)] [] := by
  unfold fX10_octet at hF
  refine ww_iload_n (pc := 0) X (j := 1) dX10_octet_0 rfl rfl ?_
  refine ww_if_lt (pc := 1) (tgt := 21) X dX10_octet_1 (by decide) hF (fun h1 hF => ?_) (fun h1 hF => ?_)
  · refine ww_iconst (pc := 21) X (v := (-1)) dX10_octet_21 (by decide) ?_
    exact ww_iret (pc := 22) X dX10_octet_22 (Option.some.inj hF) rfl
  · refine ww_iload_n (pc := 4) X (j := 1) dX10_octet_4 rfl rfl ?_
    refine ww_aload_n (pc := 5) X (j := 0) dX10_octet_5 rfl rfl ?_
    refine ww_get (pc := 6) X (ref := "PictureBlockModel") (T := TX10) (j := 56) dX10_octet_6 inX10_octet_RX10 shzM_0 clzM_10 (by decide) rfl (List.mem_of_getElem? (i := 1) rfl) rfl ?_
    refine ww_icmp_ge (pc := 9) (tgt := 21) X dX10_octet_9 (by decide) hF (fun h2 hF => ?_) (fun h2 hF => ?_)
    · refine ww_iconst (pc := 21) X (v := (-1)) dX10_octet_21 (by decide) ?_
      exact ww_iret (pc := 22) X dX10_octet_22 (Option.some.inj hF) rfl
    · refine ww_aload_n (pc := 12) X (j := 0) dX10_octet_12 rfl rfl ?_
      refine ww_get (pc := 13) X (ref := "PictureBlockModel") (T := TX10) (j := 55) dX10_octet_13 inX10_octet_RX10 shzM_0 clzM_10 (by decide) rfl (List.mem_of_getElem? (i := 2) rfl) rfl ?_
      refine ww_iload_n (pc := 16) X (j := 1) dX10_octet_16 rfl rfl ?_
      refine ww_iald (pc := 17) X dX10_octet_17 shzM_40 rfl hF (fun v3 ev3 bv3 hF => ?_)
      refine ww_goto (pc := 18) X (tgt := 22) dX10_octet_18 (by decide) ?_
      exact ww_iret (pc := 22) X dX10_octet_22 (Option.some.inj hF) rfl
set_option maxRecDepth 100000 in
set_option maxHeartbeats 4000000 in
theorem kX10_octet (l : Launch) (G : gG) (hG : gOK G zM.1) (hT : G.2.2.1.map (fun q => q.2) = zM.2.1) (σ : gS) (p1 : Int32) (out : Int32) (hF : fX10_octet σ p1 = some out) : gCi l yX10_octet wsX10_octet rmX10_octet G zM [.ref (G.2.1 0), .int p1] σ out σ :=
  gEnter (by decide) rfl ⟨rfl, rfl⟩ hG hT (Nat.le_of_ble_eq_true rfl) rfl (fun M X hl => wX10_octet X σ p1 hF)
noncomputable def fX10_fourAt (σ : gS) (p1 : Int32) : Option (Int32) :=
  gd (gb p1 1600) <| nm (σ.1 1 p1.toNatClampNeg) fun v1 => gd (gb (p1 + 1) 1600) <| nm (σ.1 1 (p1 + 1).toNatClampNeg) fun v2 => gd (gb (p1 + 2) 1600) <| nm (σ.1 1 (p1 + 2).toNatClampNeg) fun v3 => gd (gb (p1 + 3) 1600) <| nm (σ.1 1 (p1 + 3).toNatClampNeg) fun v4 => some ((((v1 <<< (24 &&& 31)) + (v2 <<< (16 &&& 31))) + (v3 <<< (8 &&& 31))) + v4)
noncomputable abbrev rmX10_fourAt : Room := { frames := 0, cells := 0, slots := 0, locals := 0 }
set_option maxRecDepth 100000 in
set_option maxHeartbeats 4000000 in
theorem wX10_fourAt {M : gM} {G : gG} {out : Int32} (X : gX M G zM cX10_fourAt RX10 2 wsX10_fourAt rmX10_fourAt (some .int)) (σ : gS) (p1 : Int32) (hF : fX10_fourAt σ p1 = some out) : WW M (gQi M G zM out σ) G zM 2 σ 0 [(0, .ref (G.2.1 0)), (1, .int p1)] [] := by
  unfold fX10_fourAt at hF
  refine ww_aload_n (pc := 0) X (j := 0) dX10_fourAt_0 rfl rfl ?_
  refine ww_get (pc := 1) X (ref := "PictureBlockModel") (T := TX10) (j := 0) dX10_fourAt_1 inX10_fourAt_RX10 shzM_0 clzM_10 (by decide) rfl (List.mem_of_getElem? (i := 1) rfl) rfl ?_
  refine ww_iload_n (pc := 4) X (j := 1) dX10_fourAt_4 rfl rfl ?_
  refine ww_iald (pc := 5) X dX10_fourAt_5 shzM_1 rfl hF (fun v1 ev1 bv1 hF => ?_)
  refine ww_bipush (pc := 6) X (v := 24) dX10_fourAt_6 (by decide) ?_
  refine ww_ishl (pc := 8) X dX10_fourAt_8 ?_
  refine ww_aload_n (pc := 9) X (j := 0) dX10_fourAt_9 rfl rfl ?_
  refine ww_get (pc := 10) X (ref := "PictureBlockModel") (T := TX10) (j := 0) dX10_fourAt_10 inX10_fourAt_RX10 shzM_0 clzM_10 (by decide) rfl (List.mem_of_getElem? (i := 1) rfl) rfl ?_
  refine ww_iload_n (pc := 13) X (j := 1) dX10_fourAt_13 rfl rfl ?_
  refine ww_iconst (pc := 14) X (v := 1) dX10_fourAt_14 (by decide) ?_
  refine ww_iadd (pc := 15) X dX10_fourAt_15 ?_
  refine ww_iald (pc := 16) X dX10_fourAt_16 shzM_1 rfl hF (fun v2 ev2 bv2 hF => ?_)
  refine ww_bipush (pc := 17) X (v := 16) dX10_fourAt_17 (by decide) ?_
  refine ww_ishl (pc := 19) X dX10_fourAt_19 ?_
  refine ww_iadd (pc := 20) X dX10_fourAt_20 ?_
  refine ww_aload_n (pc := 21) X (j := 0) dX10_fourAt_21 rfl rfl ?_
  refine ww_get (pc := 22) X (ref := "PictureBlockModel") (T := TX10) (j := 0) dX10_fourAt_22 inX10_fourAt_RX10 shzM_0 clzM_10 (by decide) rfl (List.mem_of_getElem? (i := 1) rfl) rfl ?_
  refine ww_iload_n (pc := 25) X (j := 1) dX10_fourAt_25 rfl rfl ?_
  refine ww_iconst (pc := 26) X (v := 2) dX10_fourAt_26 (by decide) ?_
  refine ww_iadd (pc := 27) X dX10_fourAt_27 ?_
  refine ww_iald (pc := 28) X dX10_fourAt_28 shzM_1 rfl hF (fun v3 ev3 bv3 hF => ?_)
  refine ww_bipush (pc := 29) X (v := 8) dX10_fourAt_29 (by decide) ?_
  refine ww_ishl (pc := 31) X dX10_fourAt_31 ?_
  refine ww_iadd (pc := 32) X dX10_fourAt_32 ?_
  refine ww_aload_n (pc := 33) X (j := 0) dX10_fourAt_33 rfl rfl ?_
  refine ww_get (pc := 34) X (ref := "PictureBlockModel") (T := TX10) (j := 0) dX10_fourAt_34 inX10_fourAt_RX10 shzM_0 clzM_10 (by decide) rfl (List.mem_of_getElem? (i := 1) rfl) rfl ?_
  refine ww_iload_n (pc := 37) X (j := 1) dX10_fourAt_37 rfl rfl ?_
  refine ww_iconst (pc := 38) X (v := 3) dX10_fourAt_38 (by decide) ?_
  refine ww_iadd (pc := 39) X dX10_fourAt_39 ?_
  refine ww_iald (pc := 40) X dX10_fourAt_40 shzM_1 rfl hF (fun v4 ev4 bv4 hF => ?_)
  refine ww_iadd (pc := 41) X dX10_fourAt_41 ?_
  exact ww_iret (pc := 42) X dX10_fourAt_42 (Option.some.inj hF) rfl
set_option maxRecDepth 100000 in
set_option maxHeartbeats 4000000 in
theorem kX10_fourAt (l : Launch) (G : gG) (hG : gOK G zM.1) (hT : G.2.2.1.map (fun q => q.2) = zM.2.1) (σ : gS) (p1 : Int32) (out : Int32) (hF : fX10_fourAt σ p1 = some out) : gCi l yX10_fourAt wsX10_fourAt rmX10_fourAt G zM [.ref (G.2.1 0), .int p1] σ out σ :=
  gEnter (by decide) rfl ⟨rfl, rfl⟩ hG hT (Nat.le_of_ble_eq_true rfl) rfl (fun M X hl => wX10_fourAt X σ p1 hF)
noncomputable def fX10_canBe (σ : gS) (p1 : Int32) (p2 : Int32) (p3 : Int32) (p4 : Int32) : Option (Int32) :=
  bd (fX10_fourAt σ p1) fun r2 => nm (r2 : Int32) fun x3 => bd (fX10_fourAt σ (p1 + 4)) fun r5 => nm (r5 : Int32) fun x6 => (if p2 = 0 then bd (fX10_isIn σ x3.toInt64 ((-100000000)) 100000000) fun r9 => (if r9 = 0 then some 0 else bd (fX10_isIn σ x6.toInt64 ((-100000000)) 100000000) fun r12 => (if r12 = 0 then some 0 else some 1)) else if x3 = p3 then if x6 = p4 then some 1 else some 0 else some 0)
noncomputable abbrev rmX10_canBe : Room := { frames := 1, cells := 0, slots := 0, locals := 25 }
set_option maxRecDepth 100000 in
set_option maxHeartbeats 4000000 in
theorem wX10_canBe {M : gM} {G : gG} {out : Int32} (X : gX M G zM cX10_canBe RX10 7 wsX10_canBe rmX10_canBe (some .boolean)) (σ : gS) (p1 : Int32) (p2 : Int32) (p3 : Int32) (p4 : Int32) (hF : fX10_canBe σ p1 p2 p3 p4 = some out) : WW M (gQi M G zM out σ) G zM 7 σ 0 [(0, .ref (G.2.1 0)), (1, .int p1), (2, .int p2), (3, .int p3), (4, .int p4)] [] := by
  unfold fX10_canBe at hF
  refine ww_aload_n (pc := 0) X (j := 0) dX10_canBe_0 rfl rfl ?_
  refine ww_iload_n (pc := 1) X (j := 1) dX10_canBe_1 rfl rfl ?_
  obtain ⟨r2, h1, hF⟩ := bd_some hF
  refine ww_callVi (pc := 2) X (As := [.int p1]) (rest := []) dX10_canBe_2 (kX10_fourAt (mL M) G X.2.2.2.2.2.2.1 X.2.2.2.2.2.2.2.1 σ p1 r2 h1) rfl shzM_0 clzM_10 gX10_canBe_X10_fourAt hyX10_fourAt ⟨rfl, rfl⟩ ⟨Nat.le_of_ble_eq_true rfl, Nat.le_of_ble_eq_true rfl⟩ rfl rfl (Nat.le_of_ble_eq_true rfl) ?_
  refine ww_istore (pc := 5) X (lv' := [(0, .ref (G.2.1 0)), (1, .int p1), (2, .int p2), (3, .int p3), (4, .int p4)]) dX10_canBe_5 (by decide) rfl hF (fun x3 ex3 hF => ?_)
  refine ww_aload_n (pc := 7) X (j := 1) dX10_canBe_7 rfl rfl ?_
  refine ww_iload_n (pc := 8) X (j := 2) dX10_canBe_8 rfl rfl ?_
  refine ww_iconst (pc := 9) X (v := 4) dX10_canBe_9 (by decide) ?_
  refine ww_iadd (pc := 10) X dX10_canBe_10 ?_
  obtain ⟨r5, h4, hF⟩ := bd_some hF
  refine ww_callVi (pc := 11) X (As := [.int (p1 + 4)]) (rest := []) dX10_canBe_11 (kX10_fourAt (mL M) G X.2.2.2.2.2.2.1 X.2.2.2.2.2.2.2.1 σ (p1 + 4) r5 h4) rfl shzM_0 clzM_10 gX10_canBe_X10_fourAt hyX10_fourAt ⟨rfl, rfl⟩ ⟨Nat.le_of_ble_eq_true rfl, Nat.le_of_ble_eq_true rfl⟩ rfl rfl (Nat.le_of_ble_eq_true rfl) ?_
  refine ww_istore (pc := 14) X (lv' := [(5, .int x3), (0, .ref (G.2.1 0)), (1, .int p1), (2, .int p2), (3, .int p3), (4, .int p4)]) dX10_canBe_14 (by decide) rfl hF (fun x6 ex6 hF => ?_)
  refine ww_iload_n (pc := 16) X (j := 4) dX10_canBe_16 rfl rfl ?_
  refine ww_if_eq (pc := 17) (tgt := 39) X dX10_canBe_17 (by decide) hF (fun h7 hF => ?_) (fun h7 hF => ?_)
  · refine ww_iload (pc := 39) X (j := 1) dX10_canBe_39 rfl ?_
    refine ww_i2l (pc := 41) X dX10_canBe_41 ?_
    refine ww_ldc2 (pc := 42) X (v := (-100000000)) (List.mem_of_getElem? (i := 1) rfl) dX10_canBe_42 ?_
    refine ww_ldc2 (pc := 45) X (v := 100000000) (List.mem_of_getElem? (i := 2) rfl) dX10_canBe_45 ?_
    obtain ⟨r9, h8, hF⟩ := bd_some hF
    refine ww_callSi (pc := 48) X (As := [.long x3.toInt64, .long ((-100000000)), .long 100000000]) (rest := []) dX10_canBe_48 (kX10_isIn (mL M) G X.2.2.2.2.2.2.1 X.2.2.2.2.2.2.2.1 σ x3.toInt64 ((-100000000)) 100000000 r9 h8) rfl gX10_canBe_X10_isIn hyX10_isIn ⟨rfl, rfl⟩ ⟨Nat.le_of_ble_eq_true rfl, Nat.le_of_ble_eq_true rfl⟩ rfl rfl (Nat.le_of_ble_eq_true rfl) ?_
    refine ww_if_eq (pc := 51) (tgt := 73) X dX10_canBe_51 (by decide) hF (fun h10 hF => ?_) (fun h10 hF => ?_)
    · refine ww_iconst (pc := 73) X (v := 0) dX10_canBe_73 (by decide) ?_
      exact ww_zret (pc := 74) X dX10_canBe_74 (by cases hF; rfl) rfl
    · refine ww_iload (pc := 54) X (j := 0) dX10_canBe_54 rfl ?_
      refine ww_i2l (pc := 56) X dX10_canBe_56 ?_
      refine ww_ldc2 (pc := 57) X (v := (-100000000)) (List.mem_of_getElem? (i := 1) rfl) dX10_canBe_57 ?_
      refine ww_ldc2 (pc := 60) X (v := 100000000) (List.mem_of_getElem? (i := 2) rfl) dX10_canBe_60 ?_
      obtain ⟨r12, h11, hF⟩ := bd_some hF
      refine ww_callSi (pc := 63) X (As := [.long x6.toInt64, .long ((-100000000)), .long 100000000]) (rest := []) dX10_canBe_63 (kX10_isIn (mL M) G X.2.2.2.2.2.2.1 X.2.2.2.2.2.2.2.1 σ x6.toInt64 ((-100000000)) 100000000 r12 h11) rfl gX10_canBe_X10_isIn hyX10_isIn ⟨rfl, rfl⟩ ⟨Nat.le_of_ble_eq_true rfl, Nat.le_of_ble_eq_true rfl⟩ rfl rfl (Nat.le_of_ble_eq_true rfl) ?_
      refine ww_if_eq (pc := 66) (tgt := 73) X dX10_canBe_66 (by decide) hF (fun h13 hF => ?_) (fun h13 hF => ?_)
      · refine ww_iconst (pc := 73) X (v := 0) dX10_canBe_73 (by decide) ?_
        exact ww_zret (pc := 74) X dX10_canBe_74 (by cases hF; rfl) rfl
      · refine ww_iconst (pc := 69) X (v := 1) dX10_canBe_69 (by decide) ?_
        refine ww_goto (pc := 70) X (tgt := 74) dX10_canBe_70 (by decide) ?_
        exact ww_zret (pc := 74) X dX10_canBe_74 (by cases hF; rfl) rfl
  · refine ww_iload (pc := 20) X (j := 1) dX10_canBe_20 rfl ?_
    refine ww_iload_n (pc := 22) X (j := 5) dX10_canBe_22 rfl rfl ?_
    refine ww_icmp_ne (pc := 23) (tgt := 37) X dX10_canBe_23 (by decide) hF (fun h14 hF => ?_) (fun h14 hF => ?_)
    · refine ww_iconst (pc := 37) X (v := 0) dX10_canBe_37 (by decide) ?_
      exact ww_zret (pc := 38) X dX10_canBe_38 (by cases hF; rfl) rfl
    · refine ww_iload (pc := 26) X (j := 0) dX10_canBe_26 rfl ?_
      refine ww_iload (pc := 28) X (j := 6) dX10_canBe_28 rfl ?_
      refine ww_icmp_ne (pc := 30) (tgt := 37) X dX10_canBe_30 (by decide) hF (fun h15 hF => ?_) (fun h15 hF => ?_)
      · refine ww_iconst (pc := 37) X (v := 0) dX10_canBe_37 (by decide) ?_
        exact ww_zret (pc := 38) X dX10_canBe_38 (by cases hF; rfl) rfl
      · refine ww_iconst (pc := 33) X (v := 1) dX10_canBe_33 (by decide) ?_
        refine ww_goto (pc := 34) X (tgt := 38) dX10_canBe_34 (by decide) ?_
        exact ww_zret (pc := 38) X dX10_canBe_38 (by cases hF; rfl) rfl
set_option maxRecDepth 100000 in
set_option maxHeartbeats 4000000 in
theorem kX10_canBe (l : Launch) (G : gG) (hG : gOK G zM.1) (hT : G.2.2.1.map (fun q => q.2) = zM.2.1) (σ : gS) (p1 : Int32) (p2 : Int32) (p3 : Int32) (p4 : Int32) (out : Int32) (hF : fX10_canBe σ p1 p2 p3 p4 = some out) : gCi l yX10_canBe wsX10_canBe rmX10_canBe G zM [.ref (G.2.1 0), .int p1, .int p2, .int p3, .int p4] σ out σ :=
  gEnter (by decide) rfl ⟨rfl, rfl⟩ hG hT (Nat.le_of_ble_eq_true rfl) rfl (fun M X hl => wX10_canBe X σ p1 p2 p3 p4 hF)
noncomputable def bX10_isTold_300 (σ : gS) (c300_3 : Int32) (rec300 : Int32 → Option (Int32)) (a4 : Int32) : Option (Int32) :=
  bd (fX10_rows σ) fun r29 => (if r29 ≤ a4 then some 1 else gd (gb (c300_3 + a4) 1600) <| nm (σ.1 1 (c300_3 + a4).toNatClampNeg) fun v31 => (if v31 ≤ 1 then nm (a4 + 1 : Int32) fun x33 => rec300 x33 else some 0))
noncomputable def jX10_isTold_278 (σ : gS) (c256_2 : Int32) (rec256 : Int32 → Int32 → Option (Int32)) (a3 : Int32) (a4 : Int32) (z0 : Int32) (z1 : Int32) : Option (Int32) :=
  bd (fX10_canBe σ z1 z0 0 0) fun r38 => (if r38 = 0 then some 0 else nm (a3 + (8) : Int32) fun x40 => nm (a4 + 1 : Int32) fun x41 => rec256 x40 x41)
noncomputable def bX10_isTold_256 (σ : gS) (c256_2 : Int32) (rec256 : Int32 → Int32 → Option (Int32)) (a3 : Int32) (a4 : Int32) : Option (Int32) :=
  if c256_2 ≤ a4 then nm (0 : Int32) fun x27 => lpc (S := Int32) K9 (fun rec s => bX10_isTold_300 σ a3 (fun a4 => rec (a4)) s) (x27) else bd (fX10_hasDrift σ a4) fun r35 => (if r35 = 0 then jX10_isTold_278 σ c256_2 rec256 a3 a4 1 a3 else jX10_isTold_278 σ c256_2 rec256 a3 a4 0 a3)
noncomputable def jX10_isTold_200 (σ : gS) (c152_2 : Int32) (rec152 : Int32 → Int32 → Option (Int32)) (a3 : Int32) (a4 : Int32) (z0 : Int32) : Option (Int32) :=
  nm (z0 : Int32) fun x45 => gd (gb (40 + (2 * a4)) 80) <| nm (σ.1 21 (40 + (2 * a4)).toNatClampNeg) fun v46 => gd (gb (41 + (2 * a4)) 80) <| nm (σ.1 21 (41 + (2 * a4)).toNatClampNeg) fun v47 => bd (fX10_canBe σ a3 x45 (100 * v46) (100 * v47)) fun r49 => (if r49 = 0 then some 0 else nm (a3 + (8) : Int32) fun x51 => nm (a4 + 1 : Int32) fun x52 => rec152 x51 x52)
noncomputable def bX10_isTold_152 (σ : gS) (c152_2 : Int32) (rec152 : Int32 → Int32 → Option (Int32)) (a3 : Int32) (a4 : Int32) : Option (Int32) :=
  bd (fX10_points σ) fun r23 => (if r23 ≤ a4 then nm (0 : Int32) fun x25 => lpc (S := Int32 × Int32) K9 (fun rec s => bX10_isTold_256 σ c152_2 (fun a3 a4 => rec (a3, a4)) s.1 s.2) (a3, x25) else gd (gb (20 + a4) 40) <| nm (σ.1 20 (20 + a4).toNatClampNeg) fun v42 => nm (v42 : Int32) fun x43 => (if x43 = 0 then jX10_isTold_200 σ c152_2 rec152 a3 a4 0 else gd (gb 0 1600) <| nm (σ.1 1 ((0 : Int32).toNatClampNeg)) fun v53 => (if ((v53 >>> ((x43 - 1) &&& 31)) &&& 1) = 1 then jX10_isTold_200 σ c152_2 rec152 a3 a4 1 else jX10_isTold_200 σ c152_2 rec152 a3 a4 0)))
noncomputable def jX10_isTold_125 (σ : gS) (c77_2 : Int32) (rec77 : Int32 → Int32 → Option (Int32)) (a3 : Int32) (a4 : Int32) : Option (Int32) :=
  bd (fX10_canBe σ (a3 + 1) 0 0 0) fun r61 => (if r61 = 0 then some 0 else nm (a3 + (9) : Int32) fun x63 => nm (a4 + 1 : Int32) fun x64 => rec77 x63 x64)
noncomputable def bX10_isTold_77 (σ : gS) (c77_2 : Int32) (rec77 : Int32 → Int32 → Option (Int32)) (a3 : Int32) (a4 : Int32) : Option (Int32) :=
  bd (fX10_pictures σ) fun r19 => (if r19 ≤ a4 then nm (0 : Int32) fun x21 => lpc (S := Int32 × Int32) K9 (fun rec s => bX10_isTold_152 σ c77_2 (fun a3 a4 => rec (a3, a4)) s.1 s.2) (a3, x21) else gd (gb (12 + a4) 24) <| nm (σ.1 17 (12 + a4).toNatClampNeg) fun v55 => nm (v55 : Int32) fun x56 => gd (gb a3 1600) <| nm (σ.1 1 a3.toNatClampNeg) fun v57 => (if 3 < v57 then some 0 else if x56 = 4 then jX10_isTold_125 σ c77_2 rec77 a3 a4 else gd (gb a3 1600) <| nm (σ.1 1 a3.toNatClampNeg) fun v65 => (if v65 = x56 then jX10_isTold_125 σ c77_2 rec77 a3 a4 else some 0)))
noncomputable def fX10_isTold (σ : gS) (p1 : Int32) : Option (Int32) :=
  gd (gb 6 12) <| nm (σ.1 15 ((6 : Int32).toNatClampNeg)) fun v1 => nm (v1 : Int32) fun x2 => bd (fX10_pictures σ) fun r4 => bd (fX10_points σ) fun r6 => bd (fX10_rows σ) fun r8 => (if p1 = ((((2 + (9 * r4)) + (8 * r6)) + (8 * x2)) + r8) then gd (gb (p1 - 1) 1600) <| nm (σ.1 1 (p1 - 1).toNatClampNeg) fun v10 => bd (fX10_checked σ 1 (p1 - 1)) fun r12 => (if v10 = r12 then gd (gb 0 1600) <| nm (σ.1 1 ((0 : Int32).toNatClampNeg)) fun v14 => (if v14 ≤ 3 then nm (1 : Int32) fun x16 => nm (0 : Int32) fun x17 => lpc (S := Int32 × Int32) K9 (fun rec s => bX10_isTold_77 σ x2 (fun a3 a4 => rec (a3, a4)) s.1 s.2) (x16, x17) else some 0) else some 0) else some 0)
noncomputable abbrev rmX10_isTold : Room := { frames := 2, cells := 0, slots := 0, locals := 51 }
set_option maxRecDepth 100000 in
set_option maxHeartbeats 4000000 in
theorem wbX10_isTold_300 {M : gM} {G : gG} {out : Int32} (X : gX M G zM cX10_isTold RX10 7 wsX10_isTold rmX10_isTold (some .boolean)) (σ : gS) (c300_3 : Int32) (rec300 : Int32 → Option (Int32)) (ih300 : ∀ (a4 : Int32), rec300 a4 = some out → WW M (gQi M G zM out σ) G zM 7 σ 300 [(0, .ref (G.2.1 0)), (3, .int c300_3), (4, .int a4)] []) (a4 : Int32) (hF : bX10_isTold_300 σ c300_3 rec300 a4 = some out) : WW M (gQi M G zM out σ) G zM 7 σ 300 [(0, .ref (G.2.1 0)), (3, .int c300_3), (4, .int a4)] [] := by
  unfold bX10_isTold_300 at hF
  refine ww_iload (pc := 300) X (j := 2) dX10_isTold_300 rfl ?_
  refine ww_aload_n (pc := 302) X (j := 0) dX10_isTold_302 rfl rfl ?_
  obtain ⟨r29, h28, hF⟩ := bd_some hF
  refine ww_callVi (pc := 303) X (As := []) (rest := [.int a4]) dX10_isTold_303 (kX10_rows (mL M) G X.2.2.2.2.2.2.1 X.2.2.2.2.2.2.2.1 σ r29 h28) rfl shzM_0 clzM_10 gX10_isTold_X10_rows hyX10_rows ⟨rfl, rfl⟩ ⟨Nat.le_of_ble_eq_true rfl, Nat.le_of_ble_eq_true rfl⟩ rfl rfl (Nat.le_of_ble_eq_true rfl) ?_
  refine ww_icmp_ge (pc := 306) (tgt := 330) X dX10_isTold_306 (by decide) hF (fun h30 hF => ?_) (fun h30 hF => ?_)
  · refine ww_iconst (pc := 330) X (v := 1) dX10_isTold_330 (by decide) ?_
    exact ww_zret (pc := 331) X dX10_isTold_331 (by cases hF; rfl) rfl
  · refine ww_aload_n (pc := 309) X (j := 0) dX10_isTold_309 rfl rfl ?_
    refine ww_get (pc := 310) X (ref := "PictureBlockModel") (T := TX10) (j := 0) dX10_isTold_310 inX10_isTold_RX10 shzM_0 clzM_10 (by decide) rfl (List.mem_of_getElem? (i := 2) rfl) rfl ?_
    refine ww_iload_n (pc := 313) X (j := 1) dX10_isTold_313 rfl rfl ?_
    refine ww_iload (pc := 314) X (j := 2) dX10_isTold_314 rfl ?_
    refine ww_iadd (pc := 316) X dX10_isTold_316 ?_
    refine ww_iald (pc := 317) X dX10_isTold_317 shzM_1 rfl hF (fun v31 ev31 bv31 hF => ?_)
    refine ww_iconst (pc := 318) X (v := 1) dX10_isTold_318 (by decide) ?_
    refine ww_icmp_le (pc := 319) (tgt := 324) X dX10_isTold_319 (by decide) hF (fun h32 hF => ?_) (fun h32 hF => ?_)
    · refine ww_iinc (pc := 324) X (j := 2) (v := 1) (lv' := [(0, .ref (G.2.1 0)), (3, .int c300_3)]) dX10_isTold_324 rfl rfl (by decide) rfl hF (fun x33 ex33 hF => ?_)
      refine ww_goto (pc := 327) X (tgt := 300) dX10_isTold_327 (by decide) ?_
      exact ww_sub [1, 2, 0] rfl (ih300 x33 hF)
    · refine ww_iconst (pc := 322) X (v := 0) dX10_isTold_322 (by decide) ?_
      exact ww_zret (pc := 323) X dX10_isTold_323 (by cases hF; rfl) rfl
set_option maxRecDepth 100000 in
set_option maxHeartbeats 4000000 in
theorem wjX10_isTold_278 {M : gM} {G : gG} {out : Int32} (X : gX M G zM cX10_isTold RX10 7 wsX10_isTold rmX10_isTold (some .boolean)) (σ : gS) (c256_2 : Int32) (rec256 : Int32 → Int32 → Option (Int32)) (ih256 : ∀ (a3 : Int32) (a4 : Int32), rec256 a3 a4 = some out → WW M (gQi M G zM out σ) G zM 7 σ 256 [(0, .ref (G.2.1 0)), (2, .int c256_2), (3, .int a3), (4, .int a4)] []) (a3 : Int32) (a4 : Int32) (z0 : Int32) (z1 : Int32) (hF : jX10_isTold_278 σ c256_2 rec256 a3 a4 z0 z1 = some out) : WW M (gQi M G zM out σ) G zM 7 σ 278 [(0, .ref (G.2.1 0)), (2, .int c256_2), (3, .int a3), (4, .int a4)] [.int z0, .int z1, .ref (G.2.1 0)] := by
  unfold jX10_isTold_278 at hF
  refine ww_iconst (pc := 278) X (v := 0) dX10_isTold_278 (by decide) ?_
  refine ww_iconst (pc := 279) X (v := 0) dX10_isTold_279 (by decide) ?_
  obtain ⟨r38, h37, hF⟩ := bd_some hF
  refine ww_callVi (pc := 280) X (As := [.int z1, .int z0, .int 0, .int 0]) (rest := []) dX10_isTold_280 (kX10_canBe (mL M) G X.2.2.2.2.2.2.1 X.2.2.2.2.2.2.2.1 σ z1 z0 0 0 r38 h37) rfl shzM_0 clzM_10 gX10_isTold_X10_canBe hyX10_canBe ⟨rfl, rfl⟩ ⟨Nat.le_of_ble_eq_true rfl, Nat.le_of_ble_eq_true rfl⟩ rfl rfl (Nat.le_of_ble_eq_true rfl) ?_
  refine ww_if_ne (pc := 283) (tgt := 288) X dX10_isTold_283 (by decide) hF (fun h39 hF => ?_) (fun h39 hF => ?_)
  · refine ww_iinc (pc := 288) X (j := 2) (v := (8)) (lv' := [(0, .ref (G.2.1 0)), (2, .int c256_2), (4, .int a4)]) dX10_isTold_288 rfl rfl (by decide) rfl hF (fun x40 ex40 hF => ?_)
    refine ww_iinc (pc := 291) X (j := 3) (v := 1) (lv' := [(3, .int x40), (0, .ref (G.2.1 0)), (2, .int c256_2)]) dX10_isTold_291 rfl rfl (by decide) rfl hF (fun x41 ex41 hF => ?_)
    refine ww_goto (pc := 294) X (tgt := 256) dX10_isTold_294 (by decide) ?_
    exact ww_sub [2, 3, 1, 0] rfl (ih256 x40 x41 hF)
  · refine ww_iconst (pc := 286) X (v := 0) dX10_isTold_286 (by decide) ?_
    exact ww_zret (pc := 287) X dX10_isTold_287 (by cases hF; rfl) rfl
set_option maxRecDepth 100000 in
set_option maxHeartbeats 4000000 in
theorem wbX10_isTold_256 {M : gM} {G : gG} {out : Int32} (X : gX M G zM cX10_isTold RX10 7 wsX10_isTold rmX10_isTold (some .boolean)) (σ : gS) (c256_2 : Int32) (rec256 : Int32 → Int32 → Option (Int32)) (ih256 : ∀ (a3 : Int32) (a4 : Int32), rec256 a3 a4 = some out → WW M (gQi M G zM out σ) G zM 7 σ 256 [(0, .ref (G.2.1 0)), (2, .int c256_2), (3, .int a3), (4, .int a4)] []) (a3 : Int32) (a4 : Int32) (hF : bX10_isTold_256 σ c256_2 rec256 a3 a4 = some out) : WW M (gQi M G zM out σ) G zM 7 σ 256 [(0, .ref (G.2.1 0)), (2, .int c256_2), (3, .int a3), (4, .int a4)] [] := by
  unfold bX10_isTold_256 at hF
  refine ww_iload (pc := 256) X (j := 3) dX10_isTold_256 rfl ?_
  refine ww_iload_n (pc := 258) X (j := 1) dX10_isTold_258 rfl rfl ?_
  refine ww_icmp_ge (pc := 259) (tgt := 297) X dX10_isTold_259 (by decide) hF (fun h26 hF => ?_) (fun h26 hF => ?_)
  · refine ww_iconst (pc := 297) X (v := 0) dX10_isTold_297 (by decide) ?_
    refine ww_istore (pc := 298) X (lv' := [(0, .ref (G.2.1 0)), (2, .int c256_2), (3, .int a3)]) dX10_isTold_298 (by decide) rfl hF (fun x27 ex27 hF => ?_)
    exact ww_sub [1, 3, 0] rfl (lpc_ind (P := (fun (s : Int32) => WW M (gQi M G zM out σ) G zM 7 σ 300 [(0, .ref (G.2.1 0)), (3, .int a3), (4, .int s)] [])) (fun rec s ih hF => wbX10_isTold_300 X σ a3 (fun a4 => rec (a4)) (fun a4 h => ih (a4) h) s hF) K9 (x27) hF)
  · refine ww_aload_n (pc := 262) X (j := 0) dX10_isTold_262 rfl rfl ?_
    refine ww_iload_n (pc := 263) X (j := 2) dX10_isTold_263 rfl rfl ?_
    refine ww_aload_n (pc := 264) X (j := 0) dX10_isTold_264 rfl rfl ?_
    refine ww_iload (pc := 265) X (j := 3) dX10_isTold_265 rfl ?_
    obtain ⟨r35, h34, hF⟩ := bd_some hF
    refine ww_callVi (pc := 267) X (As := [.int a4]) (rest := [.int a3, .ref (G.2.1 0)]) dX10_isTold_267 (kX10_hasDrift (mL M) G X.2.2.2.2.2.2.1 X.2.2.2.2.2.2.2.1 σ a4 r35 h34) rfl shzM_0 clzM_10 gX10_isTold_X10_hasDrift hyX10_hasDrift ⟨rfl, rfl⟩ ⟨Nat.le_of_ble_eq_true rfl, Nat.le_of_ble_eq_true rfl⟩ rfl rfl (Nat.le_of_ble_eq_true rfl) ?_
    refine ww_if_ne (pc := 270) (tgt := 277) X dX10_isTold_270 (by decide) hF (fun h36 hF => ?_) (fun h36 hF => ?_)
    · refine ww_iconst (pc := 277) X (v := 0) dX10_isTold_277 (by decide) ?_
      exact ww_sub [0, 1, 2, 3] rfl (wjX10_isTold_278 X σ c256_2 rec256 ih256 a3 a4 0 a3 hF)
    · refine ww_iconst (pc := 273) X (v := 1) dX10_isTold_273 (by decide) ?_
      refine ww_goto (pc := 274) X (tgt := 278) dX10_isTold_274 (by decide) ?_
      exact ww_sub [0, 1, 2, 3] rfl (wjX10_isTold_278 X σ c256_2 rec256 ih256 a3 a4 1 a3 hF)
set_option maxRecDepth 100000 in
set_option maxHeartbeats 4000000 in
theorem wjX10_isTold_200 {M : gM} {G : gG} {out : Int32} (X : gX M G zM cX10_isTold RX10 7 wsX10_isTold rmX10_isTold (some .boolean)) (σ : gS) (c152_2 : Int32) (rec152 : Int32 → Int32 → Option (Int32)) (ih152 : ∀ (a3 : Int32) (a4 : Int32), rec152 a3 a4 = some out → WW M (gQi M G zM out σ) G zM 7 σ 152 [(0, .ref (G.2.1 0)), (2, .int c152_2), (3, .int a3), (4, .int a4)] []) (a3 : Int32) (a4 : Int32) (z0 : Int32) (hF : jX10_isTold_200 σ c152_2 rec152 a3 a4 z0 = some out) : WW M (gQi M G zM out σ) G zM 7 σ 200 [(0, .ref (G.2.1 0)), (2, .int c152_2), (3, .int a3), (4, .int a4)] [.int z0] := by
  unfold jX10_isTold_200 at hF
  refine ww_istore (pc := 200) X (lv' := [(0, .ref (G.2.1 0)), (2, .int c152_2), (3, .int a3), (4, .int a4)]) dX10_isTold_200 (by decide) rfl hF (fun x45 ex45 hF => ?_)
  refine ww_aload_n (pc := 202) X (j := 1) dX10_isTold_202 rfl rfl ?_
  refine ww_iload_n (pc := 203) X (j := 3) dX10_isTold_203 rfl rfl ?_
  refine ww_iload (pc := 204) X (j := 0) dX10_isTold_204 rfl ?_
  refine ww_bipush (pc := 206) X (v := 100) dX10_isTold_206 (by decide) ?_
  refine ww_aload_n (pc := 208) X (j := 1) dX10_isTold_208 rfl rfl ?_
  refine ww_get (pc := 209) X (ref := "PictureBlockModel") (T := TX10) (j := 29) dX10_isTold_209 inX10_isTold_RX10 shzM_0 clzM_10 (by decide) rfl (List.mem_of_getElem? (i := 5) rfl) rfl ?_
  refine ww_bipush (pc := 212) X (v := 40) dX10_isTold_212 (by decide) ?_
  refine ww_iconst (pc := 214) X (v := 2) dX10_isTold_214 (by decide) ?_
  refine ww_iload (pc := 215) X (j := 4) dX10_isTold_215 rfl ?_
  refine ww_imul (pc := 217) X dX10_isTold_217 ?_
  refine ww_iadd (pc := 218) X dX10_isTold_218 ?_
  refine ww_iald (pc := 219) X dX10_isTold_219 shzM_21 rfl hF (fun v46 ev46 bv46 hF => ?_)
  refine ww_imul (pc := 220) X dX10_isTold_220 ?_
  refine ww_bipush (pc := 221) X (v := 100) dX10_isTold_221 (by decide) ?_
  refine ww_aload_n (pc := 223) X (j := 1) dX10_isTold_223 rfl rfl ?_
  refine ww_get (pc := 224) X (ref := "PictureBlockModel") (T := TX10) (j := 29) dX10_isTold_224 inX10_isTold_RX10 shzM_0 clzM_10 (by decide) rfl (List.mem_of_getElem? (i := 5) rfl) rfl ?_
  refine ww_bipush (pc := 227) X (v := 41) dX10_isTold_227 (by decide) ?_
  refine ww_iconst (pc := 229) X (v := 2) dX10_isTold_229 (by decide) ?_
  refine ww_iload (pc := 230) X (j := 4) dX10_isTold_230 rfl ?_
  refine ww_imul (pc := 232) X dX10_isTold_232 ?_
  refine ww_iadd (pc := 233) X dX10_isTold_233 ?_
  refine ww_iald (pc := 234) X dX10_isTold_234 shzM_21 rfl hF (fun v47 ev47 bv47 hF => ?_)
  refine ww_imul (pc := 235) X dX10_isTold_235 ?_
  obtain ⟨r49, h48, hF⟩ := bd_some hF
  refine ww_callVi (pc := 236) X (As := [.int a3, .int x45, .int (100 * v46), .int (100 * v47)]) (rest := []) dX10_isTold_236 (kX10_canBe (mL M) G X.2.2.2.2.2.2.1 X.2.2.2.2.2.2.2.1 σ a3 x45 (100 * v46) (100 * v47) r49 h48) rfl shzM_0 clzM_10 gX10_isTold_X10_canBe hyX10_canBe ⟨rfl, rfl⟩ ⟨Nat.le_of_ble_eq_true rfl, Nat.le_of_ble_eq_true rfl⟩ rfl rfl (Nat.le_of_ble_eq_true rfl) ?_
  refine ww_if_ne (pc := 239) (tgt := 244) X dX10_isTold_239 (by decide) hF (fun h50 hF => ?_) (fun h50 hF => ?_)
  · refine ww_iinc (pc := 244) X (j := 3) (v := (8)) (lv' := [(6, .int x45), (0, .ref (G.2.1 0)), (2, .int c152_2), (4, .int a4)]) dX10_isTold_244 rfl rfl (by decide) rfl hF (fun x51 ex51 hF => ?_)
    refine ww_iinc (pc := 247) X (j := 4) (v := 1) (lv' := [(3, .int x51), (6, .int x45), (0, .ref (G.2.1 0)), (2, .int c152_2)]) dX10_isTold_247 rfl rfl (by decide) rfl hF (fun x52 ex52 hF => ?_)
    refine ww_goto (pc := 250) X (tgt := 152) dX10_isTold_250 (by decide) ?_
    exact ww_sub [3, 4, 1, 0] rfl (ih152 x51 x52 hF)
  · refine ww_iconst (pc := 242) X (v := 0) dX10_isTold_242 (by decide) ?_
    exact ww_zret (pc := 243) X dX10_isTold_243 (by cases hF; rfl) rfl
set_option maxRecDepth 100000 in
set_option maxHeartbeats 4000000 in
theorem wbX10_isTold_152 {M : gM} {G : gG} {out : Int32} (X : gX M G zM cX10_isTold RX10 7 wsX10_isTold rmX10_isTold (some .boolean)) (σ : gS) (c152_2 : Int32) (rec152 : Int32 → Int32 → Option (Int32)) (ih152 : ∀ (a3 : Int32) (a4 : Int32), rec152 a3 a4 = some out → WW M (gQi M G zM out σ) G zM 7 σ 152 [(0, .ref (G.2.1 0)), (2, .int c152_2), (3, .int a3), (4, .int a4)] []) (a3 : Int32) (a4 : Int32) (hF : bX10_isTold_152 σ c152_2 rec152 a3 a4 = some out) : WW M (gQi M G zM out σ) G zM 7 σ 152 [(0, .ref (G.2.1 0)), (2, .int c152_2), (3, .int a3), (4, .int a4)] [] := by
  unfold bX10_isTold_152 at hF
  refine ww_iload (pc := 152) X (j := 3) dX10_isTold_152 rfl ?_
  refine ww_aload_n (pc := 154) X (j := 0) dX10_isTold_154 rfl rfl ?_
  obtain ⟨r23, h22, hF⟩ := bd_some hF
  refine ww_callVi (pc := 155) X (As := []) (rest := [.int a4]) dX10_isTold_155 (kX10_points (mL M) G X.2.2.2.2.2.2.1 X.2.2.2.2.2.2.2.1 σ r23 h22) rfl shzM_0 clzM_10 gX10_isTold_X10_points hyX10_points ⟨rfl, rfl⟩ ⟨Nat.le_of_ble_eq_true rfl, Nat.le_of_ble_eq_true rfl⟩ rfl rfl (Nat.le_of_ble_eq_true rfl) ?_
  refine ww_icmp_ge (pc := 158) (tgt := 253) X dX10_isTold_158 (by decide) hF (fun h24 hF => ?_) (fun h24 hF => ?_)
  · refine ww_iconst (pc := 253) X (v := 0) dX10_isTold_253 (by decide) ?_
    refine ww_istore (pc := 254) X (lv' := [(0, .ref (G.2.1 0)), (2, .int c152_2), (3, .int a3)]) dX10_isTold_254 (by decide) rfl hF (fun x25 ex25 hF => ?_)
    exact ww_sub [1, 2, 3, 0] rfl (lpc_ind (P := (fun (s : Int32 × Int32) => WW M (gQi M G zM out σ) G zM 7 σ 256 [(0, .ref (G.2.1 0)), (2, .int c152_2), (3, .int s.1), (4, .int s.2)] [])) (fun rec s ih hF => wbX10_isTold_256 X σ c152_2 (fun a3 a4 => rec (a3, a4)) (fun a3 a4 h => ih (a3, a4) h) s.1 s.2 hF) K9 (a3, x25) hF)
  · refine ww_aload_n (pc := 161) X (j := 0) dX10_isTold_161 rfl rfl ?_
    refine ww_get (pc := 162) X (ref := "PictureBlockModel") (T := TX10) (j := 28) dX10_isTold_162 inX10_isTold_RX10 shzM_0 clzM_10 (by decide) rfl (List.mem_of_getElem? (i := 4) rfl) rfl ?_
    refine ww_bipush (pc := 165) X (v := 20) dX10_isTold_165 (by decide) ?_
    refine ww_iload (pc := 167) X (j := 3) dX10_isTold_167 rfl ?_
    refine ww_iadd (pc := 169) X dX10_isTold_169 ?_
    refine ww_iald (pc := 170) X dX10_isTold_170 shzM_20 rfl hF (fun v42 ev42 bv42 hF => ?_)
    refine ww_istore (pc := 171) X (lv' := [(0, .ref (G.2.1 0)), (2, .int c152_2), (3, .int a3), (4, .int a4)]) dX10_isTold_171 (by decide) rfl hF (fun x43 ex43 hF => ?_)
    refine ww_iload (pc := 173) X (j := 0) dX10_isTold_173 rfl ?_
    refine ww_if_eq (pc := 175) (tgt := 199) X dX10_isTold_175 (by decide) hF (fun h44 hF => ?_) (fun h44 hF => ?_)
    · refine ww_iconst (pc := 199) X (v := 0) dX10_isTold_199 (by decide) ?_
      exact ww_sub [1, 2, 3, 4] rfl (wjX10_isTold_200 X σ c152_2 rec152 ih152 a3 a4 0 hF)
    · refine ww_aload_n (pc := 178) X (j := 1) dX10_isTold_178 rfl rfl ?_
      refine ww_get (pc := 179) X (ref := "PictureBlockModel") (T := TX10) (j := 0) dX10_isTold_179 inX10_isTold_RX10 shzM_0 clzM_10 (by decide) rfl (List.mem_of_getElem? (i := 2) rfl) rfl ?_
      refine ww_iconst (pc := 182) X (v := 0) dX10_isTold_182 (by decide) ?_
      refine ww_iald (pc := 183) X dX10_isTold_183 shzM_1 rfl hF (fun v53 ev53 bv53 hF => ?_)
      refine ww_iload (pc := 184) X (j := 0) dX10_isTold_184 rfl ?_
      refine ww_iconst (pc := 186) X (v := 1) dX10_isTold_186 (by decide) ?_
      refine ww_isub (pc := 187) X dX10_isTold_187 ?_
      refine ww_ishr (pc := 188) X dX10_isTold_188 ?_
      refine ww_iconst (pc := 189) X (v := 1) dX10_isTold_189 (by decide) ?_
      refine ww_iand (pc := 190) X dX10_isTold_190 ?_
      refine ww_iconst (pc := 191) X (v := 1) dX10_isTold_191 (by decide) ?_
      refine ww_icmp_ne (pc := 192) (tgt := 199) X dX10_isTold_192 (by decide) hF (fun h54 hF => ?_) (fun h54 hF => ?_)
      · refine ww_iconst (pc := 199) X (v := 0) dX10_isTold_199 (by decide) ?_
        exact ww_sub [1, 2, 3, 4] rfl (wjX10_isTold_200 X σ c152_2 rec152 ih152 a3 a4 0 hF)
      · refine ww_iconst (pc := 195) X (v := 1) dX10_isTold_195 (by decide) ?_
        refine ww_goto (pc := 196) X (tgt := 200) dX10_isTold_196 (by decide) ?_
        exact ww_sub [1, 2, 3, 4] rfl (wjX10_isTold_200 X σ c152_2 rec152 ih152 a3 a4 1 hF)
set_option maxRecDepth 100000 in
set_option maxHeartbeats 4000000 in
theorem wjX10_isTold_125 {M : gM} {G : gG} {out : Int32} (X : gX M G zM cX10_isTold RX10 7 wsX10_isTold rmX10_isTold (some .boolean)) (σ : gS) (c77_2 : Int32) (rec77 : Int32 → Int32 → Option (Int32)) (ih77 : ∀ (a3 : Int32) (a4 : Int32), rec77 a3 a4 = some out → WW M (gQi M G zM out σ) G zM 7 σ 77 [(0, .ref (G.2.1 0)), (2, .int c77_2), (3, .int a3), (4, .int a4)] []) (a3 : Int32) (a4 : Int32) (hF : jX10_isTold_125 σ c77_2 rec77 a3 a4 = some out) : WW M (gQi M G zM out σ) G zM 7 σ 125 [(0, .ref (G.2.1 0)), (2, .int c77_2), (3, .int a3), (4, .int a4)] [] := by
  unfold jX10_isTold_125 at hF
  refine ww_aload_n (pc := 125) X (j := 0) dX10_isTold_125 rfl rfl ?_
  refine ww_iload_n (pc := 126) X (j := 2) dX10_isTold_126 rfl rfl ?_
  refine ww_iconst (pc := 127) X (v := 1) dX10_isTold_127 (by decide) ?_
  refine ww_iadd (pc := 128) X dX10_isTold_128 ?_
  refine ww_iconst (pc := 129) X (v := 0) dX10_isTold_129 (by decide) ?_
  refine ww_iconst (pc := 130) X (v := 0) dX10_isTold_130 (by decide) ?_
  refine ww_iconst (pc := 131) X (v := 0) dX10_isTold_131 (by decide) ?_
  obtain ⟨r61, h60, hF⟩ := bd_some hF
  refine ww_callVi (pc := 132) X (As := [.int (a3 + 1), .int 0, .int 0, .int 0]) (rest := []) dX10_isTold_132 (kX10_canBe (mL M) G X.2.2.2.2.2.2.1 X.2.2.2.2.2.2.2.1 σ (a3 + 1) 0 0 0 r61 h60) rfl shzM_0 clzM_10 gX10_isTold_X10_canBe hyX10_canBe ⟨rfl, rfl⟩ ⟨Nat.le_of_ble_eq_true rfl, Nat.le_of_ble_eq_true rfl⟩ rfl rfl (Nat.le_of_ble_eq_true rfl) ?_
  refine ww_if_ne (pc := 135) (tgt := 140) X dX10_isTold_135 (by decide) hF (fun h62 hF => ?_) (fun h62 hF => ?_)
  · refine ww_iinc (pc := 140) X (j := 2) (v := (9)) (lv' := [(0, .ref (G.2.1 0)), (2, .int c77_2), (4, .int a4)]) dX10_isTold_140 rfl rfl (by decide) rfl hF (fun x63 ex63 hF => ?_)
    refine ww_iinc (pc := 143) X (j := 3) (v := 1) (lv' := [(3, .int x63), (0, .ref (G.2.1 0)), (2, .int c77_2)]) dX10_isTold_143 rfl rfl (by decide) rfl hF (fun x64 ex64 hF => ?_)
    refine ww_goto (pc := 146) X (tgt := 77) dX10_isTold_146 (by decide) ?_
    exact ww_sub [2, 3, 1, 0] rfl (ih77 x63 x64 hF)
  · refine ww_iconst (pc := 138) X (v := 0) dX10_isTold_138 (by decide) ?_
    exact ww_zret (pc := 139) X dX10_isTold_139 (by cases hF; rfl) rfl
set_option maxRecDepth 100000 in
set_option maxHeartbeats 4000000 in
theorem wbX10_isTold_77 {M : gM} {G : gG} {out : Int32} (X : gX M G zM cX10_isTold RX10 7 wsX10_isTold rmX10_isTold (some .boolean)) (σ : gS) (c77_2 : Int32) (rec77 : Int32 → Int32 → Option (Int32)) (ih77 : ∀ (a3 : Int32) (a4 : Int32), rec77 a3 a4 = some out → WW M (gQi M G zM out σ) G zM 7 σ 77 [(0, .ref (G.2.1 0)), (2, .int c77_2), (3, .int a3), (4, .int a4)] []) (a3 : Int32) (a4 : Int32) (hF : bX10_isTold_77 σ c77_2 rec77 a3 a4 = some out) : WW M (gQi M G zM out σ) G zM 7 σ 77 [(0, .ref (G.2.1 0)), (2, .int c77_2), (3, .int a3), (4, .int a4)] [] := by
  unfold bX10_isTold_77 at hF
  refine ww_iload (pc := 77) X (j := 3) dX10_isTold_77 rfl ?_
  refine ww_aload_n (pc := 79) X (j := 0) dX10_isTold_79 rfl rfl ?_
  obtain ⟨r19, h18, hF⟩ := bd_some hF
  refine ww_callVi (pc := 80) X (As := []) (rest := [.int a4]) dX10_isTold_80 (kX10_pictures (mL M) G X.2.2.2.2.2.2.1 X.2.2.2.2.2.2.2.1 σ r19 h18) rfl shzM_0 clzM_10 gX10_isTold_X10_pictures hyX10_pictures ⟨rfl, rfl⟩ ⟨Nat.le_of_ble_eq_true rfl, Nat.le_of_ble_eq_true rfl⟩ rfl rfl (Nat.le_of_ble_eq_true rfl) ?_
  refine ww_icmp_ge (pc := 83) (tgt := 149) X dX10_isTold_83 (by decide) hF (fun h20 hF => ?_) (fun h20 hF => ?_)
  · refine ww_iconst (pc := 149) X (v := 0) dX10_isTold_149 (by decide) ?_
    refine ww_istore (pc := 150) X (lv' := [(0, .ref (G.2.1 0)), (2, .int c77_2), (3, .int a3)]) dX10_isTold_150 (by decide) rfl hF (fun x21 ex21 hF => ?_)
    exact ww_sub [1, 2, 3, 0] rfl (lpc_ind (P := (fun (s : Int32 × Int32) => WW M (gQi M G zM out σ) G zM 7 σ 152 [(0, .ref (G.2.1 0)), (2, .int c77_2), (3, .int s.1), (4, .int s.2)] [])) (fun rec s ih hF => wbX10_isTold_152 X σ c77_2 (fun a3 a4 => rec (a3, a4)) (fun a3 a4 h => ih (a3, a4) h) s.1 s.2 hF) K9 (a3, x21) hF)
  · refine ww_aload_n (pc := 86) X (j := 0) dX10_isTold_86 rfl rfl ?_
    refine ww_get (pc := 87) X (ref := "PictureBlockModel") (T := TX10) (j := 25) dX10_isTold_87 inX10_isTold_RX10 shzM_0 clzM_10 (by decide) rfl (List.mem_of_getElem? (i := 3) rfl) rfl ?_
    refine ww_bipush (pc := 90) X (v := 12) dX10_isTold_90 (by decide) ?_
    refine ww_iload (pc := 92) X (j := 3) dX10_isTold_92 rfl ?_
    refine ww_iadd (pc := 94) X dX10_isTold_94 ?_
    refine ww_iald (pc := 95) X dX10_isTold_95 shzM_17 rfl hF (fun v55 ev55 bv55 hF => ?_)
    refine ww_istore (pc := 96) X (lv' := [(0, .ref (G.2.1 0)), (2, .int c77_2), (3, .int a3), (4, .int a4)]) dX10_isTold_96 (by decide) rfl hF (fun x56 ex56 hF => ?_)
    refine ww_aload_n (pc := 98) X (j := 1) dX10_isTold_98 rfl rfl ?_
    refine ww_get (pc := 99) X (ref := "PictureBlockModel") (T := TX10) (j := 0) dX10_isTold_99 inX10_isTold_RX10 shzM_0 clzM_10 (by decide) rfl (List.mem_of_getElem? (i := 2) rfl) rfl ?_
    refine ww_iload_n (pc := 102) X (j := 3) dX10_isTold_102 rfl rfl ?_
    refine ww_iald (pc := 103) X dX10_isTold_103 shzM_1 rfl hF (fun v57 ev57 bv57 hF => ?_)
    refine ww_iconst (pc := 104) X (v := 3) dX10_isTold_104 (by decide) ?_
    refine ww_icmp_gt (pc := 105) (tgt := 138) X dX10_isTold_105 (by decide) hF (fun h58 hF => ?_) (fun h58 hF => ?_)
    · refine ww_iconst (pc := 138) X (v := 0) dX10_isTold_138 (by decide) ?_
      exact ww_zret (pc := 139) X dX10_isTold_139 (by cases hF; rfl) rfl
    · refine ww_iload (pc := 108) X (j := 0) dX10_isTold_108 rfl ?_
      refine ww_iconst (pc := 110) X (v := 4) dX10_isTold_110 (by decide) ?_
      refine ww_icmp_eq (pc := 111) (tgt := 125) X dX10_isTold_111 (by decide) hF (fun h59 hF => ?_) (fun h59 hF => ?_)
      · exact ww_sub [1, 2, 3, 4] rfl (wjX10_isTold_125 X σ c77_2 rec77 ih77 a3 a4 hF)
      · refine ww_aload_n (pc := 114) X (j := 1) dX10_isTold_114 rfl rfl ?_
        refine ww_get (pc := 115) X (ref := "PictureBlockModel") (T := TX10) (j := 0) dX10_isTold_115 inX10_isTold_RX10 shzM_0 clzM_10 (by decide) rfl (List.mem_of_getElem? (i := 2) rfl) rfl ?_
        refine ww_iload_n (pc := 118) X (j := 3) dX10_isTold_118 rfl rfl ?_
        refine ww_iald (pc := 119) X dX10_isTold_119 shzM_1 rfl hF (fun v65 ev65 bv65 hF => ?_)
        refine ww_iload (pc := 120) X (j := 0) dX10_isTold_120 rfl ?_
        refine ww_icmp_ne (pc := 122) (tgt := 138) X dX10_isTold_122 (by decide) hF (fun h66 hF => ?_) (fun h66 hF => ?_)
        · refine ww_iconst (pc := 138) X (v := 0) dX10_isTold_138 (by decide) ?_
          exact ww_zret (pc := 139) X dX10_isTold_139 (by cases hF; rfl) rfl
        · exact ww_sub [1, 2, 3, 4] rfl (wjX10_isTold_125 X σ c77_2 rec77 ih77 a3 a4 hF)
set_option maxRecDepth 100000 in
set_option maxHeartbeats 4000000 in
theorem wX10_isTold {M : gM} {G : gG} {out : Int32} (X : gX M G zM cX10_isTold RX10 7 wsX10_isTold rmX10_isTold (some .boolean)) (σ : gS) (p1 : Int32) (hF : fX10_isTold σ p1 = some out) : WW M (gQi M G zM out σ) G zM 7 σ 0 [(0, .ref (G.2.1 0)), (1, .int p1)] [] := by
  unfold fX10_isTold at hF
  refine ww_aload_n (pc := 0) X (j := 0) dX10_isTold_0 rfl rfl ?_
  refine ww_get (pc := 1) X (ref := "PictureBlockModel") (T := TX10) (j := 23) dX10_isTold_1 inX10_isTold_RX10 shzM_0 clzM_10 (by decide) rfl (List.mem_of_getElem? (i := 1) rfl) rfl ?_
  refine ww_bipush (pc := 4) X (v := 6) dX10_isTold_4 (by decide) ?_
  refine ww_iald (pc := 6) X dX10_isTold_6 shzM_15 rfl hF (fun v1 ev1 bv1 hF => ?_)
  refine ww_istore_n (pc := 7) X (lv' := [(0, .ref (G.2.1 0)), (1, .int p1)]) dX10_isTold_7 rfl (by decide) rfl hF (fun x2 ex2 hF => ?_)
  refine ww_iload_n (pc := 8) X (j := 2) dX10_isTold_8 rfl rfl ?_
  refine ww_iconst (pc := 9) X (v := 2) dX10_isTold_9 (by decide) ?_
  refine ww_bipush (pc := 10) X (v := 9) dX10_isTold_10 (by decide) ?_
  refine ww_aload_n (pc := 12) X (j := 1) dX10_isTold_12 rfl rfl ?_
  obtain ⟨r4, h3, hF⟩ := bd_some hF
  refine ww_callVi (pc := 13) X (As := []) (rest := [.int 9, .int 2, .int p1]) dX10_isTold_13 (kX10_pictures (mL M) G X.2.2.2.2.2.2.1 X.2.2.2.2.2.2.2.1 σ r4 h3) rfl shzM_0 clzM_10 gX10_isTold_X10_pictures hyX10_pictures ⟨rfl, rfl⟩ ⟨Nat.le_of_ble_eq_true rfl, Nat.le_of_ble_eq_true rfl⟩ rfl rfl (Nat.le_of_ble_eq_true rfl) ?_
  refine ww_imul (pc := 16) X dX10_isTold_16 ?_
  refine ww_iadd (pc := 17) X dX10_isTold_17 ?_
  refine ww_bipush (pc := 18) X (v := 8) dX10_isTold_18 (by decide) ?_
  refine ww_aload_n (pc := 20) X (j := 1) dX10_isTold_20 rfl rfl ?_
  obtain ⟨r6, h5, hF⟩ := bd_some hF
  refine ww_callVi (pc := 21) X (As := []) (rest := [.int 8, .int (2 + (9 * r4)), .int p1]) dX10_isTold_21 (kX10_points (mL M) G X.2.2.2.2.2.2.1 X.2.2.2.2.2.2.2.1 σ r6 h5) rfl shzM_0 clzM_10 gX10_isTold_X10_points hyX10_points ⟨rfl, rfl⟩ ⟨Nat.le_of_ble_eq_true rfl, Nat.le_of_ble_eq_true rfl⟩ rfl rfl (Nat.le_of_ble_eq_true rfl) ?_
  refine ww_imul (pc := 24) X dX10_isTold_24 ?_
  refine ww_iadd (pc := 25) X dX10_isTold_25 ?_
  refine ww_bipush (pc := 26) X (v := 8) dX10_isTold_26 (by decide) ?_
  refine ww_iload_n (pc := 28) X (j := 0) dX10_isTold_28 rfl rfl ?_
  refine ww_imul (pc := 29) X dX10_isTold_29 ?_
  refine ww_iadd (pc := 30) X dX10_isTold_30 ?_
  refine ww_aload_n (pc := 31) X (j := 1) dX10_isTold_31 rfl rfl ?_
  obtain ⟨r8, h7, hF⟩ := bd_some hF
  refine ww_callVi (pc := 32) X (As := []) (rest := [.int (((2 + (9 * r4)) + (8 * r6)) + (8 * x2)), .int p1]) dX10_isTold_32 (kX10_rows (mL M) G X.2.2.2.2.2.2.1 X.2.2.2.2.2.2.2.1 σ r8 h7) rfl shzM_0 clzM_10 gX10_isTold_X10_rows hyX10_rows ⟨rfl, rfl⟩ ⟨Nat.le_of_ble_eq_true rfl, Nat.le_of_ble_eq_true rfl⟩ rfl rfl (Nat.le_of_ble_eq_true rfl) ?_
  refine ww_iadd (pc := 35) X dX10_isTold_35 ?_
  refine ww_icmp_ne (pc := 36) (tgt := 70) X dX10_isTold_36 (by decide) hF (fun h9 hF => ?_) (fun h9 hF => ?_)
  · refine ww_iconst (pc := 70) X (v := 0) dX10_isTold_70 (by decide) ?_
    exact ww_zret (pc := 71) X dX10_isTold_71 (by cases hF; rfl) rfl
  · refine ww_aload_n (pc := 39) X (j := 1) dX10_isTold_39 rfl rfl ?_
    refine ww_get (pc := 40) X (ref := "PictureBlockModel") (T := TX10) (j := 0) dX10_isTold_40 inX10_isTold_RX10 shzM_0 clzM_10 (by decide) rfl (List.mem_of_getElem? (i := 2) rfl) rfl ?_
    refine ww_iload_n (pc := 43) X (j := 2) dX10_isTold_43 rfl rfl ?_
    refine ww_iconst (pc := 44) X (v := 1) dX10_isTold_44 (by decide) ?_
    refine ww_isub (pc := 45) X dX10_isTold_45 ?_
    refine ww_iald (pc := 46) X dX10_isTold_46 shzM_1 rfl hF (fun v10 ev10 bv10 hF => ?_)
    refine ww_aload_n (pc := 47) X (j := 1) dX10_isTold_47 rfl rfl ?_
    refine ww_get (pc := 48) X (ref := "PictureBlockModel") (T := TX10) (j := 0) dX10_isTold_48 inX10_isTold_RX10 shzM_0 clzM_10 (by decide) rfl (List.mem_of_getElem? (i := 2) rfl) rfl ?_
    refine ww_iload_n (pc := 51) X (j := 2) dX10_isTold_51 rfl rfl ?_
    refine ww_iconst (pc := 52) X (v := 1) dX10_isTold_52 (by decide) ?_
    refine ww_isub (pc := 53) X dX10_isTold_53 ?_
    obtain ⟨r12, h11, hF⟩ := bd_some hF
    refine ww_callSi (pc := 54) X (As := [.ref (G.2.1 1), .int (p1 - 1)]) (rest := [.int v10]) dX10_isTold_54 (kX10_checked (mL M) G X.2.2.2.2.2.2.1 X.2.2.2.2.2.2.2.1 σ 1 (p1 - 1) r12 h11) rfl gX10_isTold_X10_checked hyX10_checked ⟨rfl, rfl⟩ ⟨Nat.le_of_ble_eq_true rfl, Nat.le_of_ble_eq_true rfl⟩ rfl rfl (Nat.le_of_ble_eq_true rfl) ?_
    refine ww_icmp_ne (pc := 57) (tgt := 70) X dX10_isTold_57 (by decide) hF (fun h13 hF => ?_) (fun h13 hF => ?_)
    · refine ww_iconst (pc := 70) X (v := 0) dX10_isTold_70 (by decide) ?_
      exact ww_zret (pc := 71) X dX10_isTold_71 (by cases hF; rfl) rfl
    · refine ww_aload_n (pc := 60) X (j := 1) dX10_isTold_60 rfl rfl ?_
      refine ww_get (pc := 61) X (ref := "PictureBlockModel") (T := TX10) (j := 0) dX10_isTold_61 inX10_isTold_RX10 shzM_0 clzM_10 (by decide) rfl (List.mem_of_getElem? (i := 2) rfl) rfl ?_
      refine ww_iconst (pc := 64) X (v := 0) dX10_isTold_64 (by decide) ?_
      refine ww_iald (pc := 65) X dX10_isTold_65 shzM_1 rfl hF (fun v14 ev14 bv14 hF => ?_)
      refine ww_iconst (pc := 66) X (v := 3) dX10_isTold_66 (by decide) ?_
      refine ww_icmp_le (pc := 67) (tgt := 72) X dX10_isTold_67 (by decide) hF (fun h15 hF => ?_) (fun h15 hF => ?_)
      · refine ww_iconst (pc := 72) X (v := 1) dX10_isTold_72 (by decide) ?_
        refine ww_istore_n (pc := 73) X (lv' := [(2, .int x2), (0, .ref (G.2.1 0)), (1, .int p1)]) dX10_isTold_73 rfl (by decide) rfl hF (fun x16 ex16 hF => ?_)
        refine ww_iconst (pc := 74) X (v := 0) dX10_isTold_74 (by decide) ?_
        refine ww_istore (pc := 75) X (lv' := [(3, .int x16), (2, .int x2), (0, .ref (G.2.1 0)), (1, .int p1)]) dX10_isTold_75 (by decide) rfl hF (fun x17 ex17 hF => ?_)
        exact ww_sub [3, 2, 1, 0] rfl (lpc_ind (P := (fun (s : Int32 × Int32) => WW M (gQi M G zM out σ) G zM 7 σ 77 [(0, .ref (G.2.1 0)), (2, .int x2), (3, .int s.1), (4, .int s.2)] [])) (fun rec s ih hF => wbX10_isTold_77 X σ x2 (fun a3 a4 => rec (a3, a4)) (fun a3 a4 h => ih (a3, a4) h) s.1 s.2 hF) K9 (x16, x17) hF)
      · refine ww_iconst (pc := 70) X (v := 0) dX10_isTold_70 (by decide) ?_
        exact ww_zret (pc := 71) X dX10_isTold_71 (by cases hF; rfl) rfl
set_option maxRecDepth 100000 in
set_option maxHeartbeats 4000000 in
theorem kX10_isTold (l : Launch) (G : gG) (hG : gOK G zM.1) (hT : G.2.2.1.map (fun q => q.2) = zM.2.1) (σ : gS) (p1 : Int32) (out : Int32) (hF : fX10_isTold σ p1 = some out) : gCi l yX10_isTold wsX10_isTold rmX10_isTold G zM [.ref (G.2.1 0), .int p1] σ out σ :=
  gEnter (by decide) rfl ⟨rfl, rfl⟩ hG hT (Nat.le_of_ble_eq_true rfl) rfl (fun M X hl => wX10_isTold X σ p1 hF)
