noncomputable def fX10_isRow (σ : gS) (p1 : Int32) : Option (Int32) :=
  bd (fX10_rows σ) fun r2 => bd (fX10_isIn σ p1.toInt64 0 ((r2 - 1).toInt64)) fun r4 => some (vp_nar .boolean r4)
noncomputable abbrev rmX10_isRow : Room := { frames := 1, cells := 0, slots := 0, locals := 25 }
set_option maxRecDepth 100000 in
set_option maxHeartbeats 4000000 in
theorem wX10_isRow {M : gM} {G : gG} {out : Int32} (X : gX M G zM cX10_isRow RX10 2 wsX10_isRow rmX10_isRow (some .boolean)) (σ : gS) (p1 : Int32) (hF : fX10_isRow σ p1 = some out) : WW M (gQi M G zM out σ) G zM 2 σ 0 [(0, .ref (G.2.1 0)), (1, .int p1)] [] := by
  unfold fX10_isRow at hF
  refine ww_iload_n (pc := 0) X (j := 1) dX10_isRow_0 rfl rfl ?_
  refine ww_i2l (pc := 1) X dX10_isRow_1 ?_
  refine ww_lconst (pc := 2) X (v := 0) dX10_isRow_2 (by decide) ?_
  refine ww_aload_n (pc := 3) X (j := 0) dX10_isRow_3 rfl rfl ?_
  obtain ⟨r2, h1, hF⟩ := bd_some hF
  refine ww_callVi (pc := 4) X (As := []) (rest := [.long 0, .long p1.toInt64]) dX10_isRow_4 (kX10_rows (mL M) G X.2.2.2.2.2.2.1 X.2.2.2.2.2.2.2.1 σ r2 h1) rfl shzM_0 clzM_10 gX10_isRow_X10_rows hyX10_rows ⟨rfl, rfl⟩ ⟨Nat.le_of_ble_eq_true rfl, Nat.le_of_ble_eq_true rfl⟩ rfl rfl (Nat.le_of_ble_eq_true rfl) ?_
  refine ww_iconst (pc := 7) X (v := 1) dX10_isRow_7 (by decide) ?_
  refine ww_isub (pc := 8) X dX10_isRow_8 ?_
  refine ww_i2l (pc := 9) X dX10_isRow_9 ?_
  obtain ⟨r4, h3, hF⟩ := bd_some hF
  refine ww_callSi (pc := 10) X (As := [.long p1.toInt64, .long 0, .long ((r2 - 1).toInt64)]) (rest := []) dX10_isRow_10 (kX10_isIn (mL M) G X.2.2.2.2.2.2.1 X.2.2.2.2.2.2.2.1 σ p1.toInt64 0 ((r2 - 1).toInt64) r4 h3) rfl gX10_isRow_X10_isIn hyX10_isIn ⟨rfl, rfl⟩ ⟨Nat.le_of_ble_eq_true rfl, Nat.le_of_ble_eq_true rfl⟩ rfl rfl (Nat.le_of_ble_eq_true rfl) ?_
  exact ww_zret (pc := 13) X dX10_isRow_13 (by cases hF; rfl) rfl
set_option maxRecDepth 100000 in
set_option maxHeartbeats 4000000 in
theorem kX10_isRow (l : Launch) (G : gG) (hG : gOK G zM.1) (hT : G.2.2.1.map (fun q => q.2) = zM.2.1) (σ : gS) (p1 : Int32) (out : Int32) (hF : fX10_isRow σ p1 = some out) : gCi l yX10_isRow wsX10_isRow rmX10_isRow G zM [.ref (G.2.1 0), .int p1] σ out σ :=
  gEnter (by decide) rfl ⟨rfl, rfl⟩ hG hT (Nat.le_of_ble_eq_true rfl) rfl (fun M X hl => wX10_isRow X σ p1 hF)
noncomputable def fX10_weightOf (σ : gS) (p1 : Int32) : Option (Int32) :=
  gd (gb (60 + p1) 120) <| nm (σ.1 25 (60 + p1).toNatClampNeg) fun v1 => some v1
noncomputable abbrev rmX10_weightOf : Room := { frames := 0, cells := 0, slots := 0, locals := 0 }
set_option maxRecDepth 100000 in
set_option maxHeartbeats 4000000 in
theorem wX10_weightOf {M : gM} {G : gG} {out : Int32} (X : gX M G zM cX10_weightOf RX10 2 wsX10_weightOf rmX10_weightOf (some .int)) (σ : gS) (p1 : Int32) (hF : fX10_weightOf σ p1 = some out) : WW M (gQi M G zM out σ) G zM 2 σ 0 [(0, .ref (G.2.1 0)), (1, .int p1)] [] := by
  unfold fX10_weightOf at hF
  refine ww_aload_n (pc := 0) X (j := 0) dX10_weightOf_0 rfl rfl ?_
  refine ww_get (pc := 1) X (ref := "PictureBlockModel") (T := TX10) (j := 33) dX10_weightOf_1 inX10_weightOf_RX10 shzM_0 clzM_10 (by decide) rfl (List.mem_of_getElem? (i := 1) rfl) rfl ?_
  refine ww_bipush (pc := 4) X (v := 60) dX10_weightOf_4 (by decide) ?_
  refine ww_iload_n (pc := 6) X (j := 1) dX10_weightOf_6 rfl rfl ?_
  refine ww_iadd (pc := 7) X dX10_weightOf_7 ?_
  refine ww_iald (pc := 8) X dX10_weightOf_8 shzM_25 rfl hF (fun v1 ev1 bv1 hF => ?_)
  exact ww_iret (pc := 9) X dX10_weightOf_9 (Option.some.inj hF) rfl
set_option maxRecDepth 100000 in
set_option maxHeartbeats 4000000 in
theorem kX10_weightOf (l : Launch) (G : gG) (hG : gOK G zM.1) (hT : G.2.2.1.map (fun q => q.2) = zM.2.1) (σ : gS) (p1 : Int32) (out : Int32) (hF : fX10_weightOf σ p1 = some out) : gCi l yX10_weightOf wsX10_weightOf rmX10_weightOf G zM [.ref (G.2.1 0), .int p1] σ out σ :=
  gEnter (by decide) rfl ⟨rfl, rfl⟩ hG hT (Nat.le_of_ble_eq_true rfl) rfl (fun M X hl => wX10_weightOf X σ p1 hF)
noncomputable def fX10_miss (σ : gS) (p1 : Int32) (p2 : Int32) : Option (Int32) :=
  bd (fX10_pointOf σ p1) fun r2 => gd (gb (((38 * p2) + 12) + r2) 76) <| nm (σ.1 28 (((38 * p2) + 12) + r2).toNatClampNeg) fun v3 => bd (fX10_put σ p1 p2) fun r5 => some (v3 - r5)
noncomputable abbrev rmX10_miss : Room := { frames := 3, cells := 0, slots := 0, locals := 70 }
set_option maxRecDepth 100000 in
set_option maxHeartbeats 4000000 in
theorem wX10_miss {M : gM} {G : gG} {out : Int32} (X : gX M G zM cX10_miss RX10 3 wsX10_miss rmX10_miss (some .int)) (σ : gS) (p1 : Int32) (p2 : Int32) (hF : fX10_miss σ p1 p2 = some out) : WW M (gQi M G zM out σ) G zM 3 σ 0 [(0, .ref (G.2.1 0)), (1, .int p1), (2, .int p2)] [] := by
  unfold fX10_miss at hF
  refine ww_aload_n (pc := 0) X (j := 0) dX10_miss_0 rfl rfl ?_
  refine ww_get (pc := 1) X (ref := "PictureBlockModel") (T := TX10) (j := 38) dX10_miss_1 inX10_miss_RX10 shzM_0 clzM_10 (by decide) rfl (List.mem_of_getElem? (i := 1) rfl) rfl ?_
  refine ww_bipush (pc := 4) X (v := 38) dX10_miss_4 (by decide) ?_
  refine ww_iload_n (pc := 6) X (j := 2) dX10_miss_6 rfl rfl ?_
  refine ww_imul (pc := 7) X dX10_miss_7 ?_
  refine ww_bipush (pc := 8) X (v := 12) dX10_miss_8 (by decide) ?_
  refine ww_iadd (pc := 10) X dX10_miss_10 ?_
  refine ww_aload_n (pc := 11) X (j := 0) dX10_miss_11 rfl rfl ?_
  refine ww_iload_n (pc := 12) X (j := 1) dX10_miss_12 rfl rfl ?_
  obtain ⟨r2, h1, hF⟩ := bd_some hF
  refine ww_callVi (pc := 13) X (As := [.int p1]) (rest := [.int ((38 * p2) + 12), .ref (G.2.1 28)]) dX10_miss_13 (kX10_pointOf (mL M) G X.2.2.2.2.2.2.1 X.2.2.2.2.2.2.2.1 σ p1 r2 h1) rfl shzM_0 clzM_10 gX10_miss_X10_pointOf hyX10_pointOf ⟨rfl, rfl⟩ ⟨Nat.le_of_ble_eq_true rfl, Nat.le_of_ble_eq_true rfl⟩ rfl rfl (Nat.le_of_ble_eq_true rfl) ?_
  refine ww_iadd (pc := 16) X dX10_miss_16 ?_
  refine ww_iald (pc := 17) X dX10_miss_17 shzM_28 rfl hF (fun v3 ev3 bv3 hF => ?_)
  refine ww_aload_n (pc := 18) X (j := 0) dX10_miss_18 rfl rfl ?_
  refine ww_iload_n (pc := 19) X (j := 1) dX10_miss_19 rfl rfl ?_
  refine ww_iload_n (pc := 20) X (j := 2) dX10_miss_20 rfl rfl ?_
  obtain ⟨r5, h4, hF⟩ := bd_some hF
  refine ww_callVi (pc := 21) X (As := [.int p1, .int p2]) (rest := [.int v3]) dX10_miss_21 (kX10_put (mL M) G X.2.2.2.2.2.2.1 X.2.2.2.2.2.2.2.1 σ p1 p2 r5 h4) rfl shzM_0 clzM_10 gX10_miss_X10_put hyX10_put ⟨rfl, rfl⟩ ⟨Nat.le_of_ble_eq_true rfl, Nat.le_of_ble_eq_true rfl⟩ rfl rfl (Nat.le_of_ble_eq_true rfl) ?_
  refine ww_isub (pc := 24) X dX10_miss_24 ?_
  exact ww_iret (pc := 25) X dX10_miss_25 (Option.some.inj hF) rfl
set_option maxRecDepth 100000 in
set_option maxHeartbeats 4000000 in
theorem kX10_miss (l : Launch) (G : gG) (hG : gOK G zM.1) (hT : G.2.2.1.map (fun q => q.2) = zM.2.1) (σ : gS) (p1 : Int32) (p2 : Int32) (out : Int32) (hF : fX10_miss σ p1 p2 = some out) : gCi l yX10_miss wsX10_miss rmX10_miss G zM [.ref (G.2.1 0), .int p1, .int p2] σ out σ :=
  gEnter (by decide) rfl ⟨rfl, rfl⟩ hG hT (Nat.le_of_ble_eq_true rfl) rfl (fun M X hl => wX10_miss X σ p1 p2 hF)
noncomputable def fX10_canShow (σ : gS) (p1 : Int32) : Option (Int32 × gS) :=
  gd (gb p1 60) <| nm (σ.1 26 p1.toNatClampNeg) fun v1 => (if v1 = 0 then gd (gb p1 60) <| nm (gsI σ 26 p1.toNatClampNeg (vp_nar .boolean 1)) fun σ3 => bd (fX10_hangs σ3) fun σ5 => gd (gb p1 60) <| nm (gsI σ5 26 p1.toNatClampNeg (vp_nar .boolean 0)) fun σ6 => bd (fX10_pictureOf σ6 p1) fun r8 => nm (r8 : Int32) fun x9 => bd (fX10_pointOf σ6 p1) fun r11 => nm (12 + r11 : Int32) fun x12 => gd (gb x9 32) <| nm (σ6.1 32 x9.toNatClampNeg) fun v13 => gd (gb x12 32) <| nm (σ6.1 32 x12.toNatClampNeg) fun v14 => (if v13 = v14 then some (1, σ6) else bd (fX10_isLoose σ6 x9) fun r17 => (if r17 = 0 then bd (fX10_isLoose σ6 x12) fun r20 => (if r20 = 0 then some (1, σ6) else some (0, σ6)) else some (0, σ6))) else some (0, σ))
noncomputable abbrev rmX10_canShow : Room := { frames := 2, cells := 0, slots := 0, locals := 48 }
set_option maxRecDepth 100000 in
set_option maxHeartbeats 4000000 in
theorem wX10_canShow {M : gM} {G : gG} {out : Int32 × gS} (X : gX M G zM cX10_canShow RX10 4 wsX10_canShow rmX10_canShow (some .boolean)) (σ : gS) (p1 : Int32) (hF : fX10_canShow σ p1 = some out) : WW M (gQi M G zM out.1 out.2) G zM 4 σ 0 [(0, .ref (G.2.1 0)), (1, .int p1)] [] := by
  unfold fX10_canShow at hF
  refine ww_aload_n (pc := 0) X (j := 0) dX10_canShow_0 rfl rfl ?_
  refine ww_get (pc := 1) X (ref := "PictureBlockModel") (T := TX10) (j := 35) dX10_canShow_1 inX10_canShow_RX10 shzM_0 clzM_10 (by decide) rfl (List.mem_of_getElem? (i := 1) rfl) rfl ?_
  refine ww_iload_n (pc := 4) X (j := 1) dX10_canShow_4 rfl rfl ?_
  refine ww_zald (pc := 5) X dX10_canShow_5 shzM_26 rfl hF (fun v1 ev1 bv1 hF => ?_)
  refine ww_if_eq (pc := 6) (tgt := 11) X dX10_canShow_6 (by decide) hF (fun h2 hF => ?_) (fun h2 hF => ?_)
  · refine ww_aload_n (pc := 11) X (j := 0) dX10_canShow_11 rfl rfl ?_
    refine ww_get (pc := 12) X (ref := "PictureBlockModel") (T := TX10) (j := 35) dX10_canShow_12 inX10_canShow_RX10 shzM_0 clzM_10 (by decide) rfl (List.mem_of_getElem? (i := 1) rfl) rfl ?_
    refine ww_iload_n (pc := 15) X (j := 1) dX10_canShow_15 rfl rfl ?_
    refine ww_iconst (pc := 16) X (v := 1) dX10_canShow_16 (by decide) ?_
    refine ww_zast (pc := 17) X dX10_canShow_17 shzM_26 rfl hF (fun σ3 eσ3 bσ3 hF => ?_)
    refine ww_aload_n (pc := 18) X (j := 0) dX10_canShow_18 rfl rfl ?_
    obtain ⟨σ5, h4, hF⟩ := bd_some hF
    refine ww_callVv (pc := 19) X (As := []) (rest := []) dX10_canShow_19 (kX10_hangs (mL M) G X.2.2.2.2.2.2.1 X.2.2.2.2.2.2.2.1 σ3 σ5 h4) rfl shzM_0 clzM_10 gX10_canShow_X10_hangs hyX10_hangs ⟨rfl, rfl⟩ ⟨Nat.le_of_ble_eq_true rfl, Nat.le_of_ble_eq_true rfl⟩ rfl rfl (Nat.le_of_ble_eq_true rfl) ?_
    refine ww_aload_n (pc := 22) X (j := 0) dX10_canShow_22 rfl rfl ?_
    refine ww_get (pc := 23) X (ref := "PictureBlockModel") (T := TX10) (j := 35) dX10_canShow_23 inX10_canShow_RX10 shzM_0 clzM_10 (by decide) rfl (List.mem_of_getElem? (i := 1) rfl) rfl ?_
    refine ww_iload_n (pc := 26) X (j := 1) dX10_canShow_26 rfl rfl ?_
    refine ww_iconst (pc := 27) X (v := 0) dX10_canShow_27 (by decide) ?_
    refine ww_zast (pc := 28) X dX10_canShow_28 shzM_26 rfl hF (fun σ6 eσ6 bσ6 hF => ?_)
    refine ww_aload_n (pc := 29) X (j := 0) dX10_canShow_29 rfl rfl ?_
    refine ww_iload_n (pc := 30) X (j := 1) dX10_canShow_30 rfl rfl ?_
    obtain ⟨r8, h7, hF⟩ := bd_some hF
    refine ww_callVi (pc := 31) X (As := [.int p1]) (rest := []) dX10_canShow_31 (kX10_pictureOf (mL M) G X.2.2.2.2.2.2.1 X.2.2.2.2.2.2.2.1 σ6 p1 r8 h7) rfl shzM_0 clzM_10 gX10_canShow_X10_pictureOf hyX10_pictureOf ⟨rfl, rfl⟩ ⟨Nat.le_of_ble_eq_true rfl, Nat.le_of_ble_eq_true rfl⟩ rfl rfl (Nat.le_of_ble_eq_true rfl) ?_
    refine ww_istore_n (pc := 34) X (lv' := [(0, .ref (G.2.1 0)), (1, .int p1)]) dX10_canShow_34 rfl (by decide) rfl hF (fun x9 ex9 hF => ?_)
    refine ww_bipush (pc := 35) X (v := 12) dX10_canShow_35 (by decide) ?_
    refine ww_aload_n (pc := 37) X (j := 1) dX10_canShow_37 rfl rfl ?_
    refine ww_iload_n (pc := 38) X (j := 2) dX10_canShow_38 rfl rfl ?_
    obtain ⟨r11, h10, hF⟩ := bd_some hF
    refine ww_callVi (pc := 39) X (As := [.int p1]) (rest := [.int 12]) dX10_canShow_39 (kX10_pointOf (mL M) G X.2.2.2.2.2.2.1 X.2.2.2.2.2.2.2.1 σ6 p1 r11 h10) rfl shzM_0 clzM_10 gX10_canShow_X10_pointOf hyX10_pointOf ⟨rfl, rfl⟩ ⟨Nat.le_of_ble_eq_true rfl, Nat.le_of_ble_eq_true rfl⟩ rfl rfl (Nat.le_of_ble_eq_true rfl) ?_
    refine ww_iadd (pc := 42) X dX10_canShow_42 ?_
    refine ww_istore_n (pc := 43) X (lv' := [(2, .int x9), (0, .ref (G.2.1 0)), (1, .int p1)]) dX10_canShow_43 rfl (by decide) rfl hF (fun x12 ex12 hF => ?_)
    refine ww_aload_n (pc := 44) X (j := 2) dX10_canShow_44 rfl rfl ?_
    refine ww_get (pc := 45) X (ref := "PictureBlockModel") (T := TX10) (j := 45) dX10_canShow_45 inX10_canShow_RX10 shzM_0 clzM_10 (by decide) rfl (List.mem_of_getElem? (i := 2) rfl) rfl ?_
    refine ww_iload_n (pc := 48) X (j := 1) dX10_canShow_48 rfl rfl ?_
    refine ww_iald (pc := 49) X dX10_canShow_49 shzM_32 rfl hF (fun v13 ev13 bv13 hF => ?_)
    refine ww_aload_n (pc := 50) X (j := 2) dX10_canShow_50 rfl rfl ?_
    refine ww_get (pc := 51) X (ref := "PictureBlockModel") (T := TX10) (j := 45) dX10_canShow_51 inX10_canShow_RX10 shzM_0 clzM_10 (by decide) rfl (List.mem_of_getElem? (i := 2) rfl) rfl ?_
    refine ww_iload_n (pc := 54) X (j := 0) dX10_canShow_54 rfl rfl ?_
    refine ww_iald (pc := 55) X dX10_canShow_55 shzM_32 rfl hF (fun v14 ev14 bv14 hF => ?_)
    refine ww_icmp_eq (pc := 56) (tgt := 75) X dX10_canShow_56 (by decide) hF (fun h15 hF => ?_) (fun h15 hF => ?_)
    · refine ww_iconst (pc := 75) X (v := 1) dX10_canShow_75 (by decide) ?_
      refine ww_goto (pc := 76) X (tgt := 80) dX10_canShow_76 (by decide) ?_
      exact ww_zret (pc := 80) X dX10_canShow_80 (by cases hF; rfl) (by cases hF; rfl)
    · refine ww_aload_n (pc := 59) X (j := 2) dX10_canShow_59 rfl rfl ?_
      refine ww_iload_n (pc := 60) X (j := 1) dX10_canShow_60 rfl rfl ?_
      obtain ⟨r17, h16, hF⟩ := bd_some hF
      refine ww_callVi (pc := 61) X (As := [.int x9]) (rest := []) dX10_canShow_61 (kX10_isLoose (mL M) G X.2.2.2.2.2.2.1 X.2.2.2.2.2.2.2.1 σ6 x9 r17 h16) rfl shzM_0 clzM_10 gX10_canShow_X10_isLoose hyX10_isLoose ⟨rfl, rfl⟩ ⟨Nat.le_of_ble_eq_true rfl, Nat.le_of_ble_eq_true rfl⟩ rfl rfl (Nat.le_of_ble_eq_true rfl) ?_
      refine ww_if_ne (pc := 64) (tgt := 79) X dX10_canShow_64 (by decide) hF (fun h18 hF => ?_) (fun h18 hF => ?_)
      · refine ww_iconst (pc := 79) X (v := 0) dX10_canShow_79 (by decide) ?_
        exact ww_zret (pc := 80) X dX10_canShow_80 (by cases hF; rfl) (by cases hF; rfl)
      · refine ww_aload_n (pc := 67) X (j := 2) dX10_canShow_67 rfl rfl ?_
        refine ww_iload_n (pc := 68) X (j := 0) dX10_canShow_68 rfl rfl ?_
        obtain ⟨r20, h19, hF⟩ := bd_some hF
        refine ww_callVi (pc := 69) X (As := [.int x12]) (rest := []) dX10_canShow_69 (kX10_isLoose (mL M) G X.2.2.2.2.2.2.1 X.2.2.2.2.2.2.2.1 σ6 x12 r20 h19) rfl shzM_0 clzM_10 gX10_canShow_X10_isLoose hyX10_isLoose ⟨rfl, rfl⟩ ⟨Nat.le_of_ble_eq_true rfl, Nat.le_of_ble_eq_true rfl⟩ rfl rfl (Nat.le_of_ble_eq_true rfl) ?_
        refine ww_if_ne (pc := 72) (tgt := 79) X dX10_canShow_72 (by decide) hF (fun h21 hF => ?_) (fun h21 hF => ?_)
        · refine ww_iconst (pc := 79) X (v := 0) dX10_canShow_79 (by decide) ?_
          exact ww_zret (pc := 80) X dX10_canShow_80 (by cases hF; rfl) (by cases hF; rfl)
        · refine ww_iconst (pc := 75) X (v := 1) dX10_canShow_75 (by decide) ?_
          refine ww_goto (pc := 76) X (tgt := 80) dX10_canShow_76 (by decide) ?_
          exact ww_zret (pc := 80) X dX10_canShow_80 (by cases hF; rfl) (by cases hF; rfl)
  · refine ww_iconst (pc := 9) X (v := 0) dX10_canShow_9 (by decide) ?_
    exact ww_zret (pc := 10) X dX10_canShow_10 (by cases hF; rfl) (by cases hF; rfl)
set_option maxRecDepth 100000 in
set_option maxHeartbeats 4000000 in
theorem kX10_canShow (l : Launch) (G : gG) (hG : gOK G zM.1) (hT : G.2.2.1.map (fun q => q.2) = zM.2.1) (σ : gS) (p1 : Int32) (out : Int32 × gS) (hF : fX10_canShow σ p1 = some out) : gCi l yX10_canShow wsX10_canShow rmX10_canShow G zM [.ref (G.2.1 0), .int p1] σ out.1 out.2 :=
  gEnter (by decide) rfl ⟨rfl, rfl⟩ hG hT (Nat.le_of_ble_eq_true rfl) rfl (fun M X hl => wX10_canShow X σ p1 hF)
noncomputable def jX10_row_76 (σ : gS) (a1 : Int32) (a2 : Int32) : Option (Int32 × gS) :=
  gd (gb (((120 + (2 * a1)) + a2) - 2) 240) <| nm (σ.1 24 (((120 + (2 * a1)) + a2) - 2).toNatClampNeg) fun v10 => some (v10, σ)
noncomputable def jX10_row_113 (σ : gS) (a1 : Int32) (a2 : Int32) : Option (Int32 × gS) :=
  bd (fX10_miss σ a1 (a2 - 6)) fun r20 => some (r20, σ)
noncomputable def fX10_row (σ : gS) (p1 : Int32) (p2 : Int32) : Option (Int32 × gS) :=
  bd (fX10_isRow σ p1) fun r2 => (if r2 = 0 then some ((-1000000000), σ) else if p2 = 0 then bd (fX10_pictureOf σ p1) fun r5 => some (r5, σ) else if p2 = 1 then bd (fX10_pointOf σ p1) fun r8 => some (r8, σ) else if p2 = 2 then jX10_row_76 σ p1 p2 else if p2 = 3 then jX10_row_76 σ p1 p2 else if p2 = 4 then bd (fX10_weightOf σ p1) fun r14 => some (r14, σ) else if p2 = 5 then gd (gb p1 60) <| nm (σ.1 26 p1.toNatClampNeg) fun v16 => (if v16 = 0 then some (0, σ) else some (1, σ)) else if p2 = 6 then jX10_row_113 σ p1 p2 else if p2 = 7 then jX10_row_113 σ p1 p2 else if p2 = 8 then bd2 (fX10_canShow σ p1) fun r24 σ25 => (if r24 = 0 then some (0, σ25) else some (1, σ25)) else some ((-1000000000), σ))
noncomputable abbrev rmX10_row : Room := { frames := 4, cells := 0, slots := 0, locals := 92 }
set_option maxRecDepth 100000 in
set_option maxHeartbeats 4000000 in
theorem wjX10_row_76 {M : gM} {G : gG} {out : Int32 × gS} (X : gX M G zM cX10_row RX10 3 wsX10_row rmX10_row (some .int)) (σ : gS) (a1 : Int32) (a2 : Int32) (hF : jX10_row_76 σ a1 a2 = some out) : WW M (gQi M G zM out.1 out.2) G zM 3 σ 76 [(0, .ref (G.2.1 0)), (1, .int a1), (2, .int a2)] [] := by
  unfold jX10_row_76 at hF
  refine ww_aload_n (pc := 76) X (j := 0) dX10_row_76 rfl rfl ?_
  refine ww_get (pc := 77) X (ref := "PictureBlockModel") (T := TX10) (j := 32) dX10_row_77 inX10_row_RX10 shzM_0 clzM_10 (by decide) rfl (List.mem_of_getElem? (i := 2) rfl) rfl ?_
  refine ww_bipush (pc := 80) X (v := 120) dX10_row_80 (by decide) ?_
  refine ww_iconst (pc := 82) X (v := 2) dX10_row_82 (by decide) ?_
  refine ww_iload_n (pc := 83) X (j := 1) dX10_row_83 rfl rfl ?_
  refine ww_imul (pc := 84) X dX10_row_84 ?_
  refine ww_iadd (pc := 85) X dX10_row_85 ?_
  refine ww_iload_n (pc := 86) X (j := 2) dX10_row_86 rfl rfl ?_
  refine ww_iadd (pc := 87) X dX10_row_87 ?_
  refine ww_iconst (pc := 88) X (v := 2) dX10_row_88 (by decide) ?_
  refine ww_isub (pc := 89) X dX10_row_89 ?_
  refine ww_iald (pc := 90) X dX10_row_90 shzM_24 rfl hF (fun v10 ev10 bv10 hF => ?_)
  exact ww_iret (pc := 91) X dX10_row_91 (fst_of hF) (snd_of hF)
set_option maxRecDepth 100000 in
set_option maxHeartbeats 4000000 in
theorem wjX10_row_113 {M : gM} {G : gG} {out : Int32 × gS} (X : gX M G zM cX10_row RX10 3 wsX10_row rmX10_row (some .int)) (σ : gS) (a1 : Int32) (a2 : Int32) (hF : jX10_row_113 σ a1 a2 = some out) : WW M (gQi M G zM out.1 out.2) G zM 3 σ 113 [(0, .ref (G.2.1 0)), (1, .int a1), (2, .int a2)] [] := by
  unfold jX10_row_113 at hF
  refine ww_aload_n (pc := 113) X (j := 0) dX10_row_113 rfl rfl ?_
  refine ww_iload_n (pc := 114) X (j := 1) dX10_row_114 rfl rfl ?_
  refine ww_iload_n (pc := 115) X (j := 2) dX10_row_115 rfl rfl ?_
  refine ww_bipush (pc := 116) X (v := 6) dX10_row_116 (by decide) ?_
  refine ww_isub (pc := 118) X dX10_row_118 ?_
  obtain ⟨r20, h19, hF⟩ := bd_some hF
  refine ww_callVi (pc := 119) X (As := [.int a1, .int (a2 - 6)]) (rest := []) dX10_row_119 (kX10_miss (mL M) G X.2.2.2.2.2.2.1 X.2.2.2.2.2.2.2.1 σ a1 (a2 - 6) r20 h19) rfl shzM_0 clzM_10 gX10_row_X10_miss hyX10_miss ⟨rfl, rfl⟩ ⟨Nat.le_of_ble_eq_true rfl, Nat.le_of_ble_eq_true rfl⟩ rfl rfl (Nat.le_of_ble_eq_true rfl) ?_
  exact ww_iret (pc := 122) X dX10_row_122 (fst_of hF) (snd_of hF)
set_option maxRecDepth 100000 in
set_option maxHeartbeats 4000000 in
theorem wX10_row {M : gM} {G : gG} {out : Int32 × gS} (X : gX M G zM cX10_row RX10 3 wsX10_row rmX10_row (some .int)) (σ : gS) (p1 : Int32) (p2 : Int32) (hF : fX10_row σ p1 p2 = some out) : WW M (gQi M G zM out.1 out.2) G zM 3 σ 0 [(0, .ref (G.2.1 0)), (1, .int p1), (2, .int p2)] [] := by
  unfold fX10_row at hF
  refine ww_aload_n (pc := 0) X (j := 0) dX10_row_0 rfl rfl ?_
  refine ww_iload_n (pc := 1) X (j := 1) dX10_row_1 rfl rfl ?_
  obtain ⟨r2, h1, hF⟩ := bd_some hF
  refine ww_callVi (pc := 2) X (As := [.int p1]) (rest := []) dX10_row_2 (kX10_isRow (mL M) G X.2.2.2.2.2.2.1 X.2.2.2.2.2.2.2.1 σ p1 r2 h1) rfl shzM_0 clzM_10 gX10_row_X10_isRow hyX10_isRow ⟨rfl, rfl⟩ ⟨Nat.le_of_ble_eq_true rfl, Nat.le_of_ble_eq_true rfl⟩ rfl rfl (Nat.le_of_ble_eq_true rfl) ?_
  refine ww_if_ne (pc := 5) (tgt := 12) X dX10_row_5 (by decide) hF (fun h3 hF => ?_) (fun h3 hF => ?_)
  · refine ww_iload_n (pc := 12) X (j := 2) dX10_row_12 rfl rfl ?_
    refine ww_case (v := 0) hF (fun h6 hF => ?_) (fun h6 hF => ?_)
    · refine ww_tin (pc := 13) X (off := 51) (tgt := 64) dX10_row_13 (by decide) (by decide) (by decide) (by decide) ?_
      refine ww_aload_n (pc := 64) X (j := 0) dX10_row_64 rfl rfl ?_
      refine ww_iload_n (pc := 65) X (j := 1) dX10_row_65 rfl rfl ?_
      obtain ⟨r5, h4, hF⟩ := bd_some hF
      refine ww_callVi (pc := 66) X (As := [.int p1]) (rest := []) dX10_row_66 (kX10_pictureOf (mL M) G X.2.2.2.2.2.2.1 X.2.2.2.2.2.2.2.1 σ p1 r5 h4) rfl shzM_0 clzM_10 gX10_row_X10_pictureOf hyX10_pictureOf ⟨rfl, rfl⟩ ⟨Nat.le_of_ble_eq_true rfl, Nat.le_of_ble_eq_true rfl⟩ rfl rfl (Nat.le_of_ble_eq_true rfl) ?_
      exact ww_iret (pc := 69) X dX10_row_69 (fst_of hF) (snd_of hF)
    refine ww_case (v := 1) hF (fun h9 hF => ?_) (fun h9 hF => ?_)
    · refine ww_tin (pc := 13) X (off := 57) (tgt := 70) dX10_row_13 (by decide) (by decide) (by decide) (by decide) ?_
      refine ww_aload_n (pc := 70) X (j := 0) dX10_row_70 rfl rfl ?_
      refine ww_iload_n (pc := 71) X (j := 1) dX10_row_71 rfl rfl ?_
      obtain ⟨r8, h7, hF⟩ := bd_some hF
      refine ww_callVi (pc := 72) X (As := [.int p1]) (rest := []) dX10_row_72 (kX10_pointOf (mL M) G X.2.2.2.2.2.2.1 X.2.2.2.2.2.2.2.1 σ p1 r8 h7) rfl shzM_0 clzM_10 gX10_row_X10_pointOf hyX10_pointOf ⟨rfl, rfl⟩ ⟨Nat.le_of_ble_eq_true rfl, Nat.le_of_ble_eq_true rfl⟩ rfl rfl (Nat.le_of_ble_eq_true rfl) ?_
      exact ww_iret (pc := 75) X dX10_row_75 (fst_of hF) (snd_of hF)
    refine ww_case (v := 2) hF (fun h11 hF => ?_) (fun h11 hF => ?_)
    · refine ww_tin (pc := 13) X (off := 63) (tgt := 76) dX10_row_13 (by decide) (by decide) (by decide) (by decide) ?_
      exact ww_sub [0, 1, 2] rfl (wjX10_row_76 X σ p1 p2 hF)
    refine ww_case (v := 3) hF (fun h12 hF => ?_) (fun h12 hF => ?_)
    · refine ww_tin (pc := 13) X (off := 63) (tgt := 76) dX10_row_13 (by decide) (by decide) (by decide) (by decide) ?_
      exact ww_sub [0, 1, 2] rfl (wjX10_row_76 X σ p1 p2 hF)
    refine ww_case (v := 4) hF (fun h15 hF => ?_) (fun h15 hF => ?_)
    · refine ww_tin (pc := 13) X (off := 79) (tgt := 92) dX10_row_13 (by decide) (by decide) (by decide) (by decide) ?_
      refine ww_aload_n (pc := 92) X (j := 0) dX10_row_92 rfl rfl ?_
      refine ww_iload_n (pc := 93) X (j := 1) dX10_row_93 rfl rfl ?_
      obtain ⟨r14, h13, hF⟩ := bd_some hF
      refine ww_callVi (pc := 94) X (As := [.int p1]) (rest := []) dX10_row_94 (kX10_weightOf (mL M) G X.2.2.2.2.2.2.1 X.2.2.2.2.2.2.2.1 σ p1 r14 h13) rfl shzM_0 clzM_10 gX10_row_X10_weightOf hyX10_weightOf ⟨rfl, rfl⟩ ⟨Nat.le_of_ble_eq_true rfl, Nat.le_of_ble_eq_true rfl⟩ rfl rfl (Nat.le_of_ble_eq_true rfl) ?_
      exact ww_iret (pc := 97) X dX10_row_97 (fst_of hF) (snd_of hF)
    refine ww_case (v := 5) hF (fun h18 hF => ?_) (fun h18 hF => ?_)
    · refine ww_tin (pc := 13) X (off := 85) (tgt := 98) dX10_row_13 (by decide) (by decide) (by decide) (by decide) ?_
      refine ww_aload_n (pc := 98) X (j := 0) dX10_row_98 rfl rfl ?_
      refine ww_get (pc := 99) X (ref := "PictureBlockModel") (T := TX10) (j := 35) dX10_row_99 inX10_row_RX10 shzM_0 clzM_10 (by decide) rfl (List.mem_of_getElem? (i := 3) rfl) rfl ?_
      refine ww_iload_n (pc := 102) X (j := 1) dX10_row_102 rfl rfl ?_
      refine ww_zald (pc := 103) X dX10_row_103 shzM_26 rfl hF (fun v16 ev16 bv16 hF => ?_)
      refine ww_if_eq (pc := 104) (tgt := 111) X dX10_row_104 (by decide) hF (fun h17 hF => ?_) (fun h17 hF => ?_)
      · refine ww_iconst (pc := 111) X (v := 0) dX10_row_111 (by decide) ?_
        exact ww_iret (pc := 112) X dX10_row_112 (fst_of hF) (snd_of hF)
      · refine ww_iconst (pc := 107) X (v := 1) dX10_row_107 (by decide) ?_
        refine ww_goto (pc := 108) X (tgt := 112) dX10_row_108 (by decide) ?_
        exact ww_iret (pc := 112) X dX10_row_112 (fst_of hF) (snd_of hF)
    refine ww_case (v := 6) hF (fun h21 hF => ?_) (fun h21 hF => ?_)
    · refine ww_tin (pc := 13) X (off := 100) (tgt := 113) dX10_row_13 (by decide) (by decide) (by decide) (by decide) ?_
      exact ww_sub [0, 1, 2] rfl (wjX10_row_113 X σ p1 p2 hF)
    refine ww_case (v := 7) hF (fun h22 hF => ?_) (fun h22 hF => ?_)
    · refine ww_tin (pc := 13) X (off := 100) (tgt := 113) dX10_row_13 (by decide) (by decide) (by decide) (by decide) ?_
      exact ww_sub [0, 1, 2] rfl (wjX10_row_113 X σ p1 p2 hF)
    refine ww_case (v := 8) hF (fun h27 hF => ?_) (fun h27 hF => ?_)
    · refine ww_tin (pc := 13) X (off := 110) (tgt := 123) dX10_row_13 (by decide) (by decide) (by decide) (by decide) ?_
      refine ww_aload_n (pc := 123) X (j := 0) dX10_row_123 rfl rfl ?_
      refine ww_iload_n (pc := 124) X (j := 1) dX10_row_124 rfl rfl ?_
      obtain ⟨r24, σ25, h23, hF⟩ := bd2_some hF
      refine ww_callVi (pc := 125) X (As := [.int p1]) (rest := []) dX10_row_125 (kX10_canShow (mL M) G X.2.2.2.2.2.2.1 X.2.2.2.2.2.2.2.1 σ p1 (r24, σ25) h23) rfl shzM_0 clzM_10 gX10_row_X10_canShow hyX10_canShow ⟨rfl, rfl⟩ ⟨Nat.le_of_ble_eq_true rfl, Nat.le_of_ble_eq_true rfl⟩ rfl rfl (Nat.le_of_ble_eq_true rfl) ?_
      refine ww_if_eq (pc := 128) (tgt := 135) X dX10_row_128 (by decide) hF (fun h26 hF => ?_) (fun h26 hF => ?_)
      · refine ww_iconst (pc := 135) X (v := 0) dX10_row_135 (by decide) ?_
        exact ww_iret (pc := 136) X dX10_row_136 (fst_of hF) (snd_of hF)
      · refine ww_iconst (pc := 131) X (v := 1) dX10_row_131 (by decide) ?_
        refine ww_goto (pc := 132) X (tgt := 136) dX10_row_132 (by decide) ?_
        exact ww_iret (pc := 136) X dX10_row_136 (fst_of hF) (snd_of hF)
    refine ww_tout (pc := 13) X (tgt := 137) dX10_row_13 (sw_out 0 8 (fun i q1 q2 => by rcases (show i = 0 ∨ i = 1 ∨ i = 2 ∨ i = 3 ∨ i = 4 ∨ i = 5 ∨ i = 6 ∨ i = 7 ∨ i = 8 by omega) with rfl | rfl | rfl | rfl | rfl | rfl | rfl | rfl | rfl <;> first | exact lv_neT h6 (by decide) | exact lv_neT h9 (by decide) | exact lv_neT h11 (by decide) | exact lv_neT h12 (by decide) | exact lv_neT h15 (by decide) | exact lv_neT h18 (by decide) | exact lv_neT h21 (by decide) | exact lv_neT h22 (by decide) | exact lv_neT h27 (by decide))) (by decide) ?_
    refine ww_ldcw (pc := 137) X (v := (-1000000000)) (List.mem_of_getElem? (i := 1) rfl) dX10_row_137 ?_
    exact ww_iret (pc := 140) X dX10_row_140 (fst_of hF) (snd_of hF)
  · refine ww_ldcw (pc := 8) X (v := (-1000000000)) (List.mem_of_getElem? (i := 1) rfl) dX10_row_8 ?_
    exact ww_iret (pc := 11) X dX10_row_11 (fst_of hF) (snd_of hF)
set_option maxRecDepth 100000 in
set_option maxHeartbeats 4000000 in
theorem kX10_row (l : Launch) (G : gG) (hG : gOK G zM.1) (hT : G.2.2.1.map (fun q => q.2) = zM.2.1) (σ : gS) (p1 : Int32) (p2 : Int32) (out : Int32 × gS) (hF : fX10_row σ p1 p2 = some out) : gCi l yX10_row wsX10_row rmX10_row G zM [.ref (G.2.1 0), .int p1, .int p2] σ out.1 out.2 :=
  gEnter (by decide) rfl ⟨rfl, rfl⟩ hG hT (Nat.le_of_ble_eq_true rfl) rfl (fun M X hl => wX10_row X σ p1 p2 hF)
noncomputable def bX10_hasDrift_2 (σ : gS) (c2_1 : Int32) (rec2 : Int32 → Option (Int32)) (a2 : Int32) : Option (Int32) :=
  bd (fX10_pictures σ) fun r3 => (if r3 ≤ a2 then some 0 else bd (fX10_strip σ a2) fun r6 => (if r6 = c2_1 then bd (fX10_centreOf σ a2) fun r10 => (if r10 ≤ 0 then nm (a2 + 1 : Int32) fun x12 => rec2 x12 else some 1) else nm (a2 + 1 : Int32) fun x8 => rec2 x8))
noncomputable def fX10_hasDrift (σ : gS) (p1 : Int32) : Option (Int32) :=
  nm (0 : Int32) fun x1 => lpc (S := Int32) K9 (fun rec s => bX10_hasDrift_2 σ p1 (fun a2 => rec (a2)) s) (x1)
noncomputable abbrev rmX10_hasDrift : Room := { frames := 1, cells := 0, slots := 0, locals := 21 }
set_option maxRecDepth 100000 in
set_option maxHeartbeats 4000000 in
theorem wbX10_hasDrift_2 {M : gM} {G : gG} {out : Int32} (X : gX M G zM cX10_hasDrift RX10 3 wsX10_hasDrift rmX10_hasDrift (some .boolean)) (σ : gS) (c2_1 : Int32) (rec2 : Int32 → Option (Int32)) (ih2 : ∀ (a2 : Int32), rec2 a2 = some out → WW M (gQi M G zM out σ) G zM 3 σ 2 [(0, .ref (G.2.1 0)), (1, .int c2_1), (2, .int a2)] []) (a2 : Int32) (hF : bX10_hasDrift_2 σ c2_1 rec2 a2 = some out) : WW M (gQi M G zM out σ) G zM 3 σ 2 [(0, .ref (G.2.1 0)), (1, .int c2_1), (2, .int a2)] [] := by
  unfold bX10_hasDrift_2 at hF
  refine ww_iload_n (pc := 2) X (j := 2) dX10_hasDrift_2 rfl rfl ?_
  refine ww_aload_n (pc := 3) X (j := 0) dX10_hasDrift_3 rfl rfl ?_
  obtain ⟨r3, h2, hF⟩ := bd_some hF
  refine ww_callVi (pc := 4) X (As := []) (rest := [.int a2]) dX10_hasDrift_4 (kX10_pictures (mL M) G X.2.2.2.2.2.2.1 X.2.2.2.2.2.2.2.1 σ r3 h2) rfl shzM_0 clzM_10 gX10_hasDrift_X10_pictures hyX10_pictures ⟨rfl, rfl⟩ ⟨Nat.le_of_ble_eq_true rfl, Nat.le_of_ble_eq_true rfl⟩ rfl rfl (Nat.le_of_ble_eq_true rfl) ?_
  refine ww_icmp_ge (pc := 7) (tgt := 35) X dX10_hasDrift_7 (by decide) hF (fun h4 hF => ?_) (fun h4 hF => ?_)
  · refine ww_iconst (pc := 35) X (v := 0) dX10_hasDrift_35 (by decide) ?_
    exact ww_zret (pc := 36) X dX10_hasDrift_36 (by cases hF; rfl) rfl
  · refine ww_aload_n (pc := 10) X (j := 0) dX10_hasDrift_10 rfl rfl ?_
    refine ww_iload_n (pc := 11) X (j := 2) dX10_hasDrift_11 rfl rfl ?_
    obtain ⟨r6, h5, hF⟩ := bd_some hF
    refine ww_callVi (pc := 12) X (As := [.int a2]) (rest := []) dX10_hasDrift_12 (kX10_strip (mL M) G X.2.2.2.2.2.2.1 X.2.2.2.2.2.2.2.1 σ a2 r6 h5) rfl shzM_0 clzM_10 gX10_hasDrift_X10_strip hyX10_strip ⟨rfl, rfl⟩ ⟨Nat.le_of_ble_eq_true rfl, Nat.le_of_ble_eq_true rfl⟩ rfl rfl (Nat.le_of_ble_eq_true rfl) ?_
    refine ww_iload_n (pc := 15) X (j := 1) dX10_hasDrift_15 rfl rfl ?_
    refine ww_icmp_ne (pc := 16) (tgt := 29) X dX10_hasDrift_16 (by decide) hF (fun h7 hF => ?_) (fun h7 hF => ?_)
    · refine ww_iinc (pc := 29) X (j := 2) (v := 1) (lv' := [(0, .ref (G.2.1 0)), (1, .int c2_1)]) dX10_hasDrift_29 rfl rfl (by decide) rfl hF (fun x8 ex8 hF => ?_)
      refine ww_goto (pc := 32) X (tgt := 2) dX10_hasDrift_32 (by decide) ?_
      exact ww_sub [1, 2, 0] rfl (ih2 x8 hF)
    · refine ww_aload_n (pc := 19) X (j := 0) dX10_hasDrift_19 rfl rfl ?_
      refine ww_iload_n (pc := 20) X (j := 2) dX10_hasDrift_20 rfl rfl ?_
      obtain ⟨r10, h9, hF⟩ := bd_some hF
      refine ww_callVi (pc := 21) X (As := [.int a2]) (rest := []) dX10_hasDrift_21 (kX10_centreOf (mL M) G X.2.2.2.2.2.2.1 X.2.2.2.2.2.2.2.1 σ a2 r10 h9) rfl shzM_0 clzM_10 gX10_hasDrift_X10_centreOf hyX10_centreOf ⟨rfl, rfl⟩ ⟨Nat.le_of_ble_eq_true rfl, Nat.le_of_ble_eq_true rfl⟩ rfl rfl (Nat.le_of_ble_eq_true rfl) ?_
      refine ww_if_le (pc := 24) (tgt := 29) X dX10_hasDrift_24 (by decide) hF (fun h11 hF => ?_) (fun h11 hF => ?_)
      · refine ww_iinc (pc := 29) X (j := 2) (v := 1) (lv' := [(0, .ref (G.2.1 0)), (1, .int c2_1)]) dX10_hasDrift_29 rfl rfl (by decide) rfl hF (fun x12 ex12 hF => ?_)
        refine ww_goto (pc := 32) X (tgt := 2) dX10_hasDrift_32 (by decide) ?_
        exact ww_sub [1, 2, 0] rfl (ih2 x12 hF)
      · refine ww_iconst (pc := 27) X (v := 1) dX10_hasDrift_27 (by decide) ?_
        exact ww_zret (pc := 28) X dX10_hasDrift_28 (by cases hF; rfl) rfl
set_option maxRecDepth 100000 in
set_option maxHeartbeats 4000000 in
theorem wX10_hasDrift {M : gM} {G : gG} {out : Int32} (X : gX M G zM cX10_hasDrift RX10 3 wsX10_hasDrift rmX10_hasDrift (some .boolean)) (σ : gS) (p1 : Int32) (hF : fX10_hasDrift σ p1 = some out) : WW M (gQi M G zM out σ) G zM 3 σ 0 [(0, .ref (G.2.1 0)), (1, .int p1)] [] := by
  unfold fX10_hasDrift at hF
  refine ww_iconst (pc := 0) X (v := 0) dX10_hasDrift_0 (by decide) ?_
  refine ww_istore_n (pc := 1) X (lv' := [(0, .ref (G.2.1 0)), (1, .int p1)]) dX10_hasDrift_1 rfl (by decide) rfl hF (fun x1 ex1 hF => ?_)
  exact ww_sub [1, 2, 0] rfl (lpc_ind (P := (fun (s : Int32) => WW M (gQi M G zM out σ) G zM 3 σ 2 [(0, .ref (G.2.1 0)), (1, .int p1), (2, .int s)] [])) (fun rec s ih hF => wbX10_hasDrift_2 X σ p1 (fun a2 => rec (a2)) (fun a2 h => ih (a2) h) s hF) K9 (x1) hF)
set_option maxRecDepth 100000 in
set_option maxHeartbeats 4000000 in
theorem kX10_hasDrift (l : Launch) (G : gG) (hG : gOK G zM.1) (hT : G.2.2.1.map (fun q => q.2) = zM.2.1) (σ : gS) (p1 : Int32) (out : Int32) (hF : fX10_hasDrift σ p1 = some out) : gCi l yX10_hasDrift wsX10_hasDrift rmX10_hasDrift G zM [.ref (G.2.1 0), .int p1] σ out σ :=
  gEnter (by decide) rfl ⟨rfl, rfl⟩ hG hT (Nat.le_of_ble_eq_true rfl) rfl (fun M X hl => wX10_hasDrift X σ p1 hF)
noncomputable def fX10_drift (σ : gS) (p1 : Int32) (p2 : Int32) : Option (Int32) :=
  gd (gb 6 12) <| nm (σ.1 15 ((6 : Int32).toNatClampNeg)) fun v1 => bd (fX10_isIn σ p1.toInt64 0 ((v1 - 1).toInt64)) fun r3 => (if r3 = 0 then some ((-1000000000)) else bd (fX10_isIn σ p2.toInt64 0 1) fun r6 => (if r6 = 0 then some ((-1000000000)) else bd (fX10_hasDrift σ p1) fun r9 => (if r9 = 0 then some ((-1000000000)) else gd (gb (((38 * p2) + 32) + p1) 76) <| nm (σ.1 28 (((38 * p2) + 32) + p1).toNatClampNeg) fun v11 => some v11)))
noncomputable abbrev rmX10_drift : Room := { frames := 2, cells := 0, slots := 0, locals := 43 }
set_option maxRecDepth 100000 in
set_option maxHeartbeats 4000000 in
theorem wX10_drift {M : gM} {G : gG} {out : Int32} (X : gX M G zM cX10_drift RX10 3 wsX10_drift rmX10_drift (some .int)) (σ : gS) (p1 : Int32) (p2 : Int32) (hF : fX10_drift σ p1 p2 = some out) : WW M (gQi M G zM out σ) G zM 3 σ 0 [(0, .ref (G.2.1 0)), (1, .int p1), (2, .int p2)] [] := by
  unfold fX10_drift at hF
  refine ww_iload_n (pc := 0) X (j := 1) dX10_drift_0 rfl rfl ?_
  refine ww_i2l (pc := 1) X dX10_drift_1 ?_
  refine ww_lconst (pc := 2) X (v := 0) dX10_drift_2 (by decide) ?_
  refine ww_aload_n (pc := 3) X (j := 0) dX10_drift_3 rfl rfl ?_
  refine ww_get (pc := 4) X (ref := "PictureBlockModel") (T := TX10) (j := 23) dX10_drift_4 inX10_drift_RX10 shzM_0 clzM_10 (by decide) rfl (List.mem_of_getElem? (i := 1) rfl) rfl ?_
  refine ww_bipush (pc := 7) X (v := 6) dX10_drift_7 (by decide) ?_
  refine ww_iald (pc := 9) X dX10_drift_9 shzM_15 rfl hF (fun v1 ev1 bv1 hF => ?_)
  refine ww_iconst (pc := 10) X (v := 1) dX10_drift_10 (by decide) ?_
  refine ww_isub (pc := 11) X dX10_drift_11 ?_
  refine ww_i2l (pc := 12) X dX10_drift_12 ?_
  obtain ⟨r3, h2, hF⟩ := bd_some hF
  refine ww_callSi (pc := 13) X (As := [.long p1.toInt64, .long 0, .long ((v1 - 1).toInt64)]) (rest := []) dX10_drift_13 (kX10_isIn (mL M) G X.2.2.2.2.2.2.1 X.2.2.2.2.2.2.2.1 σ p1.toInt64 0 ((v1 - 1).toInt64) r3 h2) rfl gX10_drift_X10_isIn hyX10_isIn ⟨rfl, rfl⟩ ⟨Nat.le_of_ble_eq_true rfl, Nat.le_of_ble_eq_true rfl⟩ rfl rfl (Nat.le_of_ble_eq_true rfl) ?_
  refine ww_if_eq (pc := 16) (tgt := 54) X dX10_drift_16 (by decide) hF (fun h4 hF => ?_) (fun h4 hF => ?_)
  · refine ww_ldcw (pc := 54) X (v := (-1000000000)) (List.mem_of_getElem? (i := 3) rfl) dX10_drift_54 ?_
    exact ww_iret (pc := 57) X dX10_drift_57 (Option.some.inj hF) rfl
  · refine ww_iload_n (pc := 19) X (j := 2) dX10_drift_19 rfl rfl ?_
    refine ww_i2l (pc := 20) X dX10_drift_20 ?_
    refine ww_lconst (pc := 21) X (v := 0) dX10_drift_21 (by decide) ?_
    refine ww_lconst (pc := 22) X (v := 1) dX10_drift_22 (by decide) ?_
    obtain ⟨r6, h5, hF⟩ := bd_some hF
    refine ww_callSi (pc := 23) X (As := [.long p2.toInt64, .long 0, .long 1]) (rest := []) dX10_drift_23 (kX10_isIn (mL M) G X.2.2.2.2.2.2.1 X.2.2.2.2.2.2.2.1 σ p2.toInt64 0 1 r6 h5) rfl gX10_drift_X10_isIn hyX10_isIn ⟨rfl, rfl⟩ ⟨Nat.le_of_ble_eq_true rfl, Nat.le_of_ble_eq_true rfl⟩ rfl rfl (Nat.le_of_ble_eq_true rfl) ?_
    refine ww_if_eq (pc := 26) (tgt := 54) X dX10_drift_26 (by decide) hF (fun h7 hF => ?_) (fun h7 hF => ?_)
    · refine ww_ldcw (pc := 54) X (v := (-1000000000)) (List.mem_of_getElem? (i := 3) rfl) dX10_drift_54 ?_
      exact ww_iret (pc := 57) X dX10_drift_57 (Option.some.inj hF) rfl
    · refine ww_aload_n (pc := 29) X (j := 0) dX10_drift_29 rfl rfl ?_
      refine ww_iload_n (pc := 30) X (j := 1) dX10_drift_30 rfl rfl ?_
      obtain ⟨r9, h8, hF⟩ := bd_some hF
      refine ww_callVi (pc := 31) X (As := [.int p1]) (rest := []) dX10_drift_31 (kX10_hasDrift (mL M) G X.2.2.2.2.2.2.1 X.2.2.2.2.2.2.2.1 σ p1 r9 h8) rfl shzM_0 clzM_10 gX10_drift_X10_hasDrift hyX10_hasDrift ⟨rfl, rfl⟩ ⟨Nat.le_of_ble_eq_true rfl, Nat.le_of_ble_eq_true rfl⟩ rfl rfl (Nat.le_of_ble_eq_true rfl) ?_
      refine ww_if_eq (pc := 34) (tgt := 54) X dX10_drift_34 (by decide) hF (fun h10 hF => ?_) (fun h10 hF => ?_)
      · refine ww_ldcw (pc := 54) X (v := (-1000000000)) (List.mem_of_getElem? (i := 3) rfl) dX10_drift_54 ?_
        exact ww_iret (pc := 57) X dX10_drift_57 (Option.some.inj hF) rfl
      · refine ww_aload_n (pc := 37) X (j := 0) dX10_drift_37 rfl rfl ?_
        refine ww_get (pc := 38) X (ref := "PictureBlockModel") (T := TX10) (j := 38) dX10_drift_38 inX10_drift_RX10 shzM_0 clzM_10 (by decide) rfl (List.mem_of_getElem? (i := 2) rfl) rfl ?_
        refine ww_bipush (pc := 41) X (v := 38) dX10_drift_41 (by decide) ?_
        refine ww_iload_n (pc := 43) X (j := 2) dX10_drift_43 rfl rfl ?_
        refine ww_imul (pc := 44) X dX10_drift_44 ?_
        refine ww_bipush (pc := 45) X (v := 32) dX10_drift_45 (by decide) ?_
        refine ww_iadd (pc := 47) X dX10_drift_47 ?_
        refine ww_iload_n (pc := 48) X (j := 1) dX10_drift_48 rfl rfl ?_
        refine ww_iadd (pc := 49) X dX10_drift_49 ?_
        refine ww_iald (pc := 50) X dX10_drift_50 shzM_28 rfl hF (fun v11 ev11 bv11 hF => ?_)
        refine ww_goto (pc := 51) X (tgt := 57) dX10_drift_51 (by decide) ?_
        exact ww_iret (pc := 57) X dX10_drift_57 (Option.some.inj hF) rfl
set_option maxRecDepth 100000 in
set_option maxHeartbeats 4000000 in
theorem kX10_drift (l : Launch) (G : gG) (hG : gOK G zM.1) (hT : G.2.2.1.map (fun q => q.2) = zM.2.1) (σ : gS) (p1 : Int32) (p2 : Int32) (out : Int32) (hF : fX10_drift σ p1 p2 = some out) : gCi l yX10_drift wsX10_drift rmX10_drift G zM [.ref (G.2.1 0), .int p1, .int p2] σ out σ :=
  gEnter (by decide) rfl ⟨rfl, rfl⟩ hG hT (Nat.le_of_ble_eq_true rfl) rfl (fun M X hl => wX10_drift X σ p1 p2 hF)
noncomputable def fX10_start (σ : gS) : Option (Int32 × gS) :=
  bd2 (fX10_starts σ) fun r2 σ3 => some (r2, σ3)
noncomputable abbrev rmX10_start : Room := { frames := 6, cells := 0, slots := 0, locals := 146 }
set_option maxRecDepth 100000 in
set_option maxHeartbeats 4000000 in
theorem wX10_start {M : gM} {G : gG} {out : Int32 × gS} (X : gX M G zM cX10_start RX10 1 wsX10_start rmX10_start (some .int)) (σ : gS) (hF : fX10_start σ = some out) : WW M (gQi M G zM out.1 out.2) G zM 1 σ 0 [(0, .ref (G.2.1 0))] [] := by
  unfold fX10_start at hF
  refine ww_aload_n (pc := 0) X (j := 0) dX10_start_0 rfl rfl ?_
  obtain ⟨r2, σ3, h1, hF⟩ := bd2_some hF
  refine ww_callVi (pc := 1) X (As := []) (rest := []) dX10_start_1 (kX10_starts (mL M) G X.2.2.2.2.2.2.1 X.2.2.2.2.2.2.2.1 σ (r2, σ3) h1) rfl shzM_0 clzM_10 gX10_start_X10_starts hyX10_starts ⟨rfl, rfl⟩ ⟨Nat.le_of_ble_eq_true rfl, Nat.le_of_ble_eq_true rfl⟩ rfl rfl (Nat.le_of_ble_eq_true rfl) ?_
  exact ww_iret (pc := 4) X dX10_start_4 (fst_of hF) (snd_of hF)
set_option maxRecDepth 100000 in
set_option maxHeartbeats 4000000 in
theorem kX10_start (l : Launch) (G : gG) (hG : gOK G zM.1) (hT : G.2.2.1.map (fun q => q.2) = zM.2.1) (σ : gS) (out : Int32 × gS) (hF : fX10_start σ = some out) : gCi l yX10_start wsX10_start rmX10_start G zM [.ref (G.2.1 0)] σ out.1 out.2 :=
  gEnter (by decide) rfl ⟨rfl, rfl⟩ hG hT (Nat.le_of_ble_eq_true rfl) rfl (fun M X hl => wX10_start X σ hF)
noncomputable def fX10_noMean (σ : gS) : Option (gS) :=
  nm (gsL σ 0 40 0) fun σ1 => nm (gsI σ1 0 41 0) fun σ2 => some σ2
noncomputable abbrev rmX10_noMean : Room := { frames := 0, cells := 0, slots := 0, locals := 0 }
set_option maxRecDepth 100000 in
set_option maxHeartbeats 4000000 in
theorem wX10_noMean {M : gM} {G : gG} {out : gS} (X : gX M G zM cX10_noMean RX10 1 wsX10_noMean rmX10_noMean none) (σ : gS) (hF : fX10_noMean σ = some out) : WW M (gQv M G zM out) G zM 1 σ 0 [(0, .ref (G.2.1 0))] [] := by
  unfold fX10_noMean at hF
  refine ww_aload_n (pc := 0) X (j := 0) dX10_noMean_0 rfl rfl ?_
  refine ww_lconst (pc := 1) X (v := 0) dX10_noMean_1 (by decide) ?_
  refine ww_putL (pc := 2) X (ref := "PictureBlockModel") (T := TX10) (j := 40) dX10_noMean_2 inX10_noMean_RX10 tyX10 tyX10_ok nmX10 shzM_0 clzM_10 (by decide) rfl (List.mem_of_getElem? (i := 1) rfl) rfl rfl (by decide +kernel) hF (fun σ1 eσ1 hF => ?_)
  refine ww_aload_n (pc := 5) X (j := 0) dX10_noMean_5 rfl rfl ?_
  refine ww_iconst (pc := 6) X (v := 0) dX10_noMean_6 (by decide) ?_
  refine ww_putI (pc := 7) X (ref := "PictureBlockModel") (T := TX10) (j := 41) dX10_noMean_7 inX10_noMean_RX10 tyX10 tyX10_ok nmX10 shzM_0 clzM_10 (by decide) rfl (List.mem_of_getElem? (i := 2) rfl) rfl rfl (by decide +kernel) hF (fun σ2 eσ2 hF => ?_)
  exact ww_vret (pc := 10) X dX10_noMean_10 (by cases hF; rfl)
set_option maxRecDepth 100000 in
set_option maxHeartbeats 4000000 in
theorem kX10_noMean (l : Launch) (G : gG) (hG : gOK G zM.1) (hT : G.2.2.1.map (fun q => q.2) = zM.2.1) (σ : gS) (out : gS) (hF : fX10_noMean σ = some out) : gCv l yX10_noMean wsX10_noMean rmX10_noMean G zM [.ref (G.2.1 0)] σ out :=
  gEnter (by decide) rfl ⟨rfl, rfl⟩ hG hT (Nat.le_of_ble_eq_true rfl) rfl (fun M X hl => wX10_noMean X σ hF)
noncomputable def jX10_becomes_105 (σ : gS) (a1 : Int32) (a2 : Int64) (a6 : Int32) : Option (Int32 × gS) :=
  gd (gb a1 76) <| nm (gsI σ 28 a1.toNatClampNeg a2.toInt32) fun σ11 => gd (gb a1 76) <| nm (σ11.1 28 a1.toNatClampNeg) fun v12 => (if a6 = v12 then some (0, σ11) else some (1, σ11))
noncomputable def jX10_becomes_53 (σ : gS) (a1 : Int32) (a2 : Int64) (a4 : Int64) : Option (Int32 × gS) :=
  gd (gb a1 76) <| nm (σ.1 28 a1.toNatClampNeg) fun v7 => nm (v7 : Int32) fun x8 => (if ((σ.1 0 41).toInt64) < (2 * a4) then nm (a2 + 1 : Int64) fun x10 => jX10_becomes_105 σ a1 x10 x8 else if (2 * a4) = ((σ.1 0 41).toInt64) then if x8.toInt64 = (a2 + 1) then nm (a2 + 1 : Int64) fun x16 => jX10_becomes_105 σ a1 x16 x8 else jX10_becomes_105 σ a1 a2 x8 else jX10_becomes_105 σ a1 a2 x8)
noncomputable def fX10_becomes (σ : gS) (p1 : Int32) : Option (Int32 × gS) :=
  if (σ.1 0 41) = 0 then some (0, σ) else gd (decide (¬ ((σ.1 0 41).toInt64) = 0)) <| nm ((σ.2 0 40) / ((σ.1 0 41).toInt64) : Int64) fun x3 => gd (decide (¬ ((σ.1 0 41).toInt64) = 0)) <| nm (lrm (σ.2 0 40) ((σ.1 0 41).toInt64) : Int64) fun x5 => (if 0 ≤ x5 then jX10_becomes_53 σ p1 x3 x5 else nm (x3 - 1 : Int64) fun x17 => nm (x5 + ((σ.1 0 41).toInt64) : Int64) fun x18 => jX10_becomes_53 σ p1 x17 x18)
noncomputable abbrev rmX10_becomes : Room := { frames := 0, cells := 0, slots := 0, locals := 0 }
set_option maxRecDepth 100000 in
set_option maxHeartbeats 4000000 in
theorem wjX10_becomes_105 {M : gM} {G : gG} {out : Int32 × gS} (X : gX M G zM cX10_becomes RX10 7 wsX10_becomes rmX10_becomes (some .boolean)) (σ : gS) (a1 : Int32) (a2 : Int64) (a6 : Int32) (hF : jX10_becomes_105 σ a1 a2 a6 = some out) : WW M (gQi M G zM out.1 out.2) G zM 7 σ 105 [(0, .ref (G.2.1 0)), (1, .int a1), (2, .long a2), (6, .int a6)] [] := by
  unfold jX10_becomes_105 at hF
  refine ww_aload_n (pc := 105) X (j := 0) dX10_becomes_105 rfl rfl ?_
  refine ww_get (pc := 106) X (ref := "PictureBlockModel") (T := TX10) (j := 38) dX10_becomes_106 inX10_becomes_RX10 shzM_0 clzM_10 (by decide) rfl (List.mem_of_getElem? (i := 3) rfl) rfl ?_
  refine ww_iload_n (pc := 109) X (j := 1) dX10_becomes_109 rfl rfl ?_
  refine ww_lload_n (pc := 110) X (j := 2) dX10_becomes_110 rfl rfl ?_
  refine ww_l2i (pc := 111) X dX10_becomes_111 ?_
  refine ww_iast (pc := 112) X dX10_becomes_112 shzM_28 rfl hF (fun σ11 eσ11 bσ11 hF => ?_)
  refine ww_iload (pc := 113) X (j := 3) dX10_becomes_113 rfl ?_
  refine ww_aload_n (pc := 115) X (j := 0) dX10_becomes_115 rfl rfl ?_
  refine ww_get (pc := 116) X (ref := "PictureBlockModel") (T := TX10) (j := 38) dX10_becomes_116 inX10_becomes_RX10 shzM_0 clzM_10 (by decide) rfl (List.mem_of_getElem? (i := 3) rfl) rfl ?_
  refine ww_iload_n (pc := 119) X (j := 1) dX10_becomes_119 rfl rfl ?_
  refine ww_iald (pc := 120) X dX10_becomes_120 shzM_28 rfl hF (fun v12 ev12 bv12 hF => ?_)
  refine ww_icmp_eq (pc := 121) (tgt := 128) X dX10_becomes_121 (by decide) hF (fun h13 hF => ?_) (fun h13 hF => ?_)
  · refine ww_iconst (pc := 128) X (v := 0) dX10_becomes_128 (by decide) ?_
    exact ww_zret (pc := 129) X dX10_becomes_129 (by cases hF; rfl) (by cases hF; rfl)
  · refine ww_iconst (pc := 124) X (v := 1) dX10_becomes_124 (by decide) ?_
    refine ww_goto (pc := 125) X (tgt := 129) dX10_becomes_125 (by decide) ?_
    exact ww_zret (pc := 129) X dX10_becomes_129 (by cases hF; rfl) (by cases hF; rfl)
set_option maxRecDepth 100000 in
set_option maxHeartbeats 4000000 in
theorem wjX10_becomes_53 {M : gM} {G : gG} {out : Int32 × gS} (X : gX M G zM cX10_becomes RX10 7 wsX10_becomes rmX10_becomes (some .boolean)) (σ : gS) (a1 : Int32) (a2 : Int64) (a4 : Int64) (hF : jX10_becomes_53 σ a1 a2 a4 = some out) : WW M (gQi M G zM out.1 out.2) G zM 7 σ 53 [(0, .ref (G.2.1 0)), (1, .int a1), (2, .long a2), (4, .long a4)] [] := by
  unfold jX10_becomes_53 at hF
  refine ww_aload_n (pc := 53) X (j := 0) dX10_becomes_53 rfl rfl ?_
  refine ww_get (pc := 54) X (ref := "PictureBlockModel") (T := TX10) (j := 38) dX10_becomes_54 inX10_becomes_RX10 shzM_0 clzM_10 (by decide) rfl (List.mem_of_getElem? (i := 3) rfl) rfl ?_
  refine ww_iload_n (pc := 57) X (j := 1) dX10_becomes_57 rfl rfl ?_
  refine ww_iald (pc := 58) X dX10_becomes_58 shzM_28 rfl hF (fun v7 ev7 bv7 hF => ?_)
  refine ww_istore (pc := 59) X (lv' := [(0, .ref (G.2.1 0)), (1, .int a1), (2, .long a2), (4, .long a4)]) dX10_becomes_59 (by decide) rfl hF (fun x8 ex8 hF => ?_)
  refine ww_ldc2 (pc := 61) X (v := 2) (List.mem_of_getElem? (i := 4) rfl) dX10_becomes_61 ?_
  refine ww_lload (pc := 64) X (j := 4) dX10_becomes_64 rfl ?_
  refine ww_lmul (pc := 66) X dX10_becomes_66 ?_
  refine ww_aload_n (pc := 67) X (j := 1) dX10_becomes_67 rfl rfl ?_
  refine ww_get (pc := 68) X (ref := "PictureBlockModel") (T := TX10) (j := 41) dX10_becomes_68 inX10_becomes_RX10 shzM_0 clzM_10 (by decide) rfl (List.mem_of_getElem? (i := 1) rfl) rfl ?_
  refine ww_i2l (pc := 71) X dX10_becomes_71 ?_
  refine ww_lcmp_gt (pc := 72) (tgt := 101) X dX10_becomes_72 dX10_becomes_73 (by decide) hF (fun h9 hF => ?_) (fun h9 hF => ?_)
  · refine ww_lload_n (pc := 101) X (j := 3) dX10_becomes_101 rfl rfl ?_
    refine ww_lconst (pc := 102) X (v := 1) dX10_becomes_102 (by decide) ?_
    refine ww_ladd (pc := 103) X dX10_becomes_103 ?_
    refine ww_lstore_n (pc := 104) X (lv' := [(6, .int x8), (0, .ref (G.2.1 0)), (1, .int a1), (4, .long a4)]) dX10_becomes_104 rfl (by decide) rfl hF (fun x10 ex10 hF => ?_)
    exact ww_sub [2, 3, 0, 1] rfl (wjX10_becomes_105 X σ a1 x10 x8 hF)
  · refine ww_ldc2 (pc := 76) X (v := 2) (List.mem_of_getElem? (i := 4) rfl) dX10_becomes_76 ?_
    refine ww_lload (pc := 79) X (j := 4) dX10_becomes_79 rfl ?_
    refine ww_lmul (pc := 81) X dX10_becomes_81 ?_
    refine ww_aload_n (pc := 82) X (j := 1) dX10_becomes_82 rfl rfl ?_
    refine ww_get (pc := 83) X (ref := "PictureBlockModel") (T := TX10) (j := 41) dX10_becomes_83 inX10_becomes_RX10 shzM_0 clzM_10 (by decide) rfl (List.mem_of_getElem? (i := 1) rfl) rfl ?_
    refine ww_i2l (pc := 86) X dX10_becomes_86 ?_
    refine ww_lcmp_ne (pc := 87) (tgt := 105) X dX10_becomes_87 dX10_becomes_88 (by decide) hF (fun h14 hF => ?_) (fun h14 hF => ?_)
    · exact ww_sub [1, 2, 3, 0] rfl (wjX10_becomes_105 X σ a1 a2 x8 hF)
    · refine ww_iload (pc := 91) X (j := 0) dX10_becomes_91 rfl ?_
      refine ww_i2l (pc := 93) X dX10_becomes_93 ?_
      refine ww_lload_n (pc := 94) X (j := 3) dX10_becomes_94 rfl rfl ?_
      refine ww_lconst (pc := 95) X (v := 1) dX10_becomes_95 (by decide) ?_
      refine ww_ladd (pc := 96) X dX10_becomes_96 ?_
      refine ww_lcmp_ne (pc := 97) (tgt := 105) X dX10_becomes_97 dX10_becomes_98 (by decide) hF (fun h15 hF => ?_) (fun h15 hF => ?_)
      · exact ww_sub [1, 2, 3, 0] rfl (wjX10_becomes_105 X σ a1 a2 x8 hF)
      · refine ww_lload_n (pc := 101) X (j := 3) dX10_becomes_101 rfl rfl ?_
        refine ww_lconst (pc := 102) X (v := 1) dX10_becomes_102 (by decide) ?_
        refine ww_ladd (pc := 103) X dX10_becomes_103 ?_
        refine ww_lstore_n (pc := 104) X (lv' := [(6, .int x8), (0, .ref (G.2.1 0)), (1, .int a1), (4, .long a4)]) dX10_becomes_104 rfl (by decide) rfl hF (fun x16 ex16 hF => ?_)
        exact ww_sub [2, 3, 0, 1] rfl (wjX10_becomes_105 X σ a1 x16 x8 hF)
set_option maxRecDepth 100000 in
set_option maxHeartbeats 4000000 in
theorem wX10_becomes {M : gM} {G : gG} {out : Int32 × gS} (X : gX M G zM cX10_becomes RX10 7 wsX10_becomes rmX10_becomes (some .boolean)) (σ : gS) (p1 : Int32) (hF : fX10_becomes σ p1 = some out) : WW M (gQi M G zM out.1 out.2) G zM 7 σ 0 [(0, .ref (G.2.1 0)), (1, .int p1)] [] := by
  unfold fX10_becomes at hF
  refine ww_aload_n (pc := 0) X (j := 0) dX10_becomes_0 rfl rfl ?_
  refine ww_get (pc := 1) X (ref := "PictureBlockModel") (T := TX10) (j := 41) dX10_becomes_1 inX10_becomes_RX10 shzM_0 clzM_10 (by decide) rfl (List.mem_of_getElem? (i := 1) rfl) rfl ?_
  refine ww_if_ne (pc := 4) (tgt := 9) X dX10_becomes_4 (by decide) hF (fun h1 hF => ?_) (fun h1 hF => ?_)
  · refine ww_aload_n (pc := 9) X (j := 0) dX10_becomes_9 rfl rfl ?_
    refine ww_get (pc := 10) X (ref := "PictureBlockModel") (T := TX10) (j := 40) dX10_becomes_10 inX10_becomes_RX10 shzM_0 clzM_10 (by decide) rfl (List.mem_of_getElem? (i := 2) rfl) rfl ?_
    refine ww_aload_n (pc := 13) X (j := 0) dX10_becomes_13 rfl rfl ?_
    refine ww_get (pc := 14) X (ref := "PictureBlockModel") (T := TX10) (j := 41) dX10_becomes_14 inX10_becomes_RX10 shzM_0 clzM_10 (by decide) rfl (List.mem_of_getElem? (i := 1) rfl) rfl ?_
    refine ww_i2l (pc := 17) X dX10_becomes_17 ?_
    refine ww_ldivG (pc := 18) X dX10_becomes_18 hF (fun h2 hF => ?_)
    refine ww_lstore_n (pc := 19) X (lv' := [(0, .ref (G.2.1 0)), (1, .int p1)]) dX10_becomes_19 rfl (by decide) rfl hF (fun x3 ex3 hF => ?_)
    refine ww_aload_n (pc := 20) X (j := 1) dX10_becomes_20 rfl rfl ?_
    refine ww_get (pc := 21) X (ref := "PictureBlockModel") (T := TX10) (j := 40) dX10_becomes_21 inX10_becomes_RX10 shzM_0 clzM_10 (by decide) rfl (List.mem_of_getElem? (i := 2) rfl) rfl ?_
    refine ww_aload_n (pc := 24) X (j := 1) dX10_becomes_24 rfl rfl ?_
    refine ww_get (pc := 25) X (ref := "PictureBlockModel") (T := TX10) (j := 41) dX10_becomes_25 inX10_becomes_RX10 shzM_0 clzM_10 (by decide) rfl (List.mem_of_getElem? (i := 1) rfl) rfl ?_
    refine ww_i2l (pc := 28) X dX10_becomes_28 ?_
    refine ww_lremG (pc := 29) X dX10_becomes_29 hF (fun h4 hF => ?_)
    refine ww_lstore (pc := 30) X (lv' := [(2, .long x3), (0, .ref (G.2.1 0)), (1, .int p1)]) dX10_becomes_30 (by decide) rfl hF (fun x5 ex5 hF => ?_)
    refine ww_lload (pc := 32) X (j := 0) dX10_becomes_32 rfl ?_
    refine ww_lconst (pc := 34) X (v := 0) dX10_becomes_34 (by decide) ?_
    refine ww_lcmp_ge (pc := 35) (tgt := 53) X dX10_becomes_35 dX10_becomes_36 (by decide) hF (fun h6 hF => ?_) (fun h6 hF => ?_)
    · exact ww_sub [2, 3, 1, 0] rfl (wjX10_becomes_53 X σ p1 x3 x5 hF)
    · refine ww_lload_n (pc := 39) X (j := 1) dX10_becomes_39 rfl rfl ?_
      refine ww_lconst (pc := 40) X (v := 1) dX10_becomes_40 (by decide) ?_
      refine ww_lsub (pc := 41) X dX10_becomes_41 ?_
      refine ww_lstore_n (pc := 42) X (lv' := [(4, .long x5), (0, .ref (G.2.1 0)), (1, .int p1)]) dX10_becomes_42 rfl (by decide) rfl hF (fun x17 ex17 hF => ?_)
      refine ww_lload (pc := 43) X (j := 1) dX10_becomes_43 rfl ?_
      refine ww_aload_n (pc := 45) X (j := 2) dX10_becomes_45 rfl rfl ?_
      refine ww_get (pc := 46) X (ref := "PictureBlockModel") (T := TX10) (j := 41) dX10_becomes_46 inX10_becomes_RX10 shzM_0 clzM_10 (by decide) rfl (List.mem_of_getElem? (i := 1) rfl) rfl ?_
      refine ww_i2l (pc := 49) X dX10_becomes_49 ?_
      refine ww_ladd (pc := 50) X dX10_becomes_50 ?_
      refine ww_lstore (pc := 51) X (lv' := [(2, .long x17), (0, .ref (G.2.1 0)), (1, .int p1)]) dX10_becomes_51 (by decide) rfl hF (fun x18 ex18 hF => ?_)
      exact ww_sub [2, 3, 1, 0] rfl (wjX10_becomes_53 X σ p1 x17 x18 hF)
  · refine ww_iconst (pc := 7) X (v := 0) dX10_becomes_7 (by decide) ?_
    exact ww_zret (pc := 8) X dX10_becomes_8 (by cases hF; rfl) (by cases hF; rfl)
set_option maxRecDepth 100000 in
set_option maxHeartbeats 4000000 in
theorem kX10_becomes (l : Launch) (G : gG) (hG : gOK G zM.1) (hT : G.2.2.1.map (fun q => q.2) = zM.2.1) (σ : gS) (p1 : Int32) (out : Int32 × gS) (hF : fX10_becomes σ p1 = some out) : gCi l yX10_becomes wsX10_becomes rmX10_becomes G zM [.ref (G.2.1 0), .int p1] σ out.1 out.2 :=
  gEnter (by decide) rfl ⟨rfl, rfl⟩ hG hT (Nat.le_of_ble_eq_true rfl) rfl (fun M X hl => wX10_becomes X σ p1 hF)
noncomputable def fX10_mean (σ : gS) (p1 : Int32) (p2 : Int32) : Option (gS) :=
  nm (gsL σ 0 40 ((σ.2 0 40) + (p1.toInt64 * p2.toInt64))) fun σ1 => nm (gsI σ1 0 41 ((σ1.1 0 41) + p1)) fun σ2 => some σ2
noncomputable abbrev rmX10_mean : Room := { frames := 0, cells := 0, slots := 0, locals := 0 }
set_option maxRecDepth 100000 in
set_option maxHeartbeats 4000000 in
theorem wX10_mean {M : gM} {G : gG} {out : gS} (X : gX M G zM cX10_mean RX10 3 wsX10_mean rmX10_mean none) (σ : gS) (p1 : Int32) (p2 : Int32) (hF : fX10_mean σ p1 p2 = some out) : WW M (gQv M G zM out) G zM 3 σ 0 [(0, .ref (G.2.1 0)), (1, .int p1), (2, .int p2)] [] := by
  unfold fX10_mean at hF
  refine ww_aload_n (pc := 0) X (j := 0) dX10_mean_0 rfl rfl ?_
  refine ww_dup (pc := 1) X dX10_mean_1 rfl ?_
  refine ww_get (pc := 2) X (ref := "PictureBlockModel") (T := TX10) (j := 40) dX10_mean_2 inX10_mean_RX10 shzM_0 clzM_10 (by decide) rfl (List.mem_of_getElem? (i := 1) rfl) rfl ?_
  refine ww_iload_n (pc := 5) X (j := 1) dX10_mean_5 rfl rfl ?_
  refine ww_i2l (pc := 6) X dX10_mean_6 ?_
  refine ww_iload_n (pc := 7) X (j := 2) dX10_mean_7 rfl rfl ?_
  refine ww_i2l (pc := 8) X dX10_mean_8 ?_
  refine ww_lmul (pc := 9) X dX10_mean_9 ?_
  refine ww_ladd (pc := 10) X dX10_mean_10 ?_
  refine ww_putL (pc := 11) X (ref := "PictureBlockModel") (T := TX10) (j := 40) dX10_mean_11 inX10_mean_RX10 tyX10 tyX10_ok nmX10 shzM_0 clzM_10 (by decide) rfl (List.mem_of_getElem? (i := 1) rfl) rfl rfl (by decide +kernel) hF (fun σ1 eσ1 hF => ?_)
  refine ww_aload_n (pc := 14) X (j := 0) dX10_mean_14 rfl rfl ?_
  refine ww_dup (pc := 15) X dX10_mean_15 rfl ?_
  refine ww_get (pc := 16) X (ref := "PictureBlockModel") (T := TX10) (j := 41) dX10_mean_16 inX10_mean_RX10 shzM_0 clzM_10 (by decide) rfl (List.mem_of_getElem? (i := 2) rfl) rfl ?_
  refine ww_iload_n (pc := 19) X (j := 1) dX10_mean_19 rfl rfl ?_
  refine ww_iadd (pc := 20) X dX10_mean_20 ?_
  refine ww_putI (pc := 21) X (ref := "PictureBlockModel") (T := TX10) (j := 41) dX10_mean_21 inX10_mean_RX10 tyX10 tyX10_ok nmX10 shzM_0 clzM_10 (by decide) rfl (List.mem_of_getElem? (i := 2) rfl) rfl rfl (by decide +kernel) hF (fun σ2 eσ2 hF => ?_)
  exact ww_vret (pc := 24) X dX10_mean_24 (by cases hF; rfl)
set_option maxRecDepth 100000 in
set_option maxHeartbeats 4000000 in
theorem kX10_mean (l : Launch) (G : gG) (hG : gOK G zM.1) (hT : G.2.2.1.map (fun q => q.2) = zM.2.1) (σ : gS) (p1 : Int32) (p2 : Int32) (out : gS) (hF : fX10_mean σ p1 p2 = some out) : gCv l yX10_mean wsX10_mean rmX10_mean G zM [.ref (G.2.1 0), .int p1, .int p2] σ out :=
  gEnter (by decide) rfl ⟨rfl, rfl⟩ hG hT (Nat.le_of_ble_eq_true rfl) rfl (fun M X hl => wX10_mean X σ p1 p2 hF)
noncomputable def bX10_isDriftAltered_6 (σ : gS) (c6_1 : Int32) (c6_2 : Int32) (rec6 : Int32 → gS → Option (Int32 × gS)) (a3 : Int32) (σ1 : gS) : Option (Int32 × gS) :=
  bd (fX10_pictures σ1) fun r5 => (if r5 ≤ a3 then bd2 (fX10_becomes σ1 (((38 * c6_2) + 32) + c6_1)) fun r8 σ9 => some (vp_nar .boolean r8, σ9) else bd (fX10_strip σ1 a3) fun r11 => (if r11 = c6_1 then bd (fX10_centreOf σ1 a3) fun r15 => (if r15 ≤ 0 then nm (a3 + 1 : Int32) fun x17 => rec6 x17 σ1 else bd (fX10_centreOf σ1 a3) fun r19 => gd (gb ((38 * c6_2) + a3) 76) <| nm (σ1.1 28 ((38 * c6_2) + a3).toNatClampNeg) fun v20 => gd (gb ((24 + (2 * a3)) + c6_2) 48) <| nm (σ1.1 19 ((24 + (2 * a3)) + c6_2).toNatClampNeg) fun v21 => bd (fX10_mean σ1 r19 (v20 - (100 * v21))) fun σ23 => nm (a3 + 1 : Int32) fun x24 => rec6 x24 σ23) else nm (a3 + 1 : Int32) fun x13 => rec6 x13 σ1))
noncomputable def fX10_isDriftAltered (σ : gS) (p1 : Int32) (p2 : Int32) : Option (Int32 × gS) :=
  bd (fX10_noMean σ) fun σ2 => nm (0 : Int32) fun x3 => lpc (S := Int32 × gS) K9 (fun rec s => bX10_isDriftAltered_6 σ2 p1 p2 (fun a3 σ1 => rec (a3, σ1)) s.1 s.2) (x3, σ2)
noncomputable abbrev rmX10_isDriftAltered : Room := { frames := 1, cells := 0, slots := 0, locals := 26 }
set_option maxRecDepth 100000 in
set_option maxHeartbeats 4000000 in
theorem wbX10_isDriftAltered_6 {M : gM} {G : gG} {out : Int32 × gS} (X : gX M G zM cX10_isDriftAltered RX10 4 wsX10_isDriftAltered rmX10_isDriftAltered (some .boolean)) (σ : gS) (c6_1 : Int32) (c6_2 : Int32) (rec6 : Int32 → gS → Option (Int32 × gS)) (ih6 : ∀ (a3 : Int32) (σ1 : gS), rec6 a3 σ1 = some out → WW M (gQi M G zM out.1 out.2) G zM 4 σ1 6 [(0, .ref (G.2.1 0)), (1, .int c6_1), (2, .int c6_2), (3, .int a3)] []) (a3 : Int32) (σ1 : gS) (hF : bX10_isDriftAltered_6 σ c6_1 c6_2 rec6 a3 σ1 = some out) : WW M (gQi M G zM out.1 out.2) G zM 4 σ1 6 [(0, .ref (G.2.1 0)), (1, .int c6_1), (2, .int c6_2), (3, .int a3)] [] := by
  unfold bX10_isDriftAltered_6 at hF
  refine ww_iload_n (pc := 6) X (j := 3) dX10_isDriftAltered_6 rfl rfl ?_
  refine ww_aload_n (pc := 7) X (j := 0) dX10_isDriftAltered_7 rfl rfl ?_
  obtain ⟨r5, h4, hF⟩ := bd_some hF
  refine ww_callVi (pc := 8) X (As := []) (rest := [.int a3]) dX10_isDriftAltered_8 (kX10_pictures (mL M) G X.2.2.2.2.2.2.1 X.2.2.2.2.2.2.2.1 σ1 r5 h4) rfl shzM_0 clzM_10 gX10_isDriftAltered_X10_pictures hyX10_pictures ⟨rfl, rfl⟩ ⟨Nat.le_of_ble_eq_true rfl, Nat.le_of_ble_eq_true rfl⟩ rfl rfl (Nat.le_of_ble_eq_true rfl) ?_
  refine ww_icmp_ge (pc := 11) (tgt := 74) X dX10_isDriftAltered_11 (by decide) hF (fun h6 hF => ?_) (fun h6 hF => ?_)
  · refine ww_aload_n (pc := 74) X (j := 0) dX10_isDriftAltered_74 rfl rfl ?_
    refine ww_bipush (pc := 75) X (v := 38) dX10_isDriftAltered_75 (by decide) ?_
    refine ww_iload_n (pc := 77) X (j := 2) dX10_isDriftAltered_77 rfl rfl ?_
    refine ww_imul (pc := 78) X dX10_isDriftAltered_78 ?_
    refine ww_bipush (pc := 79) X (v := 32) dX10_isDriftAltered_79 (by decide) ?_
    refine ww_iadd (pc := 81) X dX10_isDriftAltered_81 ?_
    refine ww_iload_n (pc := 82) X (j := 1) dX10_isDriftAltered_82 rfl rfl ?_
    refine ww_iadd (pc := 83) X dX10_isDriftAltered_83 ?_
    obtain ⟨r8, σ9, h7, hF⟩ := bd2_some hF
    refine ww_callVi (pc := 84) X (As := [.int (((38 * c6_2) + 32) + c6_1)]) (rest := []) dX10_isDriftAltered_84 (kX10_becomes (mL M) G X.2.2.2.2.2.2.1 X.2.2.2.2.2.2.2.1 σ1 (((38 * c6_2) + 32) + c6_1) (r8, σ9) h7) rfl shzM_0 clzM_10 gX10_isDriftAltered_X10_becomes hyX10_becomes ⟨rfl, rfl⟩ ⟨Nat.le_of_ble_eq_true rfl, Nat.le_of_ble_eq_true rfl⟩ rfl rfl (Nat.le_of_ble_eq_true rfl) ?_
    exact ww_zret (pc := 87) X dX10_isDriftAltered_87 (by cases hF; rfl) (by cases hF; rfl)
  · refine ww_aload_n (pc := 14) X (j := 0) dX10_isDriftAltered_14 rfl rfl ?_
    refine ww_iload_n (pc := 15) X (j := 3) dX10_isDriftAltered_15 rfl rfl ?_
    obtain ⟨r11, h10, hF⟩ := bd_some hF
    refine ww_callVi (pc := 16) X (As := [.int a3]) (rest := []) dX10_isDriftAltered_16 (kX10_strip (mL M) G X.2.2.2.2.2.2.1 X.2.2.2.2.2.2.2.1 σ1 a3 r11 h10) rfl shzM_0 clzM_10 gX10_isDriftAltered_X10_strip hyX10_strip ⟨rfl, rfl⟩ ⟨Nat.le_of_ble_eq_true rfl, Nat.le_of_ble_eq_true rfl⟩ rfl rfl (Nat.le_of_ble_eq_true rfl) ?_
    refine ww_iload_n (pc := 19) X (j := 1) dX10_isDriftAltered_19 rfl rfl ?_
    refine ww_icmp_ne (pc := 20) (tgt := 68) X dX10_isDriftAltered_20 (by decide) hF (fun h12 hF => ?_) (fun h12 hF => ?_)
    · refine ww_iinc (pc := 68) X (j := 3) (v := 1) (lv' := [(0, .ref (G.2.1 0)), (1, .int c6_1), (2, .int c6_2)]) dX10_isDriftAltered_68 rfl rfl (by decide) rfl hF (fun x13 ex13 hF => ?_)
      refine ww_goto (pc := 71) X (tgt := 6) dX10_isDriftAltered_71 (by decide) ?_
      exact ww_sub [1, 2, 3, 0] rfl (ih6 x13 σ1 hF)
    · refine ww_aload_n (pc := 23) X (j := 0) dX10_isDriftAltered_23 rfl rfl ?_
      refine ww_iload_n (pc := 24) X (j := 3) dX10_isDriftAltered_24 rfl rfl ?_
      obtain ⟨r15, h14, hF⟩ := bd_some hF
      refine ww_callVi (pc := 25) X (As := [.int a3]) (rest := []) dX10_isDriftAltered_25 (kX10_centreOf (mL M) G X.2.2.2.2.2.2.1 X.2.2.2.2.2.2.2.1 σ1 a3 r15 h14) rfl shzM_0 clzM_10 gX10_isDriftAltered_X10_centreOf hyX10_centreOf ⟨rfl, rfl⟩ ⟨Nat.le_of_ble_eq_true rfl, Nat.le_of_ble_eq_true rfl⟩ rfl rfl (Nat.le_of_ble_eq_true rfl) ?_
      refine ww_if_le (pc := 28) (tgt := 68) X dX10_isDriftAltered_28 (by decide) hF (fun h16 hF => ?_) (fun h16 hF => ?_)
      · refine ww_iinc (pc := 68) X (j := 3) (v := 1) (lv' := [(0, .ref (G.2.1 0)), (1, .int c6_1), (2, .int c6_2)]) dX10_isDriftAltered_68 rfl rfl (by decide) rfl hF (fun x17 ex17 hF => ?_)
        refine ww_goto (pc := 71) X (tgt := 6) dX10_isDriftAltered_71 (by decide) ?_
        exact ww_sub [1, 2, 3, 0] rfl (ih6 x17 σ1 hF)
      · refine ww_aload_n (pc := 31) X (j := 0) dX10_isDriftAltered_31 rfl rfl ?_
        refine ww_aload_n (pc := 32) X (j := 0) dX10_isDriftAltered_32 rfl rfl ?_
        refine ww_iload_n (pc := 33) X (j := 3) dX10_isDriftAltered_33 rfl rfl ?_
        obtain ⟨r19, h18, hF⟩ := bd_some hF
        refine ww_callVi (pc := 34) X (As := [.int a3]) (rest := [.ref (G.2.1 0)]) dX10_isDriftAltered_34 (kX10_centreOf (mL M) G X.2.2.2.2.2.2.1 X.2.2.2.2.2.2.2.1 σ1 a3 r19 h18) rfl shzM_0 clzM_10 gX10_isDriftAltered_X10_centreOf hyX10_centreOf ⟨rfl, rfl⟩ ⟨Nat.le_of_ble_eq_true rfl, Nat.le_of_ble_eq_true rfl⟩ rfl rfl (Nat.le_of_ble_eq_true rfl) ?_
        refine ww_aload_n (pc := 37) X (j := 0) dX10_isDriftAltered_37 rfl rfl ?_
        refine ww_get (pc := 38) X (ref := "PictureBlockModel") (T := TX10) (j := 38) dX10_isDriftAltered_38 inX10_isDriftAltered_RX10 shzM_0 clzM_10 (by decide) rfl (List.mem_of_getElem? (i := 1) rfl) rfl ?_
        refine ww_bipush (pc := 41) X (v := 38) dX10_isDriftAltered_41 (by decide) ?_
        refine ww_iload_n (pc := 43) X (j := 2) dX10_isDriftAltered_43 rfl rfl ?_
        refine ww_imul (pc := 44) X dX10_isDriftAltered_44 ?_
        refine ww_iload_n (pc := 45) X (j := 3) dX10_isDriftAltered_45 rfl rfl ?_
        refine ww_iadd (pc := 46) X dX10_isDriftAltered_46 ?_
        refine ww_iald (pc := 47) X dX10_isDriftAltered_47 shzM_28 rfl hF (fun v20 ev20 bv20 hF => ?_)
        refine ww_bipush (pc := 48) X (v := 100) dX10_isDriftAltered_48 (by decide) ?_
        refine ww_aload_n (pc := 50) X (j := 0) dX10_isDriftAltered_50 rfl rfl ?_
        refine ww_get (pc := 51) X (ref := "PictureBlockModel") (T := TX10) (j := 27) dX10_isDriftAltered_51 inX10_isDriftAltered_RX10 shzM_0 clzM_10 (by decide) rfl (List.mem_of_getElem? (i := 2) rfl) rfl ?_
        refine ww_bipush (pc := 54) X (v := 24) dX10_isDriftAltered_54 (by decide) ?_
        refine ww_iconst (pc := 56) X (v := 2) dX10_isDriftAltered_56 (by decide) ?_
        refine ww_iload_n (pc := 57) X (j := 3) dX10_isDriftAltered_57 rfl rfl ?_
        refine ww_imul (pc := 58) X dX10_isDriftAltered_58 ?_
        refine ww_iadd (pc := 59) X dX10_isDriftAltered_59 ?_
        refine ww_iload_n (pc := 60) X (j := 2) dX10_isDriftAltered_60 rfl rfl ?_
        refine ww_iadd (pc := 61) X dX10_isDriftAltered_61 ?_
        refine ww_iald (pc := 62) X dX10_isDriftAltered_62 shzM_19 rfl hF (fun v21 ev21 bv21 hF => ?_)
        refine ww_imul (pc := 63) X dX10_isDriftAltered_63 ?_
        refine ww_isub (pc := 64) X dX10_isDriftAltered_64 ?_
        obtain ⟨σ23, h22, hF⟩ := bd_some hF
        refine ww_callVv (pc := 65) X (As := [.int r19, .int (v20 - (100 * v21))]) (rest := []) dX10_isDriftAltered_65 (kX10_mean (mL M) G X.2.2.2.2.2.2.1 X.2.2.2.2.2.2.2.1 σ1 r19 (v20 - (100 * v21)) σ23 h22) rfl shzM_0 clzM_10 gX10_isDriftAltered_X10_mean hyX10_mean ⟨rfl, rfl⟩ ⟨Nat.le_of_ble_eq_true rfl, Nat.le_of_ble_eq_true rfl⟩ rfl rfl (Nat.le_of_ble_eq_true rfl) ?_
        refine ww_iinc (pc := 68) X (j := 3) (v := 1) (lv' := [(0, .ref (G.2.1 0)), (1, .int c6_1), (2, .int c6_2)]) dX10_isDriftAltered_68 rfl rfl (by decide) rfl hF (fun x24 ex24 hF => ?_)
        refine ww_goto (pc := 71) X (tgt := 6) dX10_isDriftAltered_71 (by decide) ?_
        exact ww_sub [1, 2, 3, 0] rfl (ih6 x24 σ23 hF)
set_option maxRecDepth 100000 in
set_option maxHeartbeats 4000000 in
theorem wX10_isDriftAltered {M : gM} {G : gG} {out : Int32 × gS} (X : gX M G zM cX10_isDriftAltered RX10 4 wsX10_isDriftAltered rmX10_isDriftAltered (some .boolean)) (σ : gS) (p1 : Int32) (p2 : Int32) (hF : fX10_isDriftAltered σ p1 p2 = some out) : WW M (gQi M G zM out.1 out.2) G zM 4 σ 0 [(0, .ref (G.2.1 0)), (1, .int p1), (2, .int p2)] [] := by
  unfold fX10_isDriftAltered at hF
  refine ww_aload_n (pc := 0) X (j := 0) dX10_isDriftAltered_0 rfl rfl ?_
  obtain ⟨σ2, h1, hF⟩ := bd_some hF
  refine ww_callVv (pc := 1) X (As := []) (rest := []) dX10_isDriftAltered_1 (kX10_noMean (mL M) G X.2.2.2.2.2.2.1 X.2.2.2.2.2.2.2.1 σ σ2 h1) rfl shzM_0 clzM_10 gX10_isDriftAltered_X10_noMean hyX10_noMean ⟨rfl, rfl⟩ ⟨Nat.le_of_ble_eq_true rfl, Nat.le_of_ble_eq_true rfl⟩ rfl rfl (Nat.le_of_ble_eq_true rfl) ?_
  refine ww_iconst (pc := 4) X (v := 0) dX10_isDriftAltered_4 (by decide) ?_
  refine ww_istore_n (pc := 5) X (lv' := [(0, .ref (G.2.1 0)), (1, .int p1), (2, .int p2)]) dX10_isDriftAltered_5 rfl (by decide) rfl hF (fun x3 ex3 hF => ?_)
  exact ww_sub [1, 2, 3, 0] rfl (lpc_ind (P := (fun (s : Int32 × gS) => WW M (gQi M G zM out.1 out.2) G zM 4 s.2 6 [(0, .ref (G.2.1 0)), (1, .int p1), (2, .int p2), (3, .int s.1)] [])) (fun rec s ih hF => wbX10_isDriftAltered_6 X σ2 p1 p2 (fun a3 σ1 => rec (a3, σ1)) (fun a3 σ1 h => ih (a3, σ1) h) s.1 s.2 hF) K9 (x3, σ2) hF)
set_option maxRecDepth 100000 in
set_option maxHeartbeats 4000000 in
theorem kX10_isDriftAltered (l : Launch) (G : gG) (hG : gOK G zM.1) (hT : G.2.2.1.map (fun q => q.2) = zM.2.1) (σ : gS) (p1 : Int32) (p2 : Int32) (out : Int32 × gS) (hF : fX10_isDriftAltered σ p1 p2 = some out) : gCi l yX10_isDriftAltered wsX10_isDriftAltered rmX10_isDriftAltered G zM [.ref (G.2.1 0), .int p1, .int p2] σ out.1 out.2 :=
  gEnter (by decide) rfl ⟨rfl, rfl⟩ hG hT (Nat.le_of_ble_eq_true rfl) rfl (fun M X hl => wX10_isDriftAltered X σ p1 p2 hF)
noncomputable def jX10_isPictureAltered_124 (σ : gS) (a1 : Int32) (a2 : Int32) : Option (Int32 × gS) :=
  bd2 (fX10_becomes σ ((38 * a2) + a1)) fun r11 σ12 => some (vp_nar .boolean r11, σ12)
noncomputable def bX10_isPictureAltered_6 (σ : gS) (c6_1 : Int32) (c6_2 : Int32) (rec6 : Int32 → gS → Option (Int32 × gS)) (a3 : Int32) (σ1 : gS) : Option (Int32 × gS) :=
  bd (fX10_rows σ1) fun r5 => (if r5 ≤ a3 then bd (fX10_centreOf σ1 c6_1) fun r8 => (if r8 ≤ 0 then jX10_isPictureAltered_124 σ1 c6_1 c6_2 else bd (fX10_centreOf σ1 c6_1) fun r14 => bd (fX10_strip σ1 c6_1) fun r16 => gd (gb (((38 * c6_2) + 32) + r16) 76) <| nm (σ1.1 28 (((38 * c6_2) + 32) + r16).toNatClampNeg) fun v17 => gd (gb ((24 + (2 * c6_1)) + c6_2) 48) <| nm (σ1.1 19 ((24 + (2 * c6_1)) + c6_2).toNatClampNeg) fun v18 => bd (fX10_mean σ1 r14 (v17 + (100 * v18))) fun σ20 => jX10_isPictureAltered_124 σ20 c6_1 c6_2) else gd (gb a3 60) <| nm (σ1.1 26 a3.toNatClampNeg) fun v21 => (if v21 = 0 then bd (fX10_pictureOf σ1 a3) fun r25 => (if r25 = c6_1 then bd (fX10_weightOf σ1 a3) fun r29 => bd (fX10_pointOf σ1 a3) fun r31 => gd (gb (((38 * c6_2) + 12) + r31) 76) <| nm (σ1.1 28 (((38 * c6_2) + 12) + r31).toNatClampNeg) fun v32 => bd (fX10_turned σ1 a3 c6_2) fun r34 => bd (fX10_mean σ1 r29 (v32 - r34)) fun σ36 => nm (a3 + 1 : Int32) fun x37 => rec6 x37 σ36 else nm (a3 + 1 : Int32) fun x27 => rec6 x27 σ1) else nm (a3 + 1 : Int32) fun x23 => rec6 x23 σ1))
noncomputable def fX10_isPictureAltered (σ : gS) (p1 : Int32) (p2 : Int32) : Option (Int32 × gS) :=
  bd (fX10_noMean σ) fun σ2 => nm (0 : Int32) fun x3 => lpc (S := Int32 × gS) K9 (fun rec s => bX10_isPictureAltered_6 σ2 p1 p2 (fun a3 σ1 => rec (a3, σ1)) s.1 s.2) (x3, σ2)
noncomputable abbrev rmX10_isPictureAltered : Room := { frames := 2, cells := 0, slots := 0, locals := 48 }
set_option maxRecDepth 100000 in
set_option maxHeartbeats 4000000 in
theorem wjX10_isPictureAltered_124 {M : gM} {G : gG} {out : Int32 × gS} (X : gX M G zM cX10_isPictureAltered RX10 4 wsX10_isPictureAltered rmX10_isPictureAltered (some .boolean)) (σ : gS) (a1 : Int32) (a2 : Int32) (hF : jX10_isPictureAltered_124 σ a1 a2 = some out) : WW M (gQi M G zM out.1 out.2) G zM 4 σ 124 [(0, .ref (G.2.1 0)), (1, .int a1), (2, .int a2)] [] := by
  unfold jX10_isPictureAltered_124 at hF
  refine ww_aload_n (pc := 124) X (j := 0) dX10_isPictureAltered_124 rfl rfl ?_
  refine ww_bipush (pc := 125) X (v := 38) dX10_isPictureAltered_125 (by decide) ?_
  refine ww_iload_n (pc := 127) X (j := 2) dX10_isPictureAltered_127 rfl rfl ?_
  refine ww_imul (pc := 128) X dX10_isPictureAltered_128 ?_
  refine ww_iload_n (pc := 129) X (j := 1) dX10_isPictureAltered_129 rfl rfl ?_
  refine ww_iadd (pc := 130) X dX10_isPictureAltered_130 ?_
  obtain ⟨r11, σ12, h10, hF⟩ := bd2_some hF
  refine ww_callVi (pc := 131) X (As := [.int ((38 * a2) + a1)]) (rest := []) dX10_isPictureAltered_131 (kX10_becomes (mL M) G X.2.2.2.2.2.2.1 X.2.2.2.2.2.2.2.1 σ ((38 * a2) + a1) (r11, σ12) h10) rfl shzM_0 clzM_10 gX10_isPictureAltered_X10_becomes hyX10_becomes ⟨rfl, rfl⟩ ⟨Nat.le_of_ble_eq_true rfl, Nat.le_of_ble_eq_true rfl⟩ rfl rfl (Nat.le_of_ble_eq_true rfl) ?_
  exact ww_zret (pc := 134) X dX10_isPictureAltered_134 (by cases hF; rfl) (by cases hF; rfl)
set_option maxRecDepth 100000 in
set_option maxHeartbeats 4000000 in
theorem wbX10_isPictureAltered_6 {M : gM} {G : gG} {out : Int32 × gS} (X : gX M G zM cX10_isPictureAltered RX10 4 wsX10_isPictureAltered rmX10_isPictureAltered (some .boolean)) (σ : gS) (c6_1 : Int32) (c6_2 : Int32) (rec6 : Int32 → gS → Option (Int32 × gS)) (ih6 : ∀ (a3 : Int32) (σ1 : gS), rec6 a3 σ1 = some out → WW M (gQi M G zM out.1 out.2) G zM 4 σ1 6 [(0, .ref (G.2.1 0)), (1, .int c6_1), (2, .int c6_2), (3, .int a3)] []) (a3 : Int32) (σ1 : gS) (hF : bX10_isPictureAltered_6 σ c6_1 c6_2 rec6 a3 σ1 = some out) : WW M (gQi M G zM out.1 out.2) G zM 4 σ1 6 [(0, .ref (G.2.1 0)), (1, .int c6_1), (2, .int c6_2), (3, .int a3)] [] := by
  unfold bX10_isPictureAltered_6 at hF
  refine ww_iload_n (pc := 6) X (j := 3) dX10_isPictureAltered_6 rfl rfl ?_
  refine ww_aload_n (pc := 7) X (j := 0) dX10_isPictureAltered_7 rfl rfl ?_
  obtain ⟨r5, h4, hF⟩ := bd_some hF
  refine ww_callVi (pc := 8) X (As := []) (rest := [.int a3]) dX10_isPictureAltered_8 (kX10_rows (mL M) G X.2.2.2.2.2.2.1 X.2.2.2.2.2.2.2.1 σ1 r5 h4) rfl shzM_0 clzM_10 gX10_isPictureAltered_X10_rows hyX10_rows ⟨rfl, rfl⟩ ⟨Nat.le_of_ble_eq_true rfl, Nat.le_of_ble_eq_true rfl⟩ rfl rfl (Nat.le_of_ble_eq_true rfl) ?_
  refine ww_icmp_ge (pc := 11) (tgt := 72) X dX10_isPictureAltered_11 (by decide) hF (fun h6 hF => ?_) (fun h6 hF => ?_)
  · refine ww_aload_n (pc := 72) X (j := 0) dX10_isPictureAltered_72 rfl rfl ?_
    refine ww_iload_n (pc := 73) X (j := 1) dX10_isPictureAltered_73 rfl rfl ?_
    obtain ⟨r8, h7, hF⟩ := bd_some hF
    refine ww_callVi (pc := 74) X (As := [.int c6_1]) (rest := []) dX10_isPictureAltered_74 (kX10_centreOf (mL M) G X.2.2.2.2.2.2.1 X.2.2.2.2.2.2.2.1 σ1 c6_1 r8 h7) rfl shzM_0 clzM_10 gX10_isPictureAltered_X10_centreOf hyX10_centreOf ⟨rfl, rfl⟩ ⟨Nat.le_of_ble_eq_true rfl, Nat.le_of_ble_eq_true rfl⟩ rfl rfl (Nat.le_of_ble_eq_true rfl) ?_
    refine ww_if_le (pc := 77) (tgt := 124) X dX10_isPictureAltered_77 (by decide) hF (fun h9 hF => ?_) (fun h9 hF => ?_)
    · exact ww_sub [0, 1, 2] rfl (wjX10_isPictureAltered_124 X σ1 c6_1 c6_2 hF)
    · refine ww_aload_n (pc := 80) X (j := 0) dX10_isPictureAltered_80 rfl rfl ?_
      refine ww_aload_n (pc := 81) X (j := 0) dX10_isPictureAltered_81 rfl rfl ?_
      refine ww_iload_n (pc := 82) X (j := 1) dX10_isPictureAltered_82 rfl rfl ?_
      obtain ⟨r14, h13, hF⟩ := bd_some hF
      refine ww_callVi (pc := 83) X (As := [.int c6_1]) (rest := [.ref (G.2.1 0)]) dX10_isPictureAltered_83 (kX10_centreOf (mL M) G X.2.2.2.2.2.2.1 X.2.2.2.2.2.2.2.1 σ1 c6_1 r14 h13) rfl shzM_0 clzM_10 gX10_isPictureAltered_X10_centreOf hyX10_centreOf ⟨rfl, rfl⟩ ⟨Nat.le_of_ble_eq_true rfl, Nat.le_of_ble_eq_true rfl⟩ rfl rfl (Nat.le_of_ble_eq_true rfl) ?_
      refine ww_aload_n (pc := 86) X (j := 0) dX10_isPictureAltered_86 rfl rfl ?_
      refine ww_get (pc := 87) X (ref := "PictureBlockModel") (T := TX10) (j := 38) dX10_isPictureAltered_87 inX10_isPictureAltered_RX10 shzM_0 clzM_10 (by decide) rfl (List.mem_of_getElem? (i := 2) rfl) rfl ?_
      refine ww_bipush (pc := 90) X (v := 38) dX10_isPictureAltered_90 (by decide) ?_
      refine ww_iload_n (pc := 92) X (j := 2) dX10_isPictureAltered_92 rfl rfl ?_
      refine ww_imul (pc := 93) X dX10_isPictureAltered_93 ?_
      refine ww_bipush (pc := 94) X (v := 32) dX10_isPictureAltered_94 (by decide) ?_
      refine ww_iadd (pc := 96) X dX10_isPictureAltered_96 ?_
      refine ww_aload_n (pc := 97) X (j := 0) dX10_isPictureAltered_97 rfl rfl ?_
      refine ww_iload_n (pc := 98) X (j := 1) dX10_isPictureAltered_98 rfl rfl ?_
      obtain ⟨r16, h15, hF⟩ := bd_some hF
      refine ww_callVi (pc := 99) X (As := [.int c6_1]) (rest := [.int ((38 * c6_2) + 32), .ref (G.2.1 28), .int r14, .ref (G.2.1 0)]) dX10_isPictureAltered_99 (kX10_strip (mL M) G X.2.2.2.2.2.2.1 X.2.2.2.2.2.2.2.1 σ1 c6_1 r16 h15) rfl shzM_0 clzM_10 gX10_isPictureAltered_X10_strip hyX10_strip ⟨rfl, rfl⟩ ⟨Nat.le_of_ble_eq_true rfl, Nat.le_of_ble_eq_true rfl⟩ rfl rfl (Nat.le_of_ble_eq_true rfl) ?_
      refine ww_iadd (pc := 102) X dX10_isPictureAltered_102 ?_
      refine ww_iald (pc := 103) X dX10_isPictureAltered_103 shzM_28 rfl hF (fun v17 ev17 bv17 hF => ?_)
      refine ww_bipush (pc := 104) X (v := 100) dX10_isPictureAltered_104 (by decide) ?_
      refine ww_aload_n (pc := 106) X (j := 0) dX10_isPictureAltered_106 rfl rfl ?_
      refine ww_get (pc := 107) X (ref := "PictureBlockModel") (T := TX10) (j := 27) dX10_isPictureAltered_107 inX10_isPictureAltered_RX10 shzM_0 clzM_10 (by decide) rfl (List.mem_of_getElem? (i := 3) rfl) rfl ?_
      refine ww_bipush (pc := 110) X (v := 24) dX10_isPictureAltered_110 (by decide) ?_
      refine ww_iconst (pc := 112) X (v := 2) dX10_isPictureAltered_112 (by decide) ?_
      refine ww_iload_n (pc := 113) X (j := 1) dX10_isPictureAltered_113 rfl rfl ?_
      refine ww_imul (pc := 114) X dX10_isPictureAltered_114 ?_
      refine ww_iadd (pc := 115) X dX10_isPictureAltered_115 ?_
      refine ww_iload_n (pc := 116) X (j := 2) dX10_isPictureAltered_116 rfl rfl ?_
      refine ww_iadd (pc := 117) X dX10_isPictureAltered_117 ?_
      refine ww_iald (pc := 118) X dX10_isPictureAltered_118 shzM_19 rfl hF (fun v18 ev18 bv18 hF => ?_)
      refine ww_imul (pc := 119) X dX10_isPictureAltered_119 ?_
      refine ww_iadd (pc := 120) X dX10_isPictureAltered_120 ?_
      obtain ⟨σ20, h19, hF⟩ := bd_some hF
      refine ww_callVv (pc := 121) X (As := [.int r14, .int (v17 + (100 * v18))]) (rest := []) dX10_isPictureAltered_121 (kX10_mean (mL M) G X.2.2.2.2.2.2.1 X.2.2.2.2.2.2.2.1 σ1 r14 (v17 + (100 * v18)) σ20 h19) rfl shzM_0 clzM_10 gX10_isPictureAltered_X10_mean hyX10_mean ⟨rfl, rfl⟩ ⟨Nat.le_of_ble_eq_true rfl, Nat.le_of_ble_eq_true rfl⟩ rfl rfl (Nat.le_of_ble_eq_true rfl) ?_
      exact ww_sub [0, 1, 2] rfl (wjX10_isPictureAltered_124 X σ20 c6_1 c6_2 hF)
  · refine ww_aload_n (pc := 14) X (j := 0) dX10_isPictureAltered_14 rfl rfl ?_
    refine ww_get (pc := 15) X (ref := "PictureBlockModel") (T := TX10) (j := 35) dX10_isPictureAltered_15 inX10_isPictureAltered_RX10 shzM_0 clzM_10 (by decide) rfl (List.mem_of_getElem? (i := 1) rfl) rfl ?_
    refine ww_iload_n (pc := 18) X (j := 3) dX10_isPictureAltered_18 rfl rfl ?_
    refine ww_zald (pc := 19) X dX10_isPictureAltered_19 shzM_26 rfl hF (fun v21 ev21 bv21 hF => ?_)
    refine ww_if_ne (pc := 20) (tgt := 66) X dX10_isPictureAltered_20 (by decide) hF (fun h22 hF => ?_) (fun h22 hF => ?_)
    · refine ww_iinc (pc := 66) X (j := 3) (v := 1) (lv' := [(0, .ref (G.2.1 0)), (1, .int c6_1), (2, .int c6_2)]) dX10_isPictureAltered_66 rfl rfl (by decide) rfl hF (fun x23 ex23 hF => ?_)
      refine ww_goto (pc := 69) X (tgt := 6) dX10_isPictureAltered_69 (by decide) ?_
      exact ww_sub [1, 2, 3, 0] rfl (ih6 x23 σ1 hF)
    · refine ww_aload_n (pc := 23) X (j := 0) dX10_isPictureAltered_23 rfl rfl ?_
      refine ww_iload_n (pc := 24) X (j := 3) dX10_isPictureAltered_24 rfl rfl ?_
      obtain ⟨r25, h24, hF⟩ := bd_some hF
      refine ww_callVi (pc := 25) X (As := [.int a3]) (rest := []) dX10_isPictureAltered_25 (kX10_pictureOf (mL M) G X.2.2.2.2.2.2.1 X.2.2.2.2.2.2.2.1 σ1 a3 r25 h24) rfl shzM_0 clzM_10 gX10_isPictureAltered_X10_pictureOf hyX10_pictureOf ⟨rfl, rfl⟩ ⟨Nat.le_of_ble_eq_true rfl, Nat.le_of_ble_eq_true rfl⟩ rfl rfl (Nat.le_of_ble_eq_true rfl) ?_
      refine ww_iload_n (pc := 28) X (j := 1) dX10_isPictureAltered_28 rfl rfl ?_
      refine ww_icmp_ne (pc := 29) (tgt := 66) X dX10_isPictureAltered_29 (by decide) hF (fun h26 hF => ?_) (fun h26 hF => ?_)
      · refine ww_iinc (pc := 66) X (j := 3) (v := 1) (lv' := [(0, .ref (G.2.1 0)), (1, .int c6_1), (2, .int c6_2)]) dX10_isPictureAltered_66 rfl rfl (by decide) rfl hF (fun x27 ex27 hF => ?_)
        refine ww_goto (pc := 69) X (tgt := 6) dX10_isPictureAltered_69 (by decide) ?_
        exact ww_sub [1, 2, 3, 0] rfl (ih6 x27 σ1 hF)
      · refine ww_aload_n (pc := 32) X (j := 0) dX10_isPictureAltered_32 rfl rfl ?_
        refine ww_aload_n (pc := 33) X (j := 0) dX10_isPictureAltered_33 rfl rfl ?_
        refine ww_iload_n (pc := 34) X (j := 3) dX10_isPictureAltered_34 rfl rfl ?_
        obtain ⟨r29, h28, hF⟩ := bd_some hF
        refine ww_callVi (pc := 35) X (As := [.int a3]) (rest := [.ref (G.2.1 0)]) dX10_isPictureAltered_35 (kX10_weightOf (mL M) G X.2.2.2.2.2.2.1 X.2.2.2.2.2.2.2.1 σ1 a3 r29 h28) rfl shzM_0 clzM_10 gX10_isPictureAltered_X10_weightOf hyX10_weightOf ⟨rfl, rfl⟩ ⟨Nat.le_of_ble_eq_true rfl, Nat.le_of_ble_eq_true rfl⟩ rfl rfl (Nat.le_of_ble_eq_true rfl) ?_
        refine ww_aload_n (pc := 38) X (j := 0) dX10_isPictureAltered_38 rfl rfl ?_
        refine ww_get (pc := 39) X (ref := "PictureBlockModel") (T := TX10) (j := 38) dX10_isPictureAltered_39 inX10_isPictureAltered_RX10 shzM_0 clzM_10 (by decide) rfl (List.mem_of_getElem? (i := 2) rfl) rfl ?_
        refine ww_bipush (pc := 42) X (v := 38) dX10_isPictureAltered_42 (by decide) ?_
        refine ww_iload_n (pc := 44) X (j := 2) dX10_isPictureAltered_44 rfl rfl ?_
        refine ww_imul (pc := 45) X dX10_isPictureAltered_45 ?_
        refine ww_bipush (pc := 46) X (v := 12) dX10_isPictureAltered_46 (by decide) ?_
        refine ww_iadd (pc := 48) X dX10_isPictureAltered_48 ?_
        refine ww_aload_n (pc := 49) X (j := 0) dX10_isPictureAltered_49 rfl rfl ?_
        refine ww_iload_n (pc := 50) X (j := 3) dX10_isPictureAltered_50 rfl rfl ?_
        obtain ⟨r31, h30, hF⟩ := bd_some hF
        refine ww_callVi (pc := 51) X (As := [.int a3]) (rest := [.int ((38 * c6_2) + 12), .ref (G.2.1 28), .int r29, .ref (G.2.1 0)]) dX10_isPictureAltered_51 (kX10_pointOf (mL M) G X.2.2.2.2.2.2.1 X.2.2.2.2.2.2.2.1 σ1 a3 r31 h30) rfl shzM_0 clzM_10 gX10_isPictureAltered_X10_pointOf hyX10_pointOf ⟨rfl, rfl⟩ ⟨Nat.le_of_ble_eq_true rfl, Nat.le_of_ble_eq_true rfl⟩ rfl rfl (Nat.le_of_ble_eq_true rfl) ?_
        refine ww_iadd (pc := 54) X dX10_isPictureAltered_54 ?_
        refine ww_iald (pc := 55) X dX10_isPictureAltered_55 shzM_28 rfl hF (fun v32 ev32 bv32 hF => ?_)
        refine ww_aload_n (pc := 56) X (j := 0) dX10_isPictureAltered_56 rfl rfl ?_
        refine ww_iload_n (pc := 57) X (j := 3) dX10_isPictureAltered_57 rfl rfl ?_
        refine ww_iload_n (pc := 58) X (j := 2) dX10_isPictureAltered_58 rfl rfl ?_
        obtain ⟨r34, h33, hF⟩ := bd_some hF
        refine ww_callVi (pc := 59) X (As := [.int a3, .int c6_2]) (rest := [.int v32, .int r29, .ref (G.2.1 0)]) dX10_isPictureAltered_59 (kX10_turned (mL M) G X.2.2.2.2.2.2.1 X.2.2.2.2.2.2.2.1 σ1 a3 c6_2 r34 h33) rfl shzM_0 clzM_10 gX10_isPictureAltered_X10_turned hyX10_turned ⟨rfl, rfl⟩ ⟨Nat.le_of_ble_eq_true rfl, Nat.le_of_ble_eq_true rfl⟩ rfl rfl (Nat.le_of_ble_eq_true rfl) ?_
        refine ww_isub (pc := 62) X dX10_isPictureAltered_62 ?_
        obtain ⟨σ36, h35, hF⟩ := bd_some hF
        refine ww_callVv (pc := 63) X (As := [.int r29, .int (v32 - r34)]) (rest := []) dX10_isPictureAltered_63 (kX10_mean (mL M) G X.2.2.2.2.2.2.1 X.2.2.2.2.2.2.2.1 σ1 r29 (v32 - r34) σ36 h35) rfl shzM_0 clzM_10 gX10_isPictureAltered_X10_mean hyX10_mean ⟨rfl, rfl⟩ ⟨Nat.le_of_ble_eq_true rfl, Nat.le_of_ble_eq_true rfl⟩ rfl rfl (Nat.le_of_ble_eq_true rfl) ?_
        refine ww_iinc (pc := 66) X (j := 3) (v := 1) (lv' := [(0, .ref (G.2.1 0)), (1, .int c6_1), (2, .int c6_2)]) dX10_isPictureAltered_66 rfl rfl (by decide) rfl hF (fun x37 ex37 hF => ?_)
        refine ww_goto (pc := 69) X (tgt := 6) dX10_isPictureAltered_69 (by decide) ?_
        exact ww_sub [1, 2, 3, 0] rfl (ih6 x37 σ36 hF)
set_option maxRecDepth 100000 in
set_option maxHeartbeats 4000000 in
theorem wX10_isPictureAltered {M : gM} {G : gG} {out : Int32 × gS} (X : gX M G zM cX10_isPictureAltered RX10 4 wsX10_isPictureAltered rmX10_isPictureAltered (some .boolean)) (σ : gS) (p1 : Int32) (p2 : Int32) (hF : fX10_isPictureAltered σ p1 p2 = some out) : WW M (gQi M G zM out.1 out.2) G zM 4 σ 0 [(0, .ref (G.2.1 0)), (1, .int p1), (2, .int p2)] [] := by
  unfold fX10_isPictureAltered at hF
  refine ww_aload_n (pc := 0) X (j := 0) dX10_isPictureAltered_0 rfl rfl ?_
  obtain ⟨σ2, h1, hF⟩ := bd_some hF
  refine ww_callVv (pc := 1) X (As := []) (rest := []) dX10_isPictureAltered_1 (kX10_noMean (mL M) G X.2.2.2.2.2.2.1 X.2.2.2.2.2.2.2.1 σ σ2 h1) rfl shzM_0 clzM_10 gX10_isPictureAltered_X10_noMean hyX10_noMean ⟨rfl, rfl⟩ ⟨Nat.le_of_ble_eq_true rfl, Nat.le_of_ble_eq_true rfl⟩ rfl rfl (Nat.le_of_ble_eq_true rfl) ?_
  refine ww_iconst (pc := 4) X (v := 0) dX10_isPictureAltered_4 (by decide) ?_
  refine ww_istore_n (pc := 5) X (lv' := [(0, .ref (G.2.1 0)), (1, .int p1), (2, .int p2)]) dX10_isPictureAltered_5 rfl (by decide) rfl hF (fun x3 ex3 hF => ?_)
  exact ww_sub [1, 2, 3, 0] rfl (lpc_ind (P := (fun (s : Int32 × gS) => WW M (gQi M G zM out.1 out.2) G zM 4 s.2 6 [(0, .ref (G.2.1 0)), (1, .int p1), (2, .int p2), (3, .int s.1)] [])) (fun rec s ih hF => wbX10_isPictureAltered_6 X σ2 p1 p2 (fun a3 σ1 => rec (a3, σ1)) (fun a3 σ1 h => ih (a3, σ1) h) s.1 s.2 hF) K9 (x3, σ2) hF)
set_option maxRecDepth 100000 in
set_option maxHeartbeats 4000000 in
theorem kX10_isPictureAltered (l : Launch) (G : gG) (hG : gOK G zM.1) (hT : G.2.2.1.map (fun q => q.2) = zM.2.1) (σ : gS) (p1 : Int32) (p2 : Int32) (out : Int32 × gS) (hF : fX10_isPictureAltered σ p1 p2 = some out) : gCi l yX10_isPictureAltered wsX10_isPictureAltered rmX10_isPictureAltered G zM [.ref (G.2.1 0), .int p1, .int p2] σ out.1 out.2 :=
  gEnter (by decide) rfl ⟨rfl, rfl⟩ hG hT (Nat.le_of_ble_eq_true rfl) rfl (fun M X hl => wX10_isPictureAltered X σ p1 p2 hF)
noncomputable def bX10_isPointAltered_6 (σ : gS) (c6_1 : Int32) (c6_2 : Int32) (rec6 : Int32 → gS → Option (Int32 × gS)) (a3 : Int32) (σ1 : gS) : Option (Int32 × gS) :=
  bd (fX10_rows σ1) fun r5 => (if r5 ≤ a3 then bd2 (fX10_becomes σ1 (((38 * c6_2) + 12) + c6_1)) fun r8 σ9 => some (vp_nar .boolean r8, σ9) else gd (gb a3 60) <| nm (σ1.1 26 a3.toNatClampNeg) fun v10 => (if v10 = 0 then bd (fX10_pointOf σ1 a3) fun r14 => (if r14 = c6_1 then bd (fX10_weightOf σ1 a3) fun r18 => bd (fX10_put σ1 a3 c6_2) fun r20 => bd (fX10_mean σ1 r18 r20) fun σ22 => nm (a3 + 1 : Int32) fun x23 => rec6 x23 σ22 else nm (a3 + 1 : Int32) fun x16 => rec6 x16 σ1) else nm (a3 + 1 : Int32) fun x12 => rec6 x12 σ1))
noncomputable def fX10_isPointAltered (σ : gS) (p1 : Int32) (p2 : Int32) : Option (Int32 × gS) :=
  bd (fX10_noMean σ) fun σ2 => nm (0 : Int32) fun x3 => lpc (S := Int32 × gS) K9 (fun rec s => bX10_isPointAltered_6 σ2 p1 p2 (fun a3 σ1 => rec (a3, σ1)) s.1 s.2) (x3, σ2)
noncomputable abbrev rmX10_isPointAltered : Room := { frames := 3, cells := 0, slots := 0, locals := 70 }
set_option maxRecDepth 100000 in
set_option maxHeartbeats 4000000 in
theorem wbX10_isPointAltered_6 {M : gM} {G : gG} {out : Int32 × gS} (X : gX M G zM cX10_isPointAltered RX10 4 wsX10_isPointAltered rmX10_isPointAltered (some .boolean)) (σ : gS) (c6_1 : Int32) (c6_2 : Int32) (rec6 : Int32 → gS → Option (Int32 × gS)) (ih6 : ∀ (a3 : Int32) (σ1 : gS), rec6 a3 σ1 = some out → WW M (gQi M G zM out.1 out.2) G zM 4 σ1 6 [(0, .ref (G.2.1 0)), (1, .int c6_1), (2, .int c6_2), (3, .int a3)] []) (a3 : Int32) (σ1 : gS) (hF : bX10_isPointAltered_6 σ c6_1 c6_2 rec6 a3 σ1 = some out) : WW M (gQi M G zM out.1 out.2) G zM 4 σ1 6 [(0, .ref (G.2.1 0)), (1, .int c6_1), (2, .int c6_2), (3, .int a3)] [] := by
  unfold bX10_isPointAltered_6 at hF
  refine ww_iload_n (pc := 6) X (j := 3) dX10_isPointAltered_6 rfl rfl ?_
  refine ww_aload_n (pc := 7) X (j := 0) dX10_isPointAltered_7 rfl rfl ?_
  obtain ⟨r5, h4, hF⟩ := bd_some hF
  refine ww_callVi (pc := 8) X (As := []) (rest := [.int a3]) dX10_isPointAltered_8 (kX10_rows (mL M) G X.2.2.2.2.2.2.1 X.2.2.2.2.2.2.2.1 σ1 r5 h4) rfl shzM_0 clzM_10 gX10_isPointAltered_X10_rows hyX10_rows ⟨rfl, rfl⟩ ⟨Nat.le_of_ble_eq_true rfl, Nat.le_of_ble_eq_true rfl⟩ rfl rfl (Nat.le_of_ble_eq_true rfl) ?_
  refine ww_icmp_ge (pc := 11) (tgt := 53) X dX10_isPointAltered_11 (by decide) hF (fun h6 hF => ?_) (fun h6 hF => ?_)
  · refine ww_aload_n (pc := 53) X (j := 0) dX10_isPointAltered_53 rfl rfl ?_
    refine ww_bipush (pc := 54) X (v := 38) dX10_isPointAltered_54 (by decide) ?_
    refine ww_iload_n (pc := 56) X (j := 2) dX10_isPointAltered_56 rfl rfl ?_
    refine ww_imul (pc := 57) X dX10_isPointAltered_57 ?_
    refine ww_bipush (pc := 58) X (v := 12) dX10_isPointAltered_58 (by decide) ?_
    refine ww_iadd (pc := 60) X dX10_isPointAltered_60 ?_
    refine ww_iload_n (pc := 61) X (j := 1) dX10_isPointAltered_61 rfl rfl ?_
    refine ww_iadd (pc := 62) X dX10_isPointAltered_62 ?_
    obtain ⟨r8, σ9, h7, hF⟩ := bd2_some hF
    refine ww_callVi (pc := 63) X (As := [.int (((38 * c6_2) + 12) + c6_1)]) (rest := []) dX10_isPointAltered_63 (kX10_becomes (mL M) G X.2.2.2.2.2.2.1 X.2.2.2.2.2.2.2.1 σ1 (((38 * c6_2) + 12) + c6_1) (r8, σ9) h7) rfl shzM_0 clzM_10 gX10_isPointAltered_X10_becomes hyX10_becomes ⟨rfl, rfl⟩ ⟨Nat.le_of_ble_eq_true rfl, Nat.le_of_ble_eq_true rfl⟩ rfl rfl (Nat.le_of_ble_eq_true rfl) ?_
    exact ww_zret (pc := 66) X dX10_isPointAltered_66 (by cases hF; rfl) (by cases hF; rfl)
  · refine ww_aload_n (pc := 14) X (j := 0) dX10_isPointAltered_14 rfl rfl ?_
    refine ww_get (pc := 15) X (ref := "PictureBlockModel") (T := TX10) (j := 35) dX10_isPointAltered_15 inX10_isPointAltered_RX10 shzM_0 clzM_10 (by decide) rfl (List.mem_of_getElem? (i := 1) rfl) rfl ?_
    refine ww_iload_n (pc := 18) X (j := 3) dX10_isPointAltered_18 rfl rfl ?_
    refine ww_zald (pc := 19) X dX10_isPointAltered_19 shzM_26 rfl hF (fun v10 ev10 bv10 hF => ?_)
    refine ww_if_ne (pc := 20) (tgt := 47) X dX10_isPointAltered_20 (by decide) hF (fun h11 hF => ?_) (fun h11 hF => ?_)
    · refine ww_iinc (pc := 47) X (j := 3) (v := 1) (lv' := [(0, .ref (G.2.1 0)), (1, .int c6_1), (2, .int c6_2)]) dX10_isPointAltered_47 rfl rfl (by decide) rfl hF (fun x12 ex12 hF => ?_)
      refine ww_goto (pc := 50) X (tgt := 6) dX10_isPointAltered_50 (by decide) ?_
      exact ww_sub [1, 2, 3, 0] rfl (ih6 x12 σ1 hF)
    · refine ww_aload_n (pc := 23) X (j := 0) dX10_isPointAltered_23 rfl rfl ?_
      refine ww_iload_n (pc := 24) X (j := 3) dX10_isPointAltered_24 rfl rfl ?_
      obtain ⟨r14, h13, hF⟩ := bd_some hF
      refine ww_callVi (pc := 25) X (As := [.int a3]) (rest := []) dX10_isPointAltered_25 (kX10_pointOf (mL M) G X.2.2.2.2.2.2.1 X.2.2.2.2.2.2.2.1 σ1 a3 r14 h13) rfl shzM_0 clzM_10 gX10_isPointAltered_X10_pointOf hyX10_pointOf ⟨rfl, rfl⟩ ⟨Nat.le_of_ble_eq_true rfl, Nat.le_of_ble_eq_true rfl⟩ rfl rfl (Nat.le_of_ble_eq_true rfl) ?_
      refine ww_iload_n (pc := 28) X (j := 1) dX10_isPointAltered_28 rfl rfl ?_
      refine ww_icmp_ne (pc := 29) (tgt := 47) X dX10_isPointAltered_29 (by decide) hF (fun h15 hF => ?_) (fun h15 hF => ?_)
      · refine ww_iinc (pc := 47) X (j := 3) (v := 1) (lv' := [(0, .ref (G.2.1 0)), (1, .int c6_1), (2, .int c6_2)]) dX10_isPointAltered_47 rfl rfl (by decide) rfl hF (fun x16 ex16 hF => ?_)
        refine ww_goto (pc := 50) X (tgt := 6) dX10_isPointAltered_50 (by decide) ?_
        exact ww_sub [1, 2, 3, 0] rfl (ih6 x16 σ1 hF)
      · refine ww_aload_n (pc := 32) X (j := 0) dX10_isPointAltered_32 rfl rfl ?_
        refine ww_aload_n (pc := 33) X (j := 0) dX10_isPointAltered_33 rfl rfl ?_
        refine ww_iload_n (pc := 34) X (j := 3) dX10_isPointAltered_34 rfl rfl ?_
        obtain ⟨r18, h17, hF⟩ := bd_some hF
        refine ww_callVi (pc := 35) X (As := [.int a3]) (rest := [.ref (G.2.1 0)]) dX10_isPointAltered_35 (kX10_weightOf (mL M) G X.2.2.2.2.2.2.1 X.2.2.2.2.2.2.2.1 σ1 a3 r18 h17) rfl shzM_0 clzM_10 gX10_isPointAltered_X10_weightOf hyX10_weightOf ⟨rfl, rfl⟩ ⟨Nat.le_of_ble_eq_true rfl, Nat.le_of_ble_eq_true rfl⟩ rfl rfl (Nat.le_of_ble_eq_true rfl) ?_
        refine ww_aload_n (pc := 38) X (j := 0) dX10_isPointAltered_38 rfl rfl ?_
        refine ww_iload_n (pc := 39) X (j := 3) dX10_isPointAltered_39 rfl rfl ?_
        refine ww_iload_n (pc := 40) X (j := 2) dX10_isPointAltered_40 rfl rfl ?_
        obtain ⟨r20, h19, hF⟩ := bd_some hF
        refine ww_callVi (pc := 41) X (As := [.int a3, .int c6_2]) (rest := [.int r18, .ref (G.2.1 0)]) dX10_isPointAltered_41 (kX10_put (mL M) G X.2.2.2.2.2.2.1 X.2.2.2.2.2.2.2.1 σ1 a3 c6_2 r20 h19) rfl shzM_0 clzM_10 gX10_isPointAltered_X10_put hyX10_put ⟨rfl, rfl⟩ ⟨Nat.le_of_ble_eq_true rfl, Nat.le_of_ble_eq_true rfl⟩ rfl rfl (Nat.le_of_ble_eq_true rfl) ?_
        obtain ⟨σ22, h21, hF⟩ := bd_some hF
        refine ww_callVv (pc := 44) X (As := [.int r18, .int r20]) (rest := []) dX10_isPointAltered_44 (kX10_mean (mL M) G X.2.2.2.2.2.2.1 X.2.2.2.2.2.2.2.1 σ1 r18 r20 σ22 h21) rfl shzM_0 clzM_10 gX10_isPointAltered_X10_mean hyX10_mean ⟨rfl, rfl⟩ ⟨Nat.le_of_ble_eq_true rfl, Nat.le_of_ble_eq_true rfl⟩ rfl rfl (Nat.le_of_ble_eq_true rfl) ?_
        refine ww_iinc (pc := 47) X (j := 3) (v := 1) (lv' := [(0, .ref (G.2.1 0)), (1, .int c6_1), (2, .int c6_2)]) dX10_isPointAltered_47 rfl rfl (by decide) rfl hF (fun x23 ex23 hF => ?_)
        refine ww_goto (pc := 50) X (tgt := 6) dX10_isPointAltered_50 (by decide) ?_
        exact ww_sub [1, 2, 3, 0] rfl (ih6 x23 σ22 hF)
set_option maxRecDepth 100000 in
set_option maxHeartbeats 4000000 in
theorem wX10_isPointAltered {M : gM} {G : gG} {out : Int32 × gS} (X : gX M G zM cX10_isPointAltered RX10 4 wsX10_isPointAltered rmX10_isPointAltered (some .boolean)) (σ : gS) (p1 : Int32) (p2 : Int32) (hF : fX10_isPointAltered σ p1 p2 = some out) : WW M (gQi M G zM out.1 out.2) G zM 4 σ 0 [(0, .ref (G.2.1 0)), (1, .int p1), (2, .int p2)] [] := by
  unfold fX10_isPointAltered at hF
  refine ww_aload_n (pc := 0) X (j := 0) dX10_isPointAltered_0 rfl rfl ?_
  obtain ⟨σ2, h1, hF⟩ := bd_some hF
  refine ww_callVv (pc := 1) X (As := []) (rest := []) dX10_isPointAltered_1 (kX10_noMean (mL M) G X.2.2.2.2.2.2.1 X.2.2.2.2.2.2.2.1 σ σ2 h1) rfl shzM_0 clzM_10 gX10_isPointAltered_X10_noMean hyX10_noMean ⟨rfl, rfl⟩ ⟨Nat.le_of_ble_eq_true rfl, Nat.le_of_ble_eq_true rfl⟩ rfl rfl (Nat.le_of_ble_eq_true rfl) ?_
  refine ww_iconst (pc := 4) X (v := 0) dX10_isPointAltered_4 (by decide) ?_
  refine ww_istore_n (pc := 5) X (lv' := [(0, .ref (G.2.1 0)), (1, .int p1), (2, .int p2)]) dX10_isPointAltered_5 rfl (by decide) rfl hF (fun x3 ex3 hF => ?_)
  exact ww_sub [1, 2, 3, 0] rfl (lpc_ind (P := (fun (s : Int32 × gS) => WW M (gQi M G zM out.1 out.2) G zM 4 s.2 6 [(0, .ref (G.2.1 0)), (1, .int p1), (2, .int p2), (3, .int s.1)] [])) (fun rec s ih hF => wbX10_isPointAltered_6 X σ2 p1 p2 (fun a3 σ1 => rec (a3, σ1)) (fun a3 σ1 h => ih (a3, σ1) h) s.1 s.2 hF) K9 (x3, σ2) hF)
set_option maxRecDepth 100000 in
set_option maxHeartbeats 4000000 in
theorem kX10_isPointAltered (l : Launch) (G : gG) (hG : gOK G zM.1) (hT : G.2.2.1.map (fun q => q.2) = zM.2.1) (σ : gS) (p1 : Int32) (p2 : Int32) (out : Int32 × gS) (hF : fX10_isPointAltered σ p1 p2 = some out) : gCi l yX10_isPointAltered wsX10_isPointAltered rmX10_isPointAltered G zM [.ref (G.2.1 0), .int p1, .int p2] σ out.1 out.2 :=
  gEnter (by decide) rfl ⟨rfl, rfl⟩ hG hT (Nat.le_of_ble_eq_true rfl) rfl (fun M X hl => wX10_isPointAltered X σ p1 p2 hF)
