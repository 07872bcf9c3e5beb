noncomputable def fX10_takes (σ : gS) (p1 : Nat) : Option (Int32 × gS) :=
  bd2 (fX10_isHere σ p1) fun r2 σ3 => (if r2 = 0 then some (0, σ3) else gd (gis zM.1 0 1 p1) <| nm (gsI σ3 0 2 ((σ3.1 0 2) + (Int32.ofNat (gsz zM.1 0 1 p1)))) fun σ6 => nm (gsI σ6 0 4 (σ6.1 0 2)) fun σ7 => some (1, σ7))
noncomputable abbrev rmX10_takes : Room := { frames := 2, cells := 0, slots := 0, locals := 43 }
set_option maxRecDepth 100000 in
set_option maxHeartbeats 4000000 in
theorem wX10_takes {M : gM} {G : gG} {out : Int32 × gS} (X : gX M G zM cX10_takes RX10 2 wsX10_takes rmX10_takes (some .boolean)) (σ : gS) (p1 : Nat) (hF : fX10_takes σ p1 = some out) : WW M (gQi M G zM out.1 out.2) G zM 2 σ 0 [(0, .ref (G.2.1 0)), (1, .ref (G.2.1 p1))] [] := by
  unfold fX10_takes at hF
  refine ww_aload_n (pc := 0) X (j := 0) dX10_takes_0 rfl rfl ?_
  refine ww_aload_n (pc := 1) X (j := 1) dX10_takes_1 rfl rfl ?_
  obtain ⟨r2, σ3, h1, hF⟩ := bd2_some hF
  refine ww_callVi (pc := 2) X (As := [.ref (G.2.1 p1)]) (rest := []) dX10_takes_2 (kX10_isHere (mL M) G X.2.2.2.2.2.2.1 X.2.2.2.2.2.2.2.1 σ p1 (r2, σ3) h1) rfl shzM_0 clzM_10 gX10_takes_X10_isHere hyX10_isHere ⟨rfl, rfl⟩ ⟨Nat.le_of_ble_eq_true rfl, Nat.le_of_ble_eq_true rfl⟩ rfl rfl (Nat.le_of_ble_eq_true rfl) ?_
  refine ww_if_ne (pc := 5) (tgt := 10) X dX10_takes_5 (by decide) hF (fun h4 hF => ?_) (fun h4 hF => ?_)
  · refine ww_aload_n (pc := 10) X (j := 0) dX10_takes_10 rfl rfl ?_
    refine ww_dup (pc := 11) X dX10_takes_11 rfl ?_
    refine ww_get (pc := 12) X (ref := "PictureBlockModel") (T := TX10) (j := 2) dX10_takes_12 inX10_takes_RX10 shzM_0 clzM_10 (by decide) rfl (List.mem_of_getElem? (i := 1) rfl) rfl ?_
    refine ww_aload_n (pc := 15) X (j := 1) dX10_takes_15 rfl rfl ?_
    refine ww_alenS (pc := 16) X (by decide) dX10_takes_16 (t := 1) rfl hF (fun h5 hF => ?_)
    refine ww_iadd (pc := 17) X dX10_takes_17 ?_
    refine ww_putI (pc := 18) X (ref := "PictureBlockModel") (T := TX10) (j := 2) dX10_takes_18 inX10_takes_RX10 tyX10 tyX10_ok nmX10 shzM_0 clzM_10 (by decide) rfl (List.mem_of_getElem? (i := 1) rfl) rfl rfl (by decide +kernel) hF (fun σ6 eσ6 hF => ?_)
    refine ww_aload_n (pc := 21) X (j := 0) dX10_takes_21 rfl rfl ?_
    refine ww_aload_n (pc := 22) X (j := 0) dX10_takes_22 rfl rfl ?_
    refine ww_get (pc := 23) X (ref := "PictureBlockModel") (T := TX10) (j := 2) dX10_takes_23 inX10_takes_RX10 shzM_0 clzM_10 (by decide) rfl (List.mem_of_getElem? (i := 1) rfl) rfl ?_
    refine ww_putI (pc := 26) X (ref := "PictureBlockModel") (T := TX10) (j := 4) dX10_takes_26 inX10_takes_RX10 tyX10 tyX10_ok nmX10 shzM_0 clzM_10 (by decide) rfl (List.mem_of_getElem? (i := 2) rfl) rfl rfl (by decide +kernel) hF (fun σ7 eσ7 hF => ?_)
    refine ww_iconst (pc := 29) X (v := 1) dX10_takes_29 (by decide) ?_
    exact ww_zret (pc := 30) X dX10_takes_30 (by cases hF; rfl) (by cases hF; rfl)
  · refine ww_iconst (pc := 8) X (v := 0) dX10_takes_8 (by decide) ?_
    exact ww_zret (pc := 9) X dX10_takes_9 (by cases hF; rfl) (by cases hF; rfl)
set_option maxRecDepth 100000 in
set_option maxHeartbeats 4000000 in
theorem kX10_takes (l : Launch) (G : gG) (hG : gOK G zM.1) (hT : G.2.2.1.map (fun q => q.2) = zM.2.1) (σ : gS) (p1 : Nat) (out : Int32 × gS) (hF : fX10_takes σ p1 = some out) : gCi l yX10_takes wsX10_takes rmX10_takes G zM [.ref (G.2.1 0), .ref (G.2.1 p1)] σ out.1 out.2 :=
  gEnter (by decide) rfl ⟨rfl, rfl⟩ hG hT (Nat.le_of_ble_eq_true rfl) rfl (fun M X hl => wX10_takes X σ p1 hF)
noncomputable def fX10_fail (σ : gS) (p1 : Int32) (p2 : Int32) : Option (gS) :=
  if (σ.1 0 5) = 0 then nm (gsI σ 0 5 p1) fun σ2 => nm (gsI σ2 0 6 p2) fun σ3 => some σ3 else some σ
noncomputable abbrev rmX10_fail : Room := { frames := 0, cells := 0, slots := 0, locals := 0 }
set_option maxRecDepth 100000 in
set_option maxHeartbeats 4000000 in
theorem wX10_fail {M : gM} {G : gG} {out : gS} (X : gX M G zM cX10_fail RX10 3 wsX10_fail rmX10_fail none) (σ : gS) (p1 : Int32) (p2 : Int32) (hF : fX10_fail σ p1 p2 = some out) : WW M (gQv M G zM out) G zM 3 σ 0 [(0, .ref (G.2.1 0)), (1, .int p1), (2, .int p2)] [] := by
  unfold fX10_fail at hF
  refine ww_aload_n (pc := 0) X (j := 0) dX10_fail_0 rfl rfl ?_
  refine ww_get (pc := 1) X (ref := "PictureBlockModel") (T := TX10) (j := 5) dX10_fail_1 inX10_fail_RX10 shzM_0 clzM_10 (by decide) rfl (List.mem_of_getElem? (i := 1) rfl) rfl ?_
  refine ww_if_eq (pc := 4) (tgt := 8) X dX10_fail_4 (by decide) hF (fun h1 hF => ?_) (fun h1 hF => ?_)
  · refine ww_aload_n (pc := 8) X (j := 0) dX10_fail_8 rfl rfl ?_
    refine ww_iload_n (pc := 9) X (j := 1) dX10_fail_9 rfl rfl ?_
    refine ww_putI (pc := 10) X (ref := "PictureBlockModel") (T := TX10) (j := 5) dX10_fail_10 inX10_fail_RX10 tyX10 tyX10_ok nmX10 shzM_0 clzM_10 (by decide) rfl (List.mem_of_getElem? (i := 1) rfl) rfl rfl (by decide +kernel) hF (fun σ2 eσ2 hF => ?_)
    refine ww_aload_n (pc := 13) X (j := 0) dX10_fail_13 rfl rfl ?_
    refine ww_iload_n (pc := 14) X (j := 2) dX10_fail_14 rfl rfl ?_
    refine ww_putI (pc := 15) X (ref := "PictureBlockModel") (T := TX10) (j := 6) dX10_fail_15 inX10_fail_RX10 tyX10 tyX10_ok nmX10 shzM_0 clzM_10 (by decide) rfl (List.mem_of_getElem? (i := 2) rfl) rfl rfl (by decide +kernel) hF (fun σ3 eσ3 hF => ?_)
    exact ww_vret (pc := 18) X dX10_fail_18 (by cases hF; rfl)
  · exact ww_vret (pc := 7) X dX10_fail_7 (by cases hF; rfl)
set_option maxRecDepth 100000 in
set_option maxHeartbeats 4000000 in
theorem kX10_fail (l : Launch) (G : gG) (hG : gOK G zM.1) (hT : G.2.2.1.map (fun q => q.2) = zM.2.1) (σ : gS) (p1 : Int32) (p2 : Int32) (out : gS) (hF : fX10_fail σ p1 p2 = some out) : gCv l yX10_fail wsX10_fail rmX10_fail G zM [.ref (G.2.1 0), .int p1, .int p2] σ out :=
  gEnter (by decide) rfl ⟨rfl, rfl⟩ hG hT (Nat.le_of_ble_eq_true rfl) rfl (fun M X hl => wX10_fail X σ p1 p2 hF)
noncomputable def fX10_asks (σ : gS) (p1 : Nat) : Option (gS) :=
  if (σ.1 0 5) = 0 then bd2 (fX10_takes σ p1) fun r3 σ4 => (if r3 = 0 then bd (fX10_fail σ4 1 (σ4.1 0 2)) fun σ7 => some σ7 else some σ4) else some σ
noncomputable abbrev rmX10_asks : Room := { frames := 3, cells := 0, slots := 0, locals := 64 }
set_option maxRecDepth 100000 in
set_option maxHeartbeats 4000000 in
theorem wX10_asks {M : gM} {G : gG} {out : gS} (X : gX M G zM cX10_asks RX10 2 wsX10_asks rmX10_asks none) (σ : gS) (p1 : Nat) (hF : fX10_asks σ p1 = some out) : WW M (gQv M G zM out) G zM 2 σ 0 [(0, .ref (G.2.1 0)), (1, .ref (G.2.1 p1))] [] := by
  unfold fX10_asks at hF
  refine ww_aload_n (pc := 0) X (j := 0) dX10_asks_0 rfl rfl ?_
  refine ww_get (pc := 1) X (ref := "PictureBlockModel") (T := TX10) (j := 5) dX10_asks_1 inX10_asks_RX10 shzM_0 clzM_10 (by decide) rfl (List.mem_of_getElem? (i := 1) rfl) rfl ?_
  refine ww_if_ne (pc := 4) (tgt := 24) X dX10_asks_4 (by decide) hF (fun h1 hF => ?_) (fun h1 hF => ?_)
  · exact ww_vret (pc := 24) X dX10_asks_24 (by cases hF; rfl)
  · refine ww_aload_n (pc := 7) X (j := 0) dX10_asks_7 rfl rfl ?_
    refine ww_aload_n (pc := 8) X (j := 1) dX10_asks_8 rfl rfl ?_
    obtain ⟨r3, σ4, h2, hF⟩ := bd2_some hF
    refine ww_callVi (pc := 9) X (As := [.ref (G.2.1 p1)]) (rest := []) dX10_asks_9 (kX10_takes (mL M) G X.2.2.2.2.2.2.1 X.2.2.2.2.2.2.2.1 σ p1 (r3, σ4) h2) rfl shzM_0 clzM_10 gX10_asks_X10_takes hyX10_takes ⟨rfl, rfl⟩ ⟨Nat.le_of_ble_eq_true rfl, Nat.le_of_ble_eq_true rfl⟩ rfl rfl (Nat.le_of_ble_eq_true rfl) ?_
    refine ww_if_ne (pc := 12) (tgt := 24) X dX10_asks_12 (by decide) hF (fun h5 hF => ?_) (fun h5 hF => ?_)
    · exact ww_vret (pc := 24) X dX10_asks_24 (by cases hF; rfl)
    · refine ww_aload_n (pc := 15) X (j := 0) dX10_asks_15 rfl rfl ?_
      refine ww_iconst (pc := 16) X (v := 1) dX10_asks_16 (by decide) ?_
      refine ww_aload_n (pc := 17) X (j := 0) dX10_asks_17 rfl rfl ?_
      refine ww_get (pc := 18) X (ref := "PictureBlockModel") (T := TX10) (j := 2) dX10_asks_18 inX10_asks_RX10 shzM_0 clzM_10 (by decide) rfl (List.mem_of_getElem? (i := 2) rfl) rfl ?_
      obtain ⟨σ7, h6, hF⟩ := bd_some hF
      refine ww_callVv (pc := 21) X (As := [.int 1, .int (σ4.1 0 2)]) (rest := []) dX10_asks_21 (kX10_fail (mL M) G X.2.2.2.2.2.2.1 X.2.2.2.2.2.2.2.1 σ4 1 (σ4.1 0 2) σ7 h6) rfl shzM_0 clzM_10 gX10_asks_X10_fail hyX10_fail ⟨rfl, rfl⟩ ⟨Nat.le_of_ble_eq_true rfl, Nat.le_of_ble_eq_true rfl⟩ rfl rfl (Nat.le_of_ble_eq_true rfl) ?_
      exact ww_vret (pc := 24) X dX10_asks_24 (by cases hF; rfl)
set_option maxRecDepth 100000 in
set_option maxHeartbeats 4000000 in
theorem kX10_asks (l : Launch) (G : gG) (hG : gOK G zM.1) (hT : G.2.2.1.map (fun q => q.2) = zM.2.1) (σ : gS) (p1 : Nat) (out : gS) (hF : fX10_asks σ p1 = some out) : gCv l yX10_asks wsX10_asks rmX10_asks G zM [.ref (G.2.1 0), .ref (G.2.1 p1)] σ out :=
  gEnter (by decide) rfl ⟨rfl, rfl⟩ hG hT (Nat.le_of_ble_eq_true rfl) rfl (fun M X hl => wX10_asks X σ p1 hF)
noncomputable def fX10_takesSign (σ : gS) (p1 : Int32) : Option (Int32 × gS) :=
  if (σ.1 0 5) = 0 then bd2 (fX10_look σ) fun r3 σ4 => (if r3 = p1 then nm (gsI σ4 0 2 ((σ4.1 0 2) + 1)) fun σ6 => some (1, σ6) else some (0, σ4)) else some (0, σ)
noncomputable abbrev rmX10_takesSign : Room := { frames := 1, cells := 0, slots := 0, locals := 20 }
set_option maxRecDepth 100000 in
set_option maxHeartbeats 4000000 in
theorem wX10_takesSign {M : gM} {G : gG} {out : Int32 × gS} (X : gX M G zM cX10_takesSign RX10 2 wsX10_takesSign rmX10_takesSign (some .boolean)) (σ : gS) (p1 : Int32) (hF : fX10_takesSign σ p1 = some out) : WW M (gQi M G zM out.1 out.2) G zM 2 σ 0 [(0, .ref (G.2.1 0)), (1, .int p1)] [] := by
  unfold fX10_takesSign at hF
  refine ww_aload_n (pc := 0) X (j := 0) dX10_takesSign_0 rfl rfl ?_
  refine ww_get (pc := 1) X (ref := "PictureBlockModel") (T := TX10) (j := 5) dX10_takesSign_1 inX10_takesSign_RX10 shzM_0 clzM_10 (by decide) rfl (List.mem_of_getElem? (i := 1) rfl) rfl ?_
  refine ww_if_ne (pc := 4) (tgt := 15) X dX10_takesSign_4 (by decide) hF (fun h1 hF => ?_) (fun h1 hF => ?_)
  · refine ww_iconst (pc := 15) X (v := 0) dX10_takesSign_15 (by decide) ?_
    exact ww_zret (pc := 16) X dX10_takesSign_16 (by cases hF; rfl) (by cases hF; rfl)
  · refine ww_aload_n (pc := 7) X (j := 0) dX10_takesSign_7 rfl rfl ?_
    obtain ⟨r3, σ4, h2, hF⟩ := bd2_some hF
    refine ww_callVi (pc := 8) X (As := []) (rest := []) dX10_takesSign_8 (kX10_look (mL M) G X.2.2.2.2.2.2.1 X.2.2.2.2.2.2.2.1 σ (r3, σ4) h2) rfl shzM_0 clzM_10 gX10_takesSign_X10_look hyX10_look ⟨rfl, rfl⟩ ⟨Nat.le_of_ble_eq_true rfl, Nat.le_of_ble_eq_true rfl⟩ rfl rfl (Nat.le_of_ble_eq_true rfl) ?_
    refine ww_iload_n (pc := 11) X (j := 1) dX10_takesSign_11 rfl rfl ?_
    refine ww_icmp_eq (pc := 12) (tgt := 17) X dX10_takesSign_12 (by decide) hF (fun h5 hF => ?_) (fun h5 hF => ?_)
    · refine ww_aload_n (pc := 17) X (j := 0) dX10_takesSign_17 rfl rfl ?_
      refine ww_dup (pc := 18) X dX10_takesSign_18 rfl ?_
      refine ww_get (pc := 19) X (ref := "PictureBlockModel") (T := TX10) (j := 2) dX10_takesSign_19 inX10_takesSign_RX10 shzM_0 clzM_10 (by decide) rfl (List.mem_of_getElem? (i := 2) rfl) rfl ?_
      refine ww_iconst (pc := 22) X (v := 1) dX10_takesSign_22 (by decide) ?_
      refine ww_iadd (pc := 23) X dX10_takesSign_23 ?_
      refine ww_putI (pc := 24) X (ref := "PictureBlockModel") (T := TX10) (j := 2) dX10_takesSign_24 inX10_takesSign_RX10 tyX10 tyX10_ok nmX10 shzM_0 clzM_10 (by decide) rfl (List.mem_of_getElem? (i := 2) rfl) rfl rfl (by decide +kernel) hF (fun σ6 eσ6 hF => ?_)
      refine ww_iconst (pc := 27) X (v := 1) dX10_takesSign_27 (by decide) ?_
      exact ww_zret (pc := 28) X dX10_takesSign_28 (by cases hF; rfl) (by cases hF; rfl)
    · refine ww_iconst (pc := 15) X (v := 0) dX10_takesSign_15 (by decide) ?_
      exact ww_zret (pc := 16) X dX10_takesSign_16 (by cases hF; rfl) (by cases hF; rfl)
set_option maxRecDepth 100000 in
set_option maxHeartbeats 4000000 in
theorem kX10_takesSign (l : Launch) (G : gG) (hG : gOK G zM.1) (hT : G.2.2.1.map (fun q => q.2) = zM.2.1) (σ : gS) (p1 : Int32) (out : Int32 × gS) (hF : fX10_takesSign σ p1 = some out) : gCi l yX10_takesSign wsX10_takesSign rmX10_takesSign G zM [.ref (G.2.1 0), .int p1] σ out.1 out.2 :=
  gEnter (by decide) rfl ⟨rfl, rfl⟩ hG hT (Nat.le_of_ble_eq_true rfl) rfl (fun M X hl => wX10_takesSign X σ p1 hF)
noncomputable def fX10_asksSign (σ : gS) (p1 : Int32) : Option (gS) :=
  if (σ.1 0 5) = 0 then bd2 (fX10_takesSign σ p1) fun r3 σ4 => (if r3 = 0 then bd (fX10_fail σ4 1 (σ4.1 0 2)) fun σ7 => some σ7 else some σ4) else some σ
noncomputable abbrev rmX10_asksSign : Room := { frames := 2, cells := 0, slots := 0, locals := 41 }
set_option maxRecDepth 100000 in
set_option maxHeartbeats 4000000 in
theorem wX10_asksSign {M : gM} {G : gG} {out : gS} (X : gX M G zM cX10_asksSign RX10 2 wsX10_asksSign rmX10_asksSign none) (σ : gS) (p1 : Int32) (hF : fX10_asksSign σ p1 = some out) : WW M (gQv M G zM out) G zM 2 σ 0 [(0, .ref (G.2.1 0)), (1, .int p1)] [] := by
  unfold fX10_asksSign at hF
  refine ww_aload_n (pc := 0) X (j := 0) dX10_asksSign_0 rfl rfl ?_
  refine ww_get (pc := 1) X (ref := "PictureBlockModel") (T := TX10) (j := 5) dX10_asksSign_1 inX10_asksSign_RX10 shzM_0 clzM_10 (by decide) rfl (List.mem_of_getElem? (i := 1) rfl) rfl ?_
  refine ww_if_ne (pc := 4) (tgt := 24) X dX10_asksSign_4 (by decide) hF (fun h1 hF => ?_) (fun h1 hF => ?_)
  · exact ww_vret (pc := 24) X dX10_asksSign_24 (by cases hF; rfl)
  · refine ww_aload_n (pc := 7) X (j := 0) dX10_asksSign_7 rfl rfl ?_
    refine ww_iload_n (pc := 8) X (j := 1) dX10_asksSign_8 rfl rfl ?_
    obtain ⟨r3, σ4, h2, hF⟩ := bd2_some hF
    refine ww_callVi (pc := 9) X (As := [.int p1]) (rest := []) dX10_asksSign_9 (kX10_takesSign (mL M) G X.2.2.2.2.2.2.1 X.2.2.2.2.2.2.2.1 σ p1 (r3, σ4) h2) rfl shzM_0 clzM_10 gX10_asksSign_X10_takesSign hyX10_takesSign ⟨rfl, rfl⟩ ⟨Nat.le_of_ble_eq_true rfl, Nat.le_of_ble_eq_true rfl⟩ rfl rfl (Nat.le_of_ble_eq_true rfl) ?_
    refine ww_if_ne (pc := 12) (tgt := 24) X dX10_asksSign_12 (by decide) hF (fun h5 hF => ?_) (fun h5 hF => ?_)
    · exact ww_vret (pc := 24) X dX10_asksSign_24 (by cases hF; rfl)
    · refine ww_aload_n (pc := 15) X (j := 0) dX10_asksSign_15 rfl rfl ?_
      refine ww_iconst (pc := 16) X (v := 1) dX10_asksSign_16 (by decide) ?_
      refine ww_aload_n (pc := 17) X (j := 0) dX10_asksSign_17 rfl rfl ?_
      refine ww_get (pc := 18) X (ref := "PictureBlockModel") (T := TX10) (j := 2) dX10_asksSign_18 inX10_asksSign_RX10 shzM_0 clzM_10 (by decide) rfl (List.mem_of_getElem? (i := 2) rfl) rfl ?_
      obtain ⟨σ7, h6, hF⟩ := bd_some hF
      refine ww_callVv (pc := 21) X (As := [.int 1, .int (σ4.1 0 2)]) (rest := []) dX10_asksSign_21 (kX10_fail (mL M) G X.2.2.2.2.2.2.1 X.2.2.2.2.2.2.2.1 σ4 1 (σ4.1 0 2) σ7 h6) rfl shzM_0 clzM_10 gX10_asksSign_X10_fail hyX10_fail ⟨rfl, rfl⟩ ⟨Nat.le_of_ble_eq_true rfl, Nat.le_of_ble_eq_true rfl⟩ rfl rfl (Nat.le_of_ble_eq_true rfl) ?_
      exact ww_vret (pc := 24) X dX10_asksSign_24 (by cases hF; rfl)
set_option maxRecDepth 100000 in
set_option maxHeartbeats 4000000 in
theorem kX10_asksSign (l : Launch) (G : gG) (hG : gOK G zM.1) (hT : G.2.2.1.map (fun q => q.2) = zM.2.1) (σ : gS) (p1 : Int32) (out : gS) (hF : fX10_asksSign σ p1 = some out) : gCv l yX10_asksSign wsX10_asksSign rmX10_asksSign G zM [.ref (G.2.1 0), .int p1] σ out :=
  gEnter (by decide) rfl ⟨rfl, rfl⟩ hG hT (Nat.le_of_ble_eq_true rfl) rfl (fun M X hl => wX10_asksSign X σ p1 hF)
noncomputable def jX10_isOwnHere_71 (σ : gS) (z0 : Int32) : Option (Int32 × gS) :=
  nm (z0 : Int32) fun x5 => (if x5 = 0 then bd2 (fX10_isHere σ 8) fun r9 σ10 => (if r9 = 0 then bd2 (fX10_isHere σ10 9) fun r14 σ15 => (if r14 = 0 then bd2 (fX10_isHere σ15 10) fun r19 σ20 => (if r19 = 0 then bd2 (fX10_isHere σ20 11) fun r24 σ25 => (if r24 = 0 then bd2 (fX10_isHere σ25 12) fun r29 σ30 => (if r29 = 0 then bd2 (fX10_isHere σ30 13) fun r34 σ35 => (if r34 = 0 then nm (0 : Int32) fun x37 => some (vp_nar .boolean x37, σ35) else nm (1 : Int32) fun x38 => some (vp_nar .boolean x38, σ35)) else nm (1 : Int32) fun x32 => some (vp_nar .boolean x32, σ30)) else nm (1 : Int32) fun x27 => some (vp_nar .boolean x27, σ25)) else nm (1 : Int32) fun x22 => some (vp_nar .boolean x22, σ20)) else nm (1 : Int32) fun x17 => some (vp_nar .boolean x17, σ15)) else nm (1 : Int32) fun x12 => some (vp_nar .boolean x12, σ10)) else nm (1 : Int32) fun x7 => some (vp_nar .boolean x7, σ))
noncomputable def fX10_isOwnHere (σ : gS) : Option (Int32 × gS) :=
  bd2 (fX10_isHere σ 2) fun r2 σ3 => (if r2 = 0 then bd2 (fX10_isHere σ3 3) fun r40 σ41 => (if r40 = 0 then bd2 (fX10_isHere σ41 4) fun r44 σ45 => (if r44 = 0 then bd2 (fX10_isHere σ45 5) fun r48 σ49 => (if r48 = 0 then bd2 (fX10_isHere σ49 6) fun r52 σ53 => (if r52 = 0 then bd2 (fX10_isHere σ53 7) fun r56 σ57 => (if r56 = 0 then jX10_isOwnHere_71 σ57 0 else jX10_isOwnHere_71 σ57 1) else jX10_isOwnHere_71 σ53 1) else jX10_isOwnHere_71 σ49 1) else jX10_isOwnHere_71 σ45 1) else jX10_isOwnHere_71 σ41 1) else jX10_isOwnHere_71 σ3 1)
noncomputable abbrev rmX10_isOwnHere : Room := { frames := 2, cells := 0, slots := 0, locals := 43 }
set_option maxRecDepth 100000 in
set_option maxHeartbeats 4000000 in
theorem wjX10_isOwnHere_71 {M : gM} {G : gG} {out : Int32 × gS} (X : gX M G zM cX10_isOwnHere RX10 2 wsX10_isOwnHere rmX10_isOwnHere (some .boolean)) (σ : gS) (z0 : Int32) (hF : jX10_isOwnHere_71 σ z0 = some out) : WW M (gQi M G zM out.1 out.2) G zM 2 σ 71 [(0, .ref (G.2.1 0))] [.int z0] := by
  unfold jX10_isOwnHere_71 at hF
  refine ww_istore_n (pc := 71) X (lv' := [(0, .ref (G.2.1 0))]) dX10_isOwnHere_71 rfl (by decide) rfl hF (fun x5 ex5 hF => ?_)
  refine ww_iload_n (pc := 72) X (j := 0) dX10_isOwnHere_72 rfl rfl ?_
  refine ww_if_ne (pc := 73) (tgt := 142) X dX10_isOwnHere_73 (by decide) hF (fun h6 hF => ?_) (fun h6 hF => ?_)
  · refine ww_iconst (pc := 142) X (v := 1) dX10_isOwnHere_142 (by decide) ?_
    refine ww_goto (pc := 143) X (tgt := 147) dX10_isOwnHere_143 (by decide) ?_
    refine ww_istore_n (pc := 147) X (lv' := [(0, .ref (G.2.1 0))]) dX10_isOwnHere_147 rfl (by decide) rfl hF (fun x7 ex7 hF => ?_)
    refine ww_iload_n (pc := 148) X (j := 0) dX10_isOwnHere_148 rfl rfl ?_
    exact ww_zret (pc := 149) X dX10_isOwnHere_149 (by cases hF; rfl) (by cases hF; rfl)
  · refine ww_aload_n (pc := 76) X (j := 1) dX10_isOwnHere_76 rfl rfl ?_
    refine ww_aload_n (pc := 77) X (j := 1) dX10_isOwnHere_77 rfl rfl ?_
    refine ww_get (pc := 78) X (ref := "PictureBlockModel") (T := TX10) (j := 15) dX10_isOwnHere_78 inX10_isOwnHere_RX10 shzM_0 clzM_10 (by decide) rfl (List.mem_of_getElem? (i := 7) rfl) rfl ?_
    obtain ⟨r9, σ10, h8, hF⟩ := bd2_some hF
    refine ww_callVi (pc := 81) X (As := [.ref (G.2.1 8)]) (rest := []) dX10_isOwnHere_81 (kX10_isHere (mL M) G X.2.2.2.2.2.2.1 X.2.2.2.2.2.2.2.1 σ 8 (r9, σ10) h8) rfl shzM_0 clzM_10 gX10_isOwnHere_X10_isHere hyX10_isHere ⟨rfl, rfl⟩ ⟨Nat.le_of_ble_eq_true rfl, Nat.le_of_ble_eq_true rfl⟩ rfl rfl (Nat.le_of_ble_eq_true rfl) ?_
    refine ww_if_ne (pc := 84) (tgt := 142) X dX10_isOwnHere_84 (by decide) hF (fun h11 hF => ?_) (fun h11 hF => ?_)
    · refine ww_iconst (pc := 142) X (v := 1) dX10_isOwnHere_142 (by decide) ?_
      refine ww_goto (pc := 143) X (tgt := 147) dX10_isOwnHere_143 (by decide) ?_
      refine ww_istore_n (pc := 147) X (lv' := [(0, .ref (G.2.1 0))]) dX10_isOwnHere_147 rfl (by decide) rfl hF (fun x12 ex12 hF => ?_)
      refine ww_iload_n (pc := 148) X (j := 0) dX10_isOwnHere_148 rfl rfl ?_
      exact ww_zret (pc := 149) X dX10_isOwnHere_149 (by cases hF; rfl) (by cases hF; rfl)
    · refine ww_aload_n (pc := 87) X (j := 1) dX10_isOwnHere_87 rfl rfl ?_
      refine ww_aload_n (pc := 88) X (j := 1) dX10_isOwnHere_88 rfl rfl ?_
      refine ww_get (pc := 89) X (ref := "PictureBlockModel") (T := TX10) (j := 16) dX10_isOwnHere_89 inX10_isOwnHere_RX10 shzM_0 clzM_10 (by decide) rfl (List.mem_of_getElem? (i := 8) rfl) rfl ?_
      obtain ⟨r14, σ15, h13, hF⟩ := bd2_some hF
      refine ww_callVi (pc := 92) X (As := [.ref (G.2.1 9)]) (rest := []) dX10_isOwnHere_92 (kX10_isHere (mL M) G X.2.2.2.2.2.2.1 X.2.2.2.2.2.2.2.1 σ10 9 (r14, σ15) h13) rfl shzM_0 clzM_10 gX10_isOwnHere_X10_isHere hyX10_isHere ⟨rfl, rfl⟩ ⟨Nat.le_of_ble_eq_true rfl, Nat.le_of_ble_eq_true rfl⟩ rfl rfl (Nat.le_of_ble_eq_true rfl) ?_
      refine ww_if_ne (pc := 95) (tgt := 142) X dX10_isOwnHere_95 (by decide) hF (fun h16 hF => ?_) (fun h16 hF => ?_)
      · refine ww_iconst (pc := 142) X (v := 1) dX10_isOwnHere_142 (by decide) ?_
        refine ww_goto (pc := 143) X (tgt := 147) dX10_isOwnHere_143 (by decide) ?_
        refine ww_istore_n (pc := 147) X (lv' := [(0, .ref (G.2.1 0))]) dX10_isOwnHere_147 rfl (by decide) rfl hF (fun x17 ex17 hF => ?_)
        refine ww_iload_n (pc := 148) X (j := 0) dX10_isOwnHere_148 rfl rfl ?_
        exact ww_zret (pc := 149) X dX10_isOwnHere_149 (by cases hF; rfl) (by cases hF; rfl)
      · refine ww_aload_n (pc := 98) X (j := 1) dX10_isOwnHere_98 rfl rfl ?_
        refine ww_aload_n (pc := 99) X (j := 1) dX10_isOwnHere_99 rfl rfl ?_
        refine ww_get (pc := 100) X (ref := "PictureBlockModel") (T := TX10) (j := 17) dX10_isOwnHere_100 inX10_isOwnHere_RX10 shzM_0 clzM_10 (by decide) rfl (List.mem_of_getElem? (i := 9) rfl) rfl ?_
        obtain ⟨r19, σ20, h18, hF⟩ := bd2_some hF
        refine ww_callVi (pc := 103) X (As := [.ref (G.2.1 10)]) (rest := []) dX10_isOwnHere_103 (kX10_isHere (mL M) G X.2.2.2.2.2.2.1 X.2.2.2.2.2.2.2.1 σ15 10 (r19, σ20) h18) rfl shzM_0 clzM_10 gX10_isOwnHere_X10_isHere hyX10_isHere ⟨rfl, rfl⟩ ⟨Nat.le_of_ble_eq_true rfl, Nat.le_of_ble_eq_true rfl⟩ rfl rfl (Nat.le_of_ble_eq_true rfl) ?_
        refine ww_if_ne (pc := 106) (tgt := 142) X dX10_isOwnHere_106 (by decide) hF (fun h21 hF => ?_) (fun h21 hF => ?_)
        · refine ww_iconst (pc := 142) X (v := 1) dX10_isOwnHere_142 (by decide) ?_
          refine ww_goto (pc := 143) X (tgt := 147) dX10_isOwnHere_143 (by decide) ?_
          refine ww_istore_n (pc := 147) X (lv' := [(0, .ref (G.2.1 0))]) dX10_isOwnHere_147 rfl (by decide) rfl hF (fun x22 ex22 hF => ?_)
          refine ww_iload_n (pc := 148) X (j := 0) dX10_isOwnHere_148 rfl rfl ?_
          exact ww_zret (pc := 149) X dX10_isOwnHere_149 (by cases hF; rfl) (by cases hF; rfl)
        · refine ww_aload_n (pc := 109) X (j := 1) dX10_isOwnHere_109 rfl rfl ?_
          refine ww_aload_n (pc := 110) X (j := 1) dX10_isOwnHere_110 rfl rfl ?_
          refine ww_get (pc := 111) X (ref := "PictureBlockModel") (T := TX10) (j := 18) dX10_isOwnHere_111 inX10_isOwnHere_RX10 shzM_0 clzM_10 (by decide) rfl (List.mem_of_getElem? (i := 10) rfl) rfl ?_
          obtain ⟨r24, σ25, h23, hF⟩ := bd2_some hF
          refine ww_callVi (pc := 114) X (As := [.ref (G.2.1 11)]) (rest := []) dX10_isOwnHere_114 (kX10_isHere (mL M) G X.2.2.2.2.2.2.1 X.2.2.2.2.2.2.2.1 σ20 11 (r24, σ25) h23) rfl shzM_0 clzM_10 gX10_isOwnHere_X10_isHere hyX10_isHere ⟨rfl, rfl⟩ ⟨Nat.le_of_ble_eq_true rfl, Nat.le_of_ble_eq_true rfl⟩ rfl rfl (Nat.le_of_ble_eq_true rfl) ?_
          refine ww_if_ne (pc := 117) (tgt := 142) X dX10_isOwnHere_117 (by decide) hF (fun h26 hF => ?_) (fun h26 hF => ?_)
          · refine ww_iconst (pc := 142) X (v := 1) dX10_isOwnHere_142 (by decide) ?_
            refine ww_goto (pc := 143) X (tgt := 147) dX10_isOwnHere_143 (by decide) ?_
            refine ww_istore_n (pc := 147) X (lv' := [(0, .ref (G.2.1 0))]) dX10_isOwnHere_147 rfl (by decide) rfl hF (fun x27 ex27 hF => ?_)
            refine ww_iload_n (pc := 148) X (j := 0) dX10_isOwnHere_148 rfl rfl ?_
            exact ww_zret (pc := 149) X dX10_isOwnHere_149 (by cases hF; rfl) (by cases hF; rfl)
          · refine ww_aload_n (pc := 120) X (j := 1) dX10_isOwnHere_120 rfl rfl ?_
            refine ww_aload_n (pc := 121) X (j := 1) dX10_isOwnHere_121 rfl rfl ?_
            refine ww_get (pc := 122) X (ref := "PictureBlockModel") (T := TX10) (j := 19) dX10_isOwnHere_122 inX10_isOwnHere_RX10 shzM_0 clzM_10 (by decide) rfl (List.mem_of_getElem? (i := 11) rfl) rfl ?_
            obtain ⟨r29, σ30, h28, hF⟩ := bd2_some hF
            refine ww_callVi (pc := 125) X (As := [.ref (G.2.1 12)]) (rest := []) dX10_isOwnHere_125 (kX10_isHere (mL M) G X.2.2.2.2.2.2.1 X.2.2.2.2.2.2.2.1 σ25 12 (r29, σ30) h28) rfl shzM_0 clzM_10 gX10_isOwnHere_X10_isHere hyX10_isHere ⟨rfl, rfl⟩ ⟨Nat.le_of_ble_eq_true rfl, Nat.le_of_ble_eq_true rfl⟩ rfl rfl (Nat.le_of_ble_eq_true rfl) ?_
            refine ww_if_ne (pc := 128) (tgt := 142) X dX10_isOwnHere_128 (by decide) hF (fun h31 hF => ?_) (fun h31 hF => ?_)
            · refine ww_iconst (pc := 142) X (v := 1) dX10_isOwnHere_142 (by decide) ?_
              refine ww_goto (pc := 143) X (tgt := 147) dX10_isOwnHere_143 (by decide) ?_
              refine ww_istore_n (pc := 147) X (lv' := [(0, .ref (G.2.1 0))]) dX10_isOwnHere_147 rfl (by decide) rfl hF (fun x32 ex32 hF => ?_)
              refine ww_iload_n (pc := 148) X (j := 0) dX10_isOwnHere_148 rfl rfl ?_
              exact ww_zret (pc := 149) X dX10_isOwnHere_149 (by cases hF; rfl) (by cases hF; rfl)
            · refine ww_aload_n (pc := 131) X (j := 1) dX10_isOwnHere_131 rfl rfl ?_
              refine ww_aload_n (pc := 132) X (j := 1) dX10_isOwnHere_132 rfl rfl ?_
              refine ww_get (pc := 133) X (ref := "PictureBlockModel") (T := TX10) (j := 20) dX10_isOwnHere_133 inX10_isOwnHere_RX10 shzM_0 clzM_10 (by decide) rfl (List.mem_of_getElem? (i := 12) rfl) rfl ?_
              obtain ⟨r34, σ35, h33, hF⟩ := bd2_some hF
              refine ww_callVi (pc := 136) X (As := [.ref (G.2.1 13)]) (rest := []) dX10_isOwnHere_136 (kX10_isHere (mL M) G X.2.2.2.2.2.2.1 X.2.2.2.2.2.2.2.1 σ30 13 (r34, σ35) h33) rfl shzM_0 clzM_10 gX10_isOwnHere_X10_isHere hyX10_isHere ⟨rfl, rfl⟩ ⟨Nat.le_of_ble_eq_true rfl, Nat.le_of_ble_eq_true rfl⟩ rfl rfl (Nat.le_of_ble_eq_true rfl) ?_
              refine ww_if_eq (pc := 139) (tgt := 146) X dX10_isOwnHere_139 (by decide) hF (fun h36 hF => ?_) (fun h36 hF => ?_)
              · refine ww_iconst (pc := 146) X (v := 0) dX10_isOwnHere_146 (by decide) ?_
                refine ww_istore_n (pc := 147) X (lv' := [(0, .ref (G.2.1 0))]) dX10_isOwnHere_147 rfl (by decide) rfl hF (fun x37 ex37 hF => ?_)
                refine ww_iload_n (pc := 148) X (j := 0) dX10_isOwnHere_148 rfl rfl ?_
                exact ww_zret (pc := 149) X dX10_isOwnHere_149 (by cases hF; rfl) (by cases hF; rfl)
              · refine ww_iconst (pc := 142) X (v := 1) dX10_isOwnHere_142 (by decide) ?_
                refine ww_goto (pc := 143) X (tgt := 147) dX10_isOwnHere_143 (by decide) ?_
                refine ww_istore_n (pc := 147) X (lv' := [(0, .ref (G.2.1 0))]) dX10_isOwnHere_147 rfl (by decide) rfl hF (fun x38 ex38 hF => ?_)
                refine ww_iload_n (pc := 148) X (j := 0) dX10_isOwnHere_148 rfl rfl ?_
                exact ww_zret (pc := 149) X dX10_isOwnHere_149 (by cases hF; rfl) (by cases hF; rfl)
set_option maxRecDepth 100000 in
set_option maxHeartbeats 4000000 in
theorem wX10_isOwnHere {M : gM} {G : gG} {out : Int32 × gS} (X : gX M G zM cX10_isOwnHere RX10 2 wsX10_isOwnHere rmX10_isOwnHere (some .boolean)) (σ : gS) (hF : fX10_isOwnHere σ = some out) : WW M (gQi M G zM out.1 out.2) G zM 2 σ 0 [(0, .ref (G.2.1 0))] [] := by
  unfold fX10_isOwnHere at hF
  refine ww_aload_n (pc := 0) X (j := 0) dX10_isOwnHere_0 rfl rfl ?_
  refine ww_aload_n (pc := 1) X (j := 0) dX10_isOwnHere_1 rfl rfl ?_
  refine ww_get (pc := 2) X (ref := "PictureBlockModel") (T := TX10) (j := 9) dX10_isOwnHere_2 inX10_isOwnHere_RX10 shzM_0 clzM_10 (by decide) rfl (List.mem_of_getElem? (i := 1) rfl) rfl ?_
  obtain ⟨r2, σ3, h1, hF⟩ := bd2_some hF
  refine ww_callVi (pc := 5) X (As := [.ref (G.2.1 2)]) (rest := []) dX10_isOwnHere_5 (kX10_isHere (mL M) G X.2.2.2.2.2.2.1 X.2.2.2.2.2.2.2.1 σ 2 (r2, σ3) h1) rfl shzM_0 clzM_10 gX10_isOwnHere_X10_isHere hyX10_isHere ⟨rfl, rfl⟩ ⟨Nat.le_of_ble_eq_true rfl, Nat.le_of_ble_eq_true rfl⟩ rfl rfl (Nat.le_of_ble_eq_true rfl) ?_
  refine ww_if_ne (pc := 8) (tgt := 66) X dX10_isOwnHere_8 (by decide) hF (fun h4 hF => ?_) (fun h4 hF => ?_)
  · refine ww_iconst (pc := 66) X (v := 1) dX10_isOwnHere_66 (by decide) ?_
    refine ww_goto (pc := 67) X (tgt := 71) dX10_isOwnHere_67 (by decide) ?_
    exact ww_sub [0] rfl (wjX10_isOwnHere_71 X σ3 1 hF)
  · refine ww_aload_n (pc := 11) X (j := 0) dX10_isOwnHere_11 rfl rfl ?_
    refine ww_aload_n (pc := 12) X (j := 0) dX10_isOwnHere_12 rfl rfl ?_
    refine ww_get (pc := 13) X (ref := "PictureBlockModel") (T := TX10) (j := 10) dX10_isOwnHere_13 inX10_isOwnHere_RX10 shzM_0 clzM_10 (by decide) rfl (List.mem_of_getElem? (i := 2) rfl) rfl ?_
    obtain ⟨r40, σ41, h39, hF⟩ := bd2_some hF
    refine ww_callVi (pc := 16) X (As := [.ref (G.2.1 3)]) (rest := []) dX10_isOwnHere_16 (kX10_isHere (mL M) G X.2.2.2.2.2.2.1 X.2.2.2.2.2.2.2.1 σ3 3 (r40, σ41) h39) rfl shzM_0 clzM_10 gX10_isOwnHere_X10_isHere hyX10_isHere ⟨rfl, rfl⟩ ⟨Nat.le_of_ble_eq_true rfl, Nat.le_of_ble_eq_true rfl⟩ rfl rfl (Nat.le_of_ble_eq_true rfl) ?_
    refine ww_if_ne (pc := 19) (tgt := 66) X dX10_isOwnHere_19 (by decide) hF (fun h42 hF => ?_) (fun h42 hF => ?_)
    · refine ww_iconst (pc := 66) X (v := 1) dX10_isOwnHere_66 (by decide) ?_
      refine ww_goto (pc := 67) X (tgt := 71) dX10_isOwnHere_67 (by decide) ?_
      exact ww_sub [0] rfl (wjX10_isOwnHere_71 X σ41 1 hF)
    · refine ww_aload_n (pc := 22) X (j := 0) dX10_isOwnHere_22 rfl rfl ?_
      refine ww_aload_n (pc := 23) X (j := 0) dX10_isOwnHere_23 rfl rfl ?_
      refine ww_get (pc := 24) X (ref := "PictureBlockModel") (T := TX10) (j := 11) dX10_isOwnHere_24 inX10_isOwnHere_RX10 shzM_0 clzM_10 (by decide) rfl (List.mem_of_getElem? (i := 3) rfl) rfl ?_
      obtain ⟨r44, σ45, h43, hF⟩ := bd2_some hF
      refine ww_callVi (pc := 27) X (As := [.ref (G.2.1 4)]) (rest := []) dX10_isOwnHere_27 (kX10_isHere (mL M) G X.2.2.2.2.2.2.1 X.2.2.2.2.2.2.2.1 σ41 4 (r44, σ45) h43) rfl shzM_0 clzM_10 gX10_isOwnHere_X10_isHere hyX10_isHere ⟨rfl, rfl⟩ ⟨Nat.le_of_ble_eq_true rfl, Nat.le_of_ble_eq_true rfl⟩ rfl rfl (Nat.le_of_ble_eq_true rfl) ?_
      refine ww_if_ne (pc := 30) (tgt := 66) X dX10_isOwnHere_30 (by decide) hF (fun h46 hF => ?_) (fun h46 hF => ?_)
      · refine ww_iconst (pc := 66) X (v := 1) dX10_isOwnHere_66 (by decide) ?_
        refine ww_goto (pc := 67) X (tgt := 71) dX10_isOwnHere_67 (by decide) ?_
        exact ww_sub [0] rfl (wjX10_isOwnHere_71 X σ45 1 hF)
      · refine ww_aload_n (pc := 33) X (j := 0) dX10_isOwnHere_33 rfl rfl ?_
        refine ww_aload_n (pc := 34) X (j := 0) dX10_isOwnHere_34 rfl rfl ?_
        refine ww_get (pc := 35) X (ref := "PictureBlockModel") (T := TX10) (j := 12) dX10_isOwnHere_35 inX10_isOwnHere_RX10 shzM_0 clzM_10 (by decide) rfl (List.mem_of_getElem? (i := 4) rfl) rfl ?_
        obtain ⟨r48, σ49, h47, hF⟩ := bd2_some hF
        refine ww_callVi (pc := 38) X (As := [.ref (G.2.1 5)]) (rest := []) dX10_isOwnHere_38 (kX10_isHere (mL M) G X.2.2.2.2.2.2.1 X.2.2.2.2.2.2.2.1 σ45 5 (r48, σ49) h47) rfl shzM_0 clzM_10 gX10_isOwnHere_X10_isHere hyX10_isHere ⟨rfl, rfl⟩ ⟨Nat.le_of_ble_eq_true rfl, Nat.le_of_ble_eq_true rfl⟩ rfl rfl (Nat.le_of_ble_eq_true rfl) ?_
        refine ww_if_ne (pc := 41) (tgt := 66) X dX10_isOwnHere_41 (by decide) hF (fun h50 hF => ?_) (fun h50 hF => ?_)
        · refine ww_iconst (pc := 66) X (v := 1) dX10_isOwnHere_66 (by decide) ?_
          refine ww_goto (pc := 67) X (tgt := 71) dX10_isOwnHere_67 (by decide) ?_
          exact ww_sub [0] rfl (wjX10_isOwnHere_71 X σ49 1 hF)
        · refine ww_aload_n (pc := 44) X (j := 0) dX10_isOwnHere_44 rfl rfl ?_
          refine ww_aload_n (pc := 45) X (j := 0) dX10_isOwnHere_45 rfl rfl ?_
          refine ww_get (pc := 46) X (ref := "PictureBlockModel") (T := TX10) (j := 13) dX10_isOwnHere_46 inX10_isOwnHere_RX10 shzM_0 clzM_10 (by decide) rfl (List.mem_of_getElem? (i := 5) rfl) rfl ?_
          obtain ⟨r52, σ53, h51, hF⟩ := bd2_some hF
          refine ww_callVi (pc := 49) X (As := [.ref (G.2.1 6)]) (rest := []) dX10_isOwnHere_49 (kX10_isHere (mL M) G X.2.2.2.2.2.2.1 X.2.2.2.2.2.2.2.1 σ49 6 (r52, σ53) h51) rfl shzM_0 clzM_10 gX10_isOwnHere_X10_isHere hyX10_isHere ⟨rfl, rfl⟩ ⟨Nat.le_of_ble_eq_true rfl, Nat.le_of_ble_eq_true rfl⟩ rfl rfl (Nat.le_of_ble_eq_true rfl) ?_
          refine ww_if_ne (pc := 52) (tgt := 66) X dX10_isOwnHere_52 (by decide) hF (fun h54 hF => ?_) (fun h54 hF => ?_)
          · refine ww_iconst (pc := 66) X (v := 1) dX10_isOwnHere_66 (by decide) ?_
            refine ww_goto (pc := 67) X (tgt := 71) dX10_isOwnHere_67 (by decide) ?_
            exact ww_sub [0] rfl (wjX10_isOwnHere_71 X σ53 1 hF)
          · refine ww_aload_n (pc := 55) X (j := 0) dX10_isOwnHere_55 rfl rfl ?_
            refine ww_aload_n (pc := 56) X (j := 0) dX10_isOwnHere_56 rfl rfl ?_
            refine ww_get (pc := 57) X (ref := "PictureBlockModel") (T := TX10) (j := 14) dX10_isOwnHere_57 inX10_isOwnHere_RX10 shzM_0 clzM_10 (by decide) rfl (List.mem_of_getElem? (i := 6) rfl) rfl ?_
            obtain ⟨r56, σ57, h55, hF⟩ := bd2_some hF
            refine ww_callVi (pc := 60) X (As := [.ref (G.2.1 7)]) (rest := []) dX10_isOwnHere_60 (kX10_isHere (mL M) G X.2.2.2.2.2.2.1 X.2.2.2.2.2.2.2.1 σ53 7 (r56, σ57) h55) rfl shzM_0 clzM_10 gX10_isOwnHere_X10_isHere hyX10_isHere ⟨rfl, rfl⟩ ⟨Nat.le_of_ble_eq_true rfl, Nat.le_of_ble_eq_true rfl⟩ rfl rfl (Nat.le_of_ble_eq_true rfl) ?_
            refine ww_if_eq (pc := 63) (tgt := 70) X dX10_isOwnHere_63 (by decide) hF (fun h58 hF => ?_) (fun h58 hF => ?_)
            · refine ww_iconst (pc := 70) X (v := 0) dX10_isOwnHere_70 (by decide) ?_
              exact ww_sub [0] rfl (wjX10_isOwnHere_71 X σ57 0 hF)
            · refine ww_iconst (pc := 66) X (v := 1) dX10_isOwnHere_66 (by decide) ?_
              refine ww_goto (pc := 67) X (tgt := 71) dX10_isOwnHere_67 (by decide) ?_
              exact ww_sub [0] rfl (wjX10_isOwnHere_71 X σ57 1 hF)
set_option maxRecDepth 100000 in
set_option maxHeartbeats 4000000 in
theorem kX10_isOwnHere (l : Launch) (G : gG) (hG : gOK G zM.1) (hT : G.2.2.1.map (fun q => q.2) = zM.2.1) (σ : gS) (out : Int32 × gS) (hF : fX10_isOwnHere σ = some out) : gCi l yX10_isOwnHere wsX10_isOwnHere rmX10_isOwnHere G zM [.ref (G.2.1 0)] σ out.1 out.2 :=
  gEnter (by decide) rfl ⟨rfl, rfl⟩ hG hT (Nat.le_of_ble_eq_true rfl) rfl (fun M X hl => wX10_isOwnHere X σ hF)
noncomputable def jX10_name_37 (σ : gS) : Option (Int64 × gS) :=
  bd (fX10_fail σ 1 (σ.1 0 2)) fun σ9 => some (0, σ9)
noncomputable def bX10_name_58 (σ : gS) (rec58 : Int64 → gS → Option (Int64 × gS)) (a1 : Int64) (σ1 : gS) : Option (Int64 × gS) :=
  if (σ1.1 0 3) ≤ (σ1.1 0 2) then nm (gsI σ1 0 4 (σ1.1 0 2)) fun σ18 => some (a1, σ18) else gd (gb (σ1.1 0 2) 1600) <| nm (σ1.1 1 (σ1.1 0 2).toNatClampNeg) fun v19 => bd (fX10_isLetter σ1 v19) fun r21 => (if r21 = 0 then nm (gsI σ1 0 4 (σ1.1 0 2)) fun σ23 => some (a1, σ23) else if ((σ1.1 0 2) - (σ1.1 0 21)) = 6 then bd (fX10_fail σ1 1 (σ1.1 0 2)) fun σ29 => some (0, σ29) else gd (gb (σ1.1 0 2) 1600) <| nm (σ1.1 1 (σ1.1 0 2).toNatClampNeg) fun v25 => nm ((((27 * a1) + v25.toInt64) - 97) + 1 : Int64) fun x26 => nm (gsI σ1 0 2 ((σ1.1 0 2) + 1)) fun σ27 => rec58 x26 σ27)
noncomputable def fX10_name (σ : gS) : Option (Int64 × gS) :=
  if (σ.1 0 5) = 0 then bd2 (fX10_look σ) fun r3 σ4 => bd (fX10_isLetter σ4 r3) fun r6 => (if r6 = 0 then jX10_name_37 σ4 else if (σ4.1 0 2) = (σ4.1 0 4) then jX10_name_37 σ4 else bd2 (fX10_isOwnHere σ4) fun r12 σ13 => (if r12 = 0 then nm (gsI σ13 0 21 (σ13.1 0 2)) fun σ15 => nm (0 : Int64) fun x16 => lpc (S := Int64 × gS) K9 (fun rec s => bX10_name_58 σ15 (fun a1 σ1 => rec (a1, σ1)) s.1 s.2) (x16, σ15) else jX10_name_37 σ13)) else some (0, σ)
noncomputable abbrev rmX10_name : Room := { frames := 3, cells := 0, slots := 0, locals := 64 }
set_option maxRecDepth 100000 in
set_option maxHeartbeats 4000000 in
theorem wjX10_name_37 {M : gM} {G : gG} {out : Int64 × gS} (X : gX M G zM cX10_name RX10 3 wsX10_name rmX10_name (some .long)) (σ : gS) (hF : jX10_name_37 σ = some out) : WW M (gQl M G zM out.1 out.2) G zM 3 σ 37 [(0, .ref (G.2.1 0))] [] := by
  unfold jX10_name_37 at hF
  refine ww_aload_n (pc := 37) X (j := 0) dX10_name_37 rfl rfl ?_
  refine ww_iconst (pc := 38) X (v := 1) dX10_name_38 (by decide) ?_
  refine ww_aload_n (pc := 39) X (j := 0) dX10_name_39 rfl rfl ?_
  refine ww_get (pc := 40) X (ref := "PictureBlockModel") (T := TX10) (j := 2) dX10_name_40 inX10_name_RX10 shzM_0 clzM_10 (by decide) rfl (List.mem_of_getElem? (i := 2) rfl) rfl ?_
  obtain ⟨σ9, h8, hF⟩ := bd_some hF
  refine ww_callVv (pc := 43) X (As := [.int 1, .int (σ.1 0 2)]) (rest := []) dX10_name_43 (kX10_fail (mL M) G X.2.2.2.2.2.2.1 X.2.2.2.2.2.2.2.1 σ 1 (σ.1 0 2) σ9 h8) rfl shzM_0 clzM_10 gX10_name_X10_fail hyX10_fail ⟨rfl, rfl⟩ ⟨Nat.le_of_ble_eq_true rfl, Nat.le_of_ble_eq_true rfl⟩ rfl rfl (Nat.le_of_ble_eq_true rfl) ?_
  refine ww_lconst (pc := 46) X (v := 0) dX10_name_46 (by decide) ?_
  exact ww_lret (pc := 47) X dX10_name_47 (fst_of hF) (snd_of hF)
set_option maxRecDepth 100000 in
set_option maxHeartbeats 4000000 in
theorem wbX10_name_58 {M : gM} {G : gG} {out : Int64 × gS} (X : gX M G zM cX10_name RX10 3 wsX10_name rmX10_name (some .long)) (σ : gS) (rec58 : Int64 → gS → Option (Int64 × gS)) (ih58 : ∀ (a1 : Int64) (σ1 : gS), rec58 a1 σ1 = some out → WW M (gQl M G zM out.1 out.2) G zM 3 σ1 58 [(0, .ref (G.2.1 0)), (1, .long a1)] []) (a1 : Int64) (σ1 : gS) (hF : bX10_name_58 σ rec58 a1 σ1 = some out) : WW M (gQl M G zM out.1 out.2) G zM 3 σ1 58 [(0, .ref (G.2.1 0)), (1, .long a1)] [] := by
  unfold bX10_name_58 at hF
  refine ww_aload_n (pc := 58) X (j := 0) dX10_name_58 rfl rfl ?_
  refine ww_get (pc := 59) X (ref := "PictureBlockModel") (T := TX10) (j := 2) dX10_name_59 inX10_name_RX10 shzM_0 clzM_10 (by decide) rfl (List.mem_of_getElem? (i := 2) rfl) rfl ?_
  refine ww_aload_n (pc := 62) X (j := 0) dX10_name_62 rfl rfl ?_
  refine ww_get (pc := 63) X (ref := "PictureBlockModel") (T := TX10) (j := 3) dX10_name_63 inX10_name_RX10 shzM_0 clzM_10 (by decide) rfl (List.mem_of_getElem? (i := 5) rfl) rfl ?_
  refine ww_icmp_ge (pc := 66) (tgt := 145) X dX10_name_66 (by decide) hF (fun h17 hF => ?_) (fun h17 hF => ?_)
  · refine ww_aload_n (pc := 145) X (j := 0) dX10_name_145 rfl rfl ?_
    refine ww_aload_n (pc := 146) X (j := 0) dX10_name_146 rfl rfl ?_
    refine ww_get (pc := 147) X (ref := "PictureBlockModel") (T := TX10) (j := 2) dX10_name_147 inX10_name_RX10 shzM_0 clzM_10 (by decide) rfl (List.mem_of_getElem? (i := 2) rfl) rfl ?_
    refine ww_putI (pc := 150) X (ref := "PictureBlockModel") (T := TX10) (j := 4) dX10_name_150 inX10_name_RX10 tyX10 tyX10_ok nmX10 shzM_0 clzM_10 (by decide) rfl (List.mem_of_getElem? (i := 3) rfl) rfl rfl (by decide +kernel) hF (fun σ18 eσ18 hF => ?_)
    refine ww_lload_n (pc := 153) X (j := 1) dX10_name_153 rfl rfl ?_
    exact ww_lret (pc := 154) X dX10_name_154 (fst_of hF) (snd_of hF)
  · refine ww_aload_n (pc := 69) X (j := 0) dX10_name_69 rfl rfl ?_
    refine ww_get (pc := 70) X (ref := "PictureBlockModel") (T := TX10) (j := 0) dX10_name_70 inX10_name_RX10 shzM_0 clzM_10 (by decide) rfl (List.mem_of_getElem? (i := 6) rfl) rfl ?_
    refine ww_aload_n (pc := 73) X (j := 0) dX10_name_73 rfl rfl ?_
    refine ww_get (pc := 74) X (ref := "PictureBlockModel") (T := TX10) (j := 2) dX10_name_74 inX10_name_RX10 shzM_0 clzM_10 (by decide) rfl (List.mem_of_getElem? (i := 2) rfl) rfl ?_
    refine ww_iald (pc := 77) X dX10_name_77 shzM_1 rfl hF (fun v19 ev19 bv19 hF => ?_)
    obtain ⟨r21, h20, hF⟩ := bd_some hF
    refine ww_callSi (pc := 78) X (As := [.int v19]) (rest := []) dX10_name_78 (kX10_isLetter (mL M) G X.2.2.2.2.2.2.1 X.2.2.2.2.2.2.2.1 σ1 v19 r21 h20) rfl gX10_name_X10_isLetter hyX10_isLetter ⟨rfl, rfl⟩ ⟨Nat.le_of_ble_eq_true rfl, Nat.le_of_ble_eq_true rfl⟩ rfl rfl (Nat.le_of_ble_eq_true rfl) ?_
    refine ww_if_eq (pc := 81) (tgt := 145) X dX10_name_81 (by decide) hF (fun h22 hF => ?_) (fun h22 hF => ?_)
    · refine ww_aload_n (pc := 145) X (j := 0) dX10_name_145 rfl rfl ?_
      refine ww_aload_n (pc := 146) X (j := 0) dX10_name_146 rfl rfl ?_
      refine ww_get (pc := 147) X (ref := "PictureBlockModel") (T := TX10) (j := 2) dX10_name_147 inX10_name_RX10 shzM_0 clzM_10 (by decide) rfl (List.mem_of_getElem? (i := 2) rfl) rfl ?_
      refine ww_putI (pc := 150) X (ref := "PictureBlockModel") (T := TX10) (j := 4) dX10_name_150 inX10_name_RX10 tyX10 tyX10_ok nmX10 shzM_0 clzM_10 (by decide) rfl (List.mem_of_getElem? (i := 3) rfl) rfl rfl (by decide +kernel) hF (fun σ23 eσ23 hF => ?_)
      refine ww_lload_n (pc := 153) X (j := 1) dX10_name_153 rfl rfl ?_
      exact ww_lret (pc := 154) X dX10_name_154 (fst_of hF) (snd_of hF)
    · refine ww_aload_n (pc := 84) X (j := 0) dX10_name_84 rfl rfl ?_
      refine ww_get (pc := 85) X (ref := "PictureBlockModel") (T := TX10) (j := 2) dX10_name_85 inX10_name_RX10 shzM_0 clzM_10 (by decide) rfl (List.mem_of_getElem? (i := 2) rfl) rfl ?_
      refine ww_aload_n (pc := 88) X (j := 0) dX10_name_88 rfl rfl ?_
      refine ww_get (pc := 89) X (ref := "PictureBlockModel") (T := TX10) (j := 21) dX10_name_89 inX10_name_RX10 shzM_0 clzM_10 (by decide) rfl (List.mem_of_getElem? (i := 4) rfl) rfl ?_
      refine ww_isub (pc := 92) X dX10_name_92 ?_
      refine ww_bipush (pc := 93) X (v := 6) dX10_name_93 (by decide) ?_
      refine ww_icmp_ne (pc := 95) (tgt := 109) X dX10_name_95 (by decide) hF (fun h24 hF => ?_) (fun h24 hF => ?_)
      · refine ww_ldc2 (pc := 109) X (v := 27) (List.mem_of_getElem? (i := 7) rfl) dX10_name_109 ?_
        refine ww_lload_n (pc := 112) X (j := 1) dX10_name_112 rfl rfl ?_
        refine ww_lmul (pc := 113) X dX10_name_113 ?_
        refine ww_aload_n (pc := 114) X (j := 0) dX10_name_114 rfl rfl ?_
        refine ww_get (pc := 115) X (ref := "PictureBlockModel") (T := TX10) (j := 0) dX10_name_115 inX10_name_RX10 shzM_0 clzM_10 (by decide) rfl (List.mem_of_getElem? (i := 6) rfl) rfl ?_
        refine ww_aload_n (pc := 118) X (j := 0) dX10_name_118 rfl rfl ?_
        refine ww_get (pc := 119) X (ref := "PictureBlockModel") (T := TX10) (j := 2) dX10_name_119 inX10_name_RX10 shzM_0 clzM_10 (by decide) rfl (List.mem_of_getElem? (i := 2) rfl) rfl ?_
        refine ww_iald (pc := 122) X dX10_name_122 shzM_1 rfl hF (fun v25 ev25 bv25 hF => ?_)
        refine ww_i2l (pc := 123) X dX10_name_123 ?_
        refine ww_ladd (pc := 124) X dX10_name_124 ?_
        refine ww_ldc2 (pc := 125) X (v := 97) (List.mem_of_getElem? (i := 8) rfl) dX10_name_125 ?_
        refine ww_lsub (pc := 128) X dX10_name_128 ?_
        refine ww_lconst (pc := 129) X (v := 1) dX10_name_129 (by decide) ?_
        refine ww_ladd (pc := 130) X dX10_name_130 ?_
        refine ww_lstore_n (pc := 131) X (lv' := [(0, .ref (G.2.1 0))]) dX10_name_131 rfl (by decide) rfl hF (fun x26 ex26 hF => ?_)
        refine ww_aload_n (pc := 132) X (j := 1) dX10_name_132 rfl rfl ?_
        refine ww_dup (pc := 133) X dX10_name_133 rfl ?_
        refine ww_get (pc := 134) X (ref := "PictureBlockModel") (T := TX10) (j := 2) dX10_name_134 inX10_name_RX10 shzM_0 clzM_10 (by decide) rfl (List.mem_of_getElem? (i := 2) rfl) rfl ?_
        refine ww_iconst (pc := 137) X (v := 1) dX10_name_137 (by decide) ?_
        refine ww_iadd (pc := 138) X dX10_name_138 ?_
        refine ww_putI (pc := 139) X (ref := "PictureBlockModel") (T := TX10) (j := 2) dX10_name_139 inX10_name_RX10 tyX10 tyX10_ok nmX10 shzM_0 clzM_10 (by decide) rfl (List.mem_of_getElem? (i := 2) rfl) rfl rfl (by decide +kernel) hF (fun σ27 eσ27 hF => ?_)
        refine ww_goto (pc := 142) X (tgt := 58) dX10_name_142 (by decide) ?_
        exact ww_sub [1, 0] rfl (ih58 x26 σ27 hF)
      · refine ww_aload_n (pc := 98) X (j := 0) dX10_name_98 rfl rfl ?_
        refine ww_iconst (pc := 99) X (v := 1) dX10_name_99 (by decide) ?_
        refine ww_aload_n (pc := 100) X (j := 0) dX10_name_100 rfl rfl ?_
        refine ww_get (pc := 101) X (ref := "PictureBlockModel") (T := TX10) (j := 2) dX10_name_101 inX10_name_RX10 shzM_0 clzM_10 (by decide) rfl (List.mem_of_getElem? (i := 2) rfl) rfl ?_
        obtain ⟨σ29, h28, hF⟩ := bd_some hF
        refine ww_callVv (pc := 104) X (As := [.int 1, .int (σ1.1 0 2)]) (rest := []) dX10_name_104 (kX10_fail (mL M) G X.2.2.2.2.2.2.1 X.2.2.2.2.2.2.2.1 σ1 1 (σ1.1 0 2) σ29 h28) rfl shzM_0 clzM_10 gX10_name_X10_fail hyX10_fail ⟨rfl, rfl⟩ ⟨Nat.le_of_ble_eq_true rfl, Nat.le_of_ble_eq_true rfl⟩ rfl rfl (Nat.le_of_ble_eq_true rfl) ?_
        refine ww_lconst (pc := 107) X (v := 0) dX10_name_107 (by decide) ?_
        exact ww_lret (pc := 108) X dX10_name_108 (fst_of hF) (snd_of hF)
set_option maxRecDepth 100000 in
set_option maxHeartbeats 4000000 in
theorem wX10_name {M : gM} {G : gG} {out : Int64 × gS} (X : gX M G zM cX10_name RX10 3 wsX10_name rmX10_name (some .long)) (σ : gS) (hF : fX10_name σ = some out) : WW M (gQl M G zM out.1 out.2) G zM 3 σ 0 [(0, .ref (G.2.1 0))] [] := by
  unfold fX10_name at hF
  refine ww_aload_n (pc := 0) X (j := 0) dX10_name_0 rfl rfl ?_
  refine ww_get (pc := 1) X (ref := "PictureBlockModel") (T := TX10) (j := 5) dX10_name_1 inX10_name_RX10 shzM_0 clzM_10 (by decide) rfl (List.mem_of_getElem? (i := 1) rfl) rfl ?_
  refine ww_if_eq (pc := 4) (tgt := 9) X dX10_name_4 (by decide) hF (fun h1 hF => ?_) (fun h1 hF => ?_)
  · refine ww_aload_n (pc := 9) X (j := 0) dX10_name_9 rfl rfl ?_
    obtain ⟨r3, σ4, h2, hF⟩ := bd2_some hF
    refine ww_callVi (pc := 10) X (As := []) (rest := []) dX10_name_10 (kX10_look (mL M) G X.2.2.2.2.2.2.1 X.2.2.2.2.2.2.2.1 σ (r3, σ4) h2) rfl shzM_0 clzM_10 gX10_name_X10_look hyX10_look ⟨rfl, rfl⟩ ⟨Nat.le_of_ble_eq_true rfl, Nat.le_of_ble_eq_true rfl⟩ rfl rfl (Nat.le_of_ble_eq_true rfl) ?_
    obtain ⟨r6, h5, hF⟩ := bd_some hF
    refine ww_callSi (pc := 13) X (As := [.int r3]) (rest := []) dX10_name_13 (kX10_isLetter (mL M) G X.2.2.2.2.2.2.1 X.2.2.2.2.2.2.2.1 σ4 r3 r6 h5) rfl gX10_name_X10_isLetter hyX10_isLetter ⟨rfl, rfl⟩ ⟨Nat.le_of_ble_eq_true rfl, Nat.le_of_ble_eq_true rfl⟩ rfl rfl (Nat.le_of_ble_eq_true rfl) ?_
    refine ww_if_eq (pc := 16) (tgt := 37) X dX10_name_16 (by decide) hF (fun h7 hF => ?_) (fun h7 hF => ?_)
    · exact ww_sub [0] rfl (wjX10_name_37 X σ4 hF)
    · refine ww_aload_n (pc := 19) X (j := 0) dX10_name_19 rfl rfl ?_
      refine ww_get (pc := 20) X (ref := "PictureBlockModel") (T := TX10) (j := 2) dX10_name_20 inX10_name_RX10 shzM_0 clzM_10 (by decide) rfl (List.mem_of_getElem? (i := 2) rfl) rfl ?_
      refine ww_aload_n (pc := 23) X (j := 0) dX10_name_23 rfl rfl ?_
      refine ww_get (pc := 24) X (ref := "PictureBlockModel") (T := TX10) (j := 4) dX10_name_24 inX10_name_RX10 shzM_0 clzM_10 (by decide) rfl (List.mem_of_getElem? (i := 3) rfl) rfl ?_
      refine ww_icmp_eq (pc := 27) (tgt := 37) X dX10_name_27 (by decide) hF (fun h10 hF => ?_) (fun h10 hF => ?_)
      · exact ww_sub [0] rfl (wjX10_name_37 X σ4 hF)
      · refine ww_aload_n (pc := 30) X (j := 0) dX10_name_30 rfl rfl ?_
        obtain ⟨r12, σ13, h11, hF⟩ := bd2_some hF
        refine ww_callVi (pc := 31) X (As := []) (rest := []) dX10_name_31 (kX10_isOwnHere (mL M) G X.2.2.2.2.2.2.1 X.2.2.2.2.2.2.2.1 σ4 (r12, σ13) h11) rfl shzM_0 clzM_10 gX10_name_X10_isOwnHere hyX10_isOwnHere ⟨rfl, rfl⟩ ⟨Nat.le_of_ble_eq_true rfl, Nat.le_of_ble_eq_true rfl⟩ rfl rfl (Nat.le_of_ble_eq_true rfl) ?_
        refine ww_if_eq (pc := 34) (tgt := 48) X dX10_name_34 (by decide) hF (fun h14 hF => ?_) (fun h14 hF => ?_)
        · refine ww_aload_n (pc := 48) X (j := 0) dX10_name_48 rfl rfl ?_
          refine ww_aload_n (pc := 49) X (j := 0) dX10_name_49 rfl rfl ?_
          refine ww_get (pc := 50) X (ref := "PictureBlockModel") (T := TX10) (j := 2) dX10_name_50 inX10_name_RX10 shzM_0 clzM_10 (by decide) rfl (List.mem_of_getElem? (i := 2) rfl) rfl ?_
          refine ww_putI (pc := 53) X (ref := "PictureBlockModel") (T := TX10) (j := 21) dX10_name_53 inX10_name_RX10 tyX10 tyX10_ok nmX10 shzM_0 clzM_10 (by decide) rfl (List.mem_of_getElem? (i := 4) rfl) rfl rfl (by decide +kernel) hF (fun σ15 eσ15 hF => ?_)
          refine ww_lconst (pc := 56) X (v := 0) dX10_name_56 (by decide) ?_
          refine ww_lstore_n (pc := 57) X (lv' := [(0, .ref (G.2.1 0))]) dX10_name_57 rfl (by decide) rfl hF (fun x16 ex16 hF => ?_)
          exact ww_sub [1, 0] rfl (lpc_ind (P := (fun (s : Int64 × gS) => WW M (gQl M G zM out.1 out.2) G zM 3 s.2 58 [(0, .ref (G.2.1 0)), (1, .long s.1)] [])) (fun rec s ih hF => wbX10_name_58 X σ15 (fun a1 σ1 => rec (a1, σ1)) (fun a1 σ1 h => ih (a1, σ1) h) s.1 s.2 hF) K9 (x16, σ15) hF)
        · exact ww_sub [0] rfl (wjX10_name_37 X σ13 hF)
  · refine ww_lconst (pc := 7) X (v := 0) dX10_name_7 (by decide) ?_
    exact ww_lret (pc := 8) X dX10_name_8 (fst_of hF) (snd_of hF)
set_option maxRecDepth 100000 in
set_option maxHeartbeats 4000000 in
theorem kX10_name (l : Launch) (G : gG) (hG : gOK G zM.1) (hT : G.2.2.1.map (fun q => q.2) = zM.2.1) (σ : gS) (out : Int64 × gS) (hF : fX10_name σ = some out) : gCl l yX10_name wsX10_name rmX10_name G zM [.ref (G.2.1 0)] σ out.1 out.2 :=
  gEnter (by decide) rfl ⟨rfl, rfl⟩ hG hT (Nat.le_of_ble_eq_true rfl) rfl (fun M X hl => wX10_name X σ hF)
noncomputable def bX10_nameOf_3 (σ : gS) (c3_1 : Int32) (c3_2 : Int64) (rec3 : Int32 → Option (Int32)) (a4 : Int32) : Option (Int32) :=
  gd (gb c3_1 12) <| nm (σ.1 15 c3_1.toNatClampNeg) fun v2 => (if v2 ≤ a4 then some ((-1)) else gd (gb ((20 * c3_1) + a4) 120) <| nm (σ.2 14 ((20 * c3_1) + a4).toNatClampNeg) fun v4 => (if v4 = c3_2 then some a4 else nm (a4 + 1 : Int32) fun x6 => rec3 x6))
noncomputable def fX10_nameOf (σ : gS) (p1 : Int32) (p2 : Int64) : Option (Int32) :=
  nm (0 : Int32) fun x1 => lpc (S := Int32) K9 (fun rec s => bX10_nameOf_3 σ p1 p2 (fun a4 => rec (a4)) s) (x1)
noncomputable abbrev rmX10_nameOf : Room := { frames := 0, cells := 0, slots := 0, locals := 0 }
set_option maxRecDepth 100000 in
set_option maxHeartbeats 4000000 in
theorem wbX10_nameOf_3 {M : gM} {G : gG} {out : Int32} (X : gX M G zM cX10_nameOf RX10 5 wsX10_nameOf rmX10_nameOf (some .int)) (σ : gS) (c3_1 : Int32) (c3_2 : Int64) (rec3 : Int32 → Option (Int32)) (ih3 : ∀ (a4 : Int32), rec3 a4 = some out → WW M (gQi M G zM out σ) G zM 5 σ 3 [(0, .ref (G.2.1 0)), (1, .int c3_1), (2, .long c3_2), (4, .int a4)] []) (a4 : Int32) (hF : bX10_nameOf_3 σ c3_1 c3_2 rec3 a4 = some out) : WW M (gQi M G zM out σ) G zM 5 σ 3 [(0, .ref (G.2.1 0)), (1, .int c3_1), (2, .long c3_2), (4, .int a4)] [] := by
  unfold bX10_nameOf_3 at hF
  refine ww_iload (pc := 3) X (j := 3) dX10_nameOf_3 rfl ?_
  refine ww_aload_n (pc := 5) X (j := 0) dX10_nameOf_5 rfl rfl ?_
  refine ww_get (pc := 6) X (ref := "PictureBlockModel") (T := TX10) (j := 23) dX10_nameOf_6 inX10_nameOf_RX10 shzM_0 clzM_10 (by decide) rfl (List.mem_of_getElem? (i := 1) rfl) rfl ?_
  refine ww_iload_n (pc := 9) X (j := 1) dX10_nameOf_9 rfl rfl ?_
  refine ww_iald (pc := 10) X dX10_nameOf_10 shzM_15 rfl hF (fun v2 ev2 bv2 hF => ?_)
  refine ww_icmp_ge (pc := 11) (tgt := 40) X dX10_nameOf_11 (by decide) hF (fun h3 hF => ?_) (fun h3 hF => ?_)
  · refine ww_iconst (pc := 40) X (v := (-1)) dX10_nameOf_40 (by decide) ?_
    exact ww_iret (pc := 41) X dX10_nameOf_41 (Option.some.inj hF) rfl
  · refine ww_aload_n (pc := 14) X (j := 0) dX10_nameOf_14 rfl rfl ?_
    refine ww_get (pc := 15) X (ref := "PictureBlockModel") (T := TX10) (j := 22) dX10_nameOf_15 inX10_nameOf_RX10 shzM_0 clzM_10 (by decide) rfl (List.mem_of_getElem? (i := 2) rfl) rfl ?_
    refine ww_bipush (pc := 18) X (v := 20) dX10_nameOf_18 (by decide) ?_
    refine ww_iload_n (pc := 20) X (j := 1) dX10_nameOf_20 rfl rfl ?_
    refine ww_imul (pc := 21) X dX10_nameOf_21 ?_
    refine ww_iload (pc := 22) X (j := 3) dX10_nameOf_22 rfl ?_
    refine ww_iadd (pc := 24) X dX10_nameOf_24 ?_
    refine ww_lald (pc := 25) X dX10_nameOf_25 shzM_14 rfl hF (fun v4 ev4 bv4 hF => ?_)
    refine ww_lload_n (pc := 26) X (j := 2) dX10_nameOf_26 rfl rfl ?_
    refine ww_lcmp_ne (pc := 27) (tgt := 34) X dX10_nameOf_27 dX10_nameOf_28 (by decide) hF (fun h5 hF => ?_) (fun h5 hF => ?_)
    · refine ww_iinc (pc := 34) X (j := 3) (v := 1) (lv' := [(0, .ref (G.2.1 0)), (1, .int c3_1), (2, .long c3_2)]) dX10_nameOf_34 rfl rfl (by decide) rfl hF (fun x6 ex6 hF => ?_)
      refine ww_goto (pc := 37) X (tgt := 3) dX10_nameOf_37 (by decide) ?_
      exact ww_sub [1, 2, 3, 0] rfl (ih3 x6 hF)
    · refine ww_iload (pc := 31) X (j := 3) dX10_nameOf_31 rfl ?_
      exact ww_iret (pc := 33) X dX10_nameOf_33 (Option.some.inj hF) rfl
set_option maxRecDepth 100000 in
set_option maxHeartbeats 4000000 in
theorem wX10_nameOf {M : gM} {G : gG} {out : Int32} (X : gX M G zM cX10_nameOf RX10 5 wsX10_nameOf rmX10_nameOf (some .int)) (σ : gS) (p1 : Int32) (p2 : Int64) (hF : fX10_nameOf σ p1 p2 = some out) : WW M (gQi M G zM out σ) G zM 5 σ 0 [(0, .ref (G.2.1 0)), (1, .int p1), (2, .long p2)] [] := by
  unfold fX10_nameOf at hF
  refine ww_iconst (pc := 0) X (v := 0) dX10_nameOf_0 (by decide) ?_
  refine ww_istore (pc := 1) X (lv' := [(0, .ref (G.2.1 0)), (1, .int p1), (2, .long p2)]) dX10_nameOf_1 (by decide) rfl hF (fun x1 ex1 hF => ?_)
  exact ww_sub [1, 2, 3, 0] rfl (lpc_ind (P := (fun (s : Int32) => WW M (gQi M G zM out σ) G zM 5 σ 3 [(0, .ref (G.2.1 0)), (1, .int p1), (2, .long p2), (4, .int s)] [])) (fun rec s ih hF => wbX10_nameOf_3 X σ p1 p2 (fun a4 => rec (a4)) (fun a4 h => ih (a4) h) s hF) K9 (x1) hF)
set_option maxRecDepth 100000 in
set_option maxHeartbeats 4000000 in
theorem kX10_nameOf (l : Launch) (G : gG) (hG : gOK G zM.1) (hT : G.2.2.1.map (fun q => q.2) = zM.2.1) (σ : gS) (p1 : Int32) (p2 : Int64) (out : Int32) (hF : fX10_nameOf σ p1 p2 = some out) : gCi l yX10_nameOf wsX10_nameOf rmX10_nameOf G zM [.ref (G.2.1 0), .int p1, .long p2] σ out σ :=
  gEnter (by decide) rfl ⟨rfl, rfl⟩ hG hT (Nat.le_of_ble_eq_true rfl) rfl (fun M X hl => wX10_nameOf X σ p1 p2 hF)
noncomputable def jX10_oneOf_35 (σ : gS) (a4 : Int32) : Option (Int32 × gS) :=
  if a4 = ((-1)) then some (0, σ) else some (a4, σ)
noncomputable def fX10_oneOf (σ : gS) (p1 : Int32) : Option (Int32 × gS) :=
  bd2 (fX10_name σ) fun r2 σ3 => nm (r2 : Int64) fun x4 => bd (fX10_nameOf σ3 p1 x4) fun r6 => nm (r6 : Int32) fun x7 => (if (σ3.1 0 5) = 0 then if x7 = ((-1)) then bd (fX10_fail σ3 3 (σ3.1 0 21)) fun σ12 => jX10_oneOf_35 σ12 x7 else jX10_oneOf_35 σ3 x7 else jX10_oneOf_35 σ3 x7)
noncomputable abbrev rmX10_oneOf : Room := { frames := 4, cells := 0, slots := 0, locals := 86 }
set_option maxRecDepth 100000 in
set_option maxHeartbeats 4000000 in
theorem wjX10_oneOf_35 {M : gM} {G : gG} {out : Int32 × gS} (X : gX M G zM cX10_oneOf RX10 5 wsX10_oneOf rmX10_oneOf (some .int)) (σ : gS) (a4 : Int32) (hF : jX10_oneOf_35 σ a4 = some out) : WW M (gQi M G zM out.1 out.2) G zM 5 σ 35 [(4, .int a4)] [] := by
  unfold jX10_oneOf_35 at hF
  refine ww_iload (pc := 35) X (j := 0) dX10_oneOf_35 rfl ?_
  refine ww_iconst (pc := 37) X (v := (-1)) dX10_oneOf_37 (by decide) ?_
  refine ww_icmp_ne (pc := 38) (tgt := 45) X dX10_oneOf_38 (by decide) hF (fun h9 hF => ?_) (fun h9 hF => ?_)
  · refine ww_iload (pc := 45) X (j := 0) dX10_oneOf_45 rfl ?_
    exact ww_iret (pc := 47) X dX10_oneOf_47 (fst_of hF) (snd_of hF)
  · refine ww_iconst (pc := 41) X (v := 0) dX10_oneOf_41 (by decide) ?_
    refine ww_goto (pc := 42) X (tgt := 47) dX10_oneOf_42 (by decide) ?_
    exact ww_iret (pc := 47) X dX10_oneOf_47 (fst_of hF) (snd_of hF)
set_option maxRecDepth 100000 in
set_option maxHeartbeats 4000000 in
theorem wX10_oneOf {M : gM} {G : gG} {out : Int32 × gS} (X : gX M G zM cX10_oneOf RX10 5 wsX10_oneOf rmX10_oneOf (some .int)) (σ : gS) (p1 : Int32) (hF : fX10_oneOf σ p1 = some out) : WW M (gQi M G zM out.1 out.2) G zM 5 σ 0 [(0, .ref (G.2.1 0)), (1, .int p1)] [] := by
  unfold fX10_oneOf at hF
  refine ww_aload_n (pc := 0) X (j := 0) dX10_oneOf_0 rfl rfl ?_
  obtain ⟨r2, σ3, h1, hF⟩ := bd2_some hF
  refine ww_callVl (pc := 1) X (As := []) (rest := []) dX10_oneOf_1 (kX10_name (mL M) G X.2.2.2.2.2.2.1 X.2.2.2.2.2.2.2.1 σ (r2, σ3) h1) rfl shzM_0 clzM_10 gX10_oneOf_X10_name hyX10_name ⟨rfl, rfl⟩ ⟨Nat.le_of_ble_eq_true rfl, Nat.le_of_ble_eq_true rfl⟩ rfl rfl (Nat.le_of_ble_eq_true rfl) ?_
  refine ww_lstore_n (pc := 4) X (lv' := [(0, .ref (G.2.1 0)), (1, .int p1)]) dX10_oneOf_4 rfl (by decide) rfl hF (fun x4 ex4 hF => ?_)
  refine ww_aload_n (pc := 5) X (j := 1) dX10_oneOf_5 rfl rfl ?_
  refine ww_iload_n (pc := 6) X (j := 2) dX10_oneOf_6 rfl rfl ?_
  refine ww_lload_n (pc := 7) X (j := 0) dX10_oneOf_7 rfl rfl ?_
  obtain ⟨r6, h5, hF⟩ := bd_some hF
  refine ww_callVi (pc := 8) X (As := [.int p1, .long x4]) (rest := []) dX10_oneOf_8 (kX10_nameOf (mL M) G X.2.2.2.2.2.2.1 X.2.2.2.2.2.2.2.1 σ3 p1 x4 r6 h5) rfl shzM_0 clzM_10 gX10_oneOf_X10_nameOf hyX10_nameOf ⟨rfl, rfl⟩ ⟨Nat.le_of_ble_eq_true rfl, Nat.le_of_ble_eq_true rfl⟩ rfl rfl (Nat.le_of_ble_eq_true rfl) ?_
  refine ww_istore (pc := 11) X (lv' := [(2, .long x4), (0, .ref (G.2.1 0)), (1, .int p1)]) dX10_oneOf_11 (by decide) rfl hF (fun x7 ex7 hF => ?_)
  refine ww_aload_n (pc := 13) X (j := 2) dX10_oneOf_13 rfl rfl ?_
  refine ww_get (pc := 14) X (ref := "PictureBlockModel") (T := TX10) (j := 5) dX10_oneOf_14 inX10_oneOf_RX10 shzM_0 clzM_10 (by decide) rfl (List.mem_of_getElem? (i := 1) rfl) rfl ?_
  refine ww_if_ne (pc := 17) (tgt := 35) X dX10_oneOf_17 (by decide) hF (fun h8 hF => ?_) (fun h8 hF => ?_)
  · exact ww_sub [0] rfl (wjX10_oneOf_35 X σ3 x7 hF)
  · refine ww_iload (pc := 20) X (j := 0) dX10_oneOf_20 rfl ?_
    refine ww_iconst (pc := 22) X (v := (-1)) dX10_oneOf_22 (by decide) ?_
    refine ww_icmp_ne (pc := 23) (tgt := 35) X dX10_oneOf_23 (by decide) hF (fun h10 hF => ?_) (fun h10 hF => ?_)
    · exact ww_sub [0] rfl (wjX10_oneOf_35 X σ3 x7 hF)
    · refine ww_aload_n (pc := 26) X (j := 2) dX10_oneOf_26 rfl rfl ?_
      refine ww_iconst (pc := 27) X (v := 3) dX10_oneOf_27 (by decide) ?_
      refine ww_aload_n (pc := 28) X (j := 2) dX10_oneOf_28 rfl rfl ?_
      refine ww_get (pc := 29) X (ref := "PictureBlockModel") (T := TX10) (j := 21) dX10_oneOf_29 inX10_oneOf_RX10 shzM_0 clzM_10 (by decide) rfl (List.mem_of_getElem? (i := 2) rfl) rfl ?_
      obtain ⟨σ12, h11, hF⟩ := bd_some hF
      refine ww_callVv (pc := 32) X (As := [.int 3, .int (σ3.1 0 21)]) (rest := []) dX10_oneOf_32 (kX10_fail (mL M) G X.2.2.2.2.2.2.1 X.2.2.2.2.2.2.2.1 σ3 3 (σ3.1 0 21) σ12 h11) rfl shzM_0 clzM_10 gX10_oneOf_X10_fail hyX10_fail ⟨rfl, rfl⟩ ⟨Nat.le_of_ble_eq_true rfl, Nat.le_of_ble_eq_true rfl⟩ rfl rfl (Nat.le_of_ble_eq_true rfl) ?_
      exact ww_sub [0] rfl (wjX10_oneOf_35 X σ12 x7 hF)
set_option maxRecDepth 100000 in
set_option maxHeartbeats 4000000 in
theorem kX10_oneOf (l : Launch) (G : gG) (hG : gOK G zM.1) (hT : G.2.2.1.map (fun q => q.2) = zM.2.1) (σ : gS) (p1 : Int32) (out : Int32 × gS) (hF : fX10_oneOf σ p1 = some out) : gCi l yX10_oneOf wsX10_oneOf rmX10_oneOf G zM [.ref (G.2.1 0), .int p1] σ out.1 out.2 :=
  gEnter (by decide) rfl ⟨rfl, rfl⟩ hG hT (Nat.le_of_ble_eq_true rfl) rfl (fun M X hl => wX10_oneOf X σ p1 hF)
noncomputable def fX10_isDigit (σ : gS) (p0 : Int32) : Option (Int32) :=
  if p0 < 48 then some 0 else if 57 < p0 then some 0 else some 1
noncomputable abbrev rmX10_isDigit : Room := { frames := 0, cells := 0, slots := 0, locals := 0 }
set_option maxRecDepth 100000 in
set_option maxHeartbeats 4000000 in
theorem wX10_isDigit {M : gM} {G : gG} {out : Int32} (X : gX M G zM cX10_isDigit RX10 1 wsX10_isDigit rmX10_isDigit (some .boolean)) (σ : gS) (p0 : Int32) (hF : fX10_isDigit σ p0 = some out) : WW M (gQi M G zM out σ) G zM 1 σ 0 [(0, .int p0)] [] := by
  unfold fX10_isDigit at hF
  refine ww_iload_n (pc := 0) X (j := 0) dX10_isDigit_0 rfl rfl ?_
  refine ww_bipush (pc := 1) X (v := 48) dX10_isDigit_1 (by decide) ?_
  refine ww_icmp_lt (pc := 3) (tgt := 16) X dX10_isDigit_3 (by decide) hF (fun h1 hF => ?_) (fun h1 hF => ?_)
  · refine ww_iconst (pc := 16) X (v := 0) dX10_isDigit_16 (by decide) ?_
    exact ww_zret (pc := 17) X dX10_isDigit_17 (by cases hF; rfl) rfl
  · refine ww_iload_n (pc := 6) X (j := 0) dX10_isDigit_6 rfl rfl ?_
    refine ww_bipush (pc := 7) X (v := 57) dX10_isDigit_7 (by decide) ?_
    refine ww_icmp_gt (pc := 9) (tgt := 16) X dX10_isDigit_9 (by decide) hF (fun h2 hF => ?_) (fun h2 hF => ?_)
    · refine ww_iconst (pc := 16) X (v := 0) dX10_isDigit_16 (by decide) ?_
      exact ww_zret (pc := 17) X dX10_isDigit_17 (by cases hF; rfl) rfl
    · refine ww_iconst (pc := 12) X (v := 1) dX10_isDigit_12 (by decide) ?_
      refine ww_goto (pc := 13) X (tgt := 17) dX10_isDigit_13 (by decide) ?_
      exact ww_zret (pc := 17) X dX10_isDigit_17 (by cases hF; rfl) rfl
set_option maxRecDepth 100000 in
set_option maxHeartbeats 4000000 in
theorem kX10_isDigit (l : Launch) (G : gG) (hG : gOK G zM.1) (hT : G.2.2.1.map (fun q => q.2) = zM.2.1) (σ : gS) (p0 : Int32) (out : Int32) (hF : fX10_isDigit σ p0 = some out) : gCi l yX10_isDigit wsX10_isDigit rmX10_isDigit G zM [.int p0] σ out σ :=
  gEnter (by decide) rfl ⟨rfl, rfl⟩ hG hT (Nat.le_of_ble_eq_true rfl) rfl (fun M X hl => wX10_isDigit X σ p0 hF)
noncomputable def fX10_isIn (σ : gS) (p0 : Int64) (p2 : Int64) (p4 : Int64) : Option (Int32) :=
  if p0 < p2 then some 0 else if p4 < p0 then some 0 else some 1
noncomputable abbrev rmX10_isIn : Room := { frames := 0, cells := 0, slots := 0, locals := 0 }
set_option maxRecDepth 100000 in
set_option maxHeartbeats 4000000 in
theorem wX10_isIn {M : gM} {G : gG} {out : Int32} (X : gX M G zM cX10_isIn RX10 6 wsX10_isIn rmX10_isIn (some .boolean)) (σ : gS) (p0 : Int64) (p2 : Int64) (p4 : Int64) (hF : fX10_isIn σ p0 p2 p4 = some out) : WW M (gQi M G zM out σ) G zM 6 σ 0 [(0, .long p0), (2, .long p2), (4, .long p4)] [] := by
  unfold fX10_isIn at hF
  refine ww_lload_n (pc := 0) X (j := 0) dX10_isIn_0 rfl rfl ?_
  refine ww_lload_n (pc := 1) X (j := 1) dX10_isIn_1 rfl rfl ?_
  refine ww_lcmp_lt (pc := 2) (tgt := 17) X dX10_isIn_2 dX10_isIn_3 (by decide) hF (fun h1 hF => ?_) (fun h1 hF => ?_)
  · refine ww_iconst (pc := 17) X (v := 0) dX10_isIn_17 (by decide) ?_
    exact ww_zret (pc := 18) X dX10_isIn_18 (by cases hF; rfl) rfl
  · refine ww_lload_n (pc := 6) X (j := 0) dX10_isIn_6 rfl rfl ?_
    refine ww_lload (pc := 7) X (j := 2) dX10_isIn_7 rfl ?_
    refine ww_lcmp_gt (pc := 9) (tgt := 17) X dX10_isIn_9 dX10_isIn_10 (by decide) hF (fun h2 hF => ?_) (fun h2 hF => ?_)
    · refine ww_iconst (pc := 17) X (v := 0) dX10_isIn_17 (by decide) ?_
      exact ww_zret (pc := 18) X dX10_isIn_18 (by cases hF; rfl) rfl
    · refine ww_iconst (pc := 13) X (v := 1) dX10_isIn_13 (by decide) ?_
      refine ww_goto (pc := 14) X (tgt := 18) dX10_isIn_14 (by decide) ?_
      exact ww_zret (pc := 18) X dX10_isIn_18 (by cases hF; rfl) rfl
set_option maxRecDepth 100000 in
set_option maxHeartbeats 4000000 in
theorem kX10_isIn (l : Launch) (G : gG) (hG : gOK G zM.1) (hT : G.2.2.1.map (fun q => q.2) = zM.2.1) (σ : gS) (p0 : Int64) (p2 : Int64) (p4 : Int64) (out : Int32) (hF : fX10_isIn σ p0 p2 p4 = some out) : gCi l yX10_isIn wsX10_isIn rmX10_isIn G zM [.long p0, .long p2, .long p4] σ out σ :=
  gEnter (by decide) rfl ⟨rfl, rfl⟩ hG hT (Nat.le_of_ble_eq_true rfl) rfl (fun M X hl => wX10_isIn X σ p0 p2 p4 hF)
noncomputable def jX10_number_30 (σ : gS) : Option (Int32 × gS) :=
  bd (fX10_fail σ 1 (σ.1 0 2)) fun σ9 => some (0, σ9)
noncomputable def jX10_number_129 (σ : gS) (a1 : Int32) (a2 : Int32) (a3 : Int32) (a4 : Int32) : Option (Int32 × gS) :=
  nm (gsI σ 0 4 (σ.1 0 2)) fun σ14 => bd (fX10_isIn σ14 a4.toInt64 a1.toInt64 a2.toInt64) fun r16 => (if r16 = 0 then bd (fX10_fail σ14 2 a3) fun σ19 => some (a4, σ19) else some (a4, σ14))
noncomputable def bX10_number_49 (σ : gS) (c49_1 : Int32) (c49_2 : Int32) (c49_3 : Int32) (rec49 : Int32 → gS → Option (Int32 × gS)) (a4 : Int32) (σ1 : gS) : Option (Int32 × gS) :=
  if (σ1.1 0 3) ≤ (σ1.1 0 2) then jX10_number_129 σ1 c49_1 c49_2 c49_3 a4 else gd (gb (σ1.1 0 2) 1600) <| nm (σ1.1 1 (σ1.1 0 2).toNatClampNeg) fun v20 => bd (fX10_isDigit σ1 v20) fun r22 => (if r22 = 0 then jX10_number_129 σ1 c49_1 c49_2 c49_3 a4 else if ((σ1.1 0 2) - c49_3) = 4 then bd (fX10_fail σ1 1 (σ1.1 0 2)) fun σ29 => some (0, σ29) else gd (gb (σ1.1 0 2) 1600) <| nm (σ1.1 1 (σ1.1 0 2).toNatClampNeg) fun v25 => nm (((10 * a4) + v25) - 48 : Int32) fun x26 => nm (gsI σ1 0 2 ((σ1.1 0 2) + 1)) fun σ27 => rec49 x26 σ27)
noncomputable def fX10_number (σ : gS) (p1 : Int32) (p2 : Int32) : Option (Int32 × gS) :=
  if (σ.1 0 5) = 0 then bd2 (fX10_look σ) fun r3 σ4 => bd (fX10_isDigit σ4 r3) fun r6 => (if r6 = 0 then jX10_number_30 σ4 else if (σ4.1 0 2) = (σ4.1 0 4) then jX10_number_30 σ4 else nm (σ4.1 0 2 : Int32) fun x11 => nm (0 : Int32) fun x12 => lpc (S := Int32 × gS) K9 (fun rec s => bX10_number_49 σ4 p1 p2 x11 (fun a4 σ1 => rec (a4, σ1)) s.1 s.2) (x12, σ4)) else some (0, σ)
noncomputable abbrev rmX10_number : Room := { frames := 1, cells := 0, slots := 0, locals := 25 }
set_option maxRecDepth 100000 in
set_option maxHeartbeats 4000000 in
theorem wjX10_number_30 {M : gM} {G : gG} {out : Int32 × gS} (X : gX M G zM cX10_number RX10 5 wsX10_number rmX10_number (some .int)) (σ : gS) (hF : jX10_number_30 σ = some out) : WW M (gQi M G zM out.1 out.2) G zM 5 σ 30 [(0, .ref (G.2.1 0))] [] := by
  unfold jX10_number_30 at hF
  refine ww_aload_n (pc := 30) X (j := 0) dX10_number_30 rfl rfl ?_
  refine ww_iconst (pc := 31) X (v := 1) dX10_number_31 (by decide) ?_
  refine ww_aload_n (pc := 32) X (j := 0) dX10_number_32 rfl rfl ?_
  refine ww_get (pc := 33) X (ref := "PictureBlockModel") (T := TX10) (j := 2) dX10_number_33 inX10_number_RX10 shzM_0 clzM_10 (by decide) rfl (List.mem_of_getElem? (i := 2) rfl) rfl ?_
  obtain ⟨σ9, h8, hF⟩ := bd_some hF
  refine ww_callVv (pc := 36) X (As := [.int 1, .int (σ.1 0 2)]) (rest := []) dX10_number_36 (kX10_fail (mL M) G X.2.2.2.2.2.2.1 X.2.2.2.2.2.2.2.1 σ 1 (σ.1 0 2) σ9 h8) rfl shzM_0 clzM_10 gX10_number_X10_fail hyX10_fail ⟨rfl, rfl⟩ ⟨Nat.le_of_ble_eq_true rfl, Nat.le_of_ble_eq_true rfl⟩ rfl rfl (Nat.le_of_ble_eq_true rfl) ?_
  refine ww_iconst (pc := 39) X (v := 0) dX10_number_39 (by decide) ?_
  exact ww_iret (pc := 40) X dX10_number_40 (fst_of hF) (snd_of hF)
set_option maxRecDepth 100000 in
set_option maxHeartbeats 4000000 in
theorem wjX10_number_129 {M : gM} {G : gG} {out : Int32 × gS} (X : gX M G zM cX10_number RX10 5 wsX10_number rmX10_number (some .int)) (σ : gS) (a1 : Int32) (a2 : Int32) (a3 : Int32) (a4 : Int32) (hF : jX10_number_129 σ a1 a2 a3 a4 = some out) : WW M (gQi M G zM out.1 out.2) G zM 5 σ 129 [(0, .ref (G.2.1 0)), (1, .int a1), (2, .int a2), (3, .int a3), (4, .int a4)] [] := by
  unfold jX10_number_129 at hF
  refine ww_aload_n (pc := 129) X (j := 0) dX10_number_129 rfl rfl ?_
  refine ww_aload_n (pc := 130) X (j := 0) dX10_number_130 rfl rfl ?_
  refine ww_get (pc := 131) X (ref := "PictureBlockModel") (T := TX10) (j := 2) dX10_number_131 inX10_number_RX10 shzM_0 clzM_10 (by decide) rfl (List.mem_of_getElem? (i := 2) rfl) rfl ?_
  refine ww_putI (pc := 134) X (ref := "PictureBlockModel") (T := TX10) (j := 4) dX10_number_134 inX10_number_RX10 tyX10 tyX10_ok nmX10 shzM_0 clzM_10 (by decide) rfl (List.mem_of_getElem? (i := 3) rfl) rfl rfl (by decide +kernel) hF (fun σ14 eσ14 hF => ?_)
  refine ww_iload (pc := 137) X (j := 4) dX10_number_137 rfl ?_
  refine ww_i2l (pc := 139) X dX10_number_139 ?_
  refine ww_iload_n (pc := 140) X (j := 1) dX10_number_140 rfl rfl ?_
  refine ww_i2l (pc := 141) X dX10_number_141 ?_
  refine ww_iload_n (pc := 142) X (j := 2) dX10_number_142 rfl rfl ?_
  refine ww_i2l (pc := 143) X dX10_number_143 ?_
  obtain ⟨r16, h15, hF⟩ := bd_some hF
  refine ww_callSi (pc := 144) X (As := [.long a4.toInt64, .long a1.toInt64, .long a2.toInt64]) (rest := []) dX10_number_144 (kX10_isIn (mL M) G X.2.2.2.2.2.2.1 X.2.2.2.2.2.2.2.1 σ14 a4.toInt64 a1.toInt64 a2.toInt64 r16 h15) rfl gX10_number_X10_isIn hyX10_isIn ⟨rfl, rfl⟩ ⟨Nat.le_of_ble_eq_true rfl, Nat.le_of_ble_eq_true rfl⟩ rfl rfl (Nat.le_of_ble_eq_true rfl) ?_
  refine ww_if_ne (pc := 147) (tgt := 156) X dX10_number_147 (by decide) hF (fun h17 hF => ?_) (fun h17 hF => ?_)
  · refine ww_iload (pc := 156) X (j := 4) dX10_number_156 rfl ?_
    exact ww_iret (pc := 158) X dX10_number_158 (fst_of hF) (snd_of hF)
  · refine ww_aload_n (pc := 150) X (j := 0) dX10_number_150 rfl rfl ?_
    refine ww_iconst (pc := 151) X (v := 2) dX10_number_151 (by decide) ?_
    refine ww_iload_n (pc := 152) X (j := 3) dX10_number_152 rfl rfl ?_
    obtain ⟨σ19, h18, hF⟩ := bd_some hF
    refine ww_callVv (pc := 153) X (As := [.int 2, .int a3]) (rest := []) dX10_number_153 (kX10_fail (mL M) G X.2.2.2.2.2.2.1 X.2.2.2.2.2.2.2.1 σ14 2 a3 σ19 h18) rfl shzM_0 clzM_10 gX10_number_X10_fail hyX10_fail ⟨rfl, rfl⟩ ⟨Nat.le_of_ble_eq_true rfl, Nat.le_of_ble_eq_true rfl⟩ rfl rfl (Nat.le_of_ble_eq_true rfl) ?_
    refine ww_iload (pc := 156) X (j := 4) dX10_number_156 rfl ?_
    exact ww_iret (pc := 158) X dX10_number_158 (fst_of hF) (snd_of hF)
set_option maxRecDepth 100000 in
set_option maxHeartbeats 4000000 in
theorem wbX10_number_49 {M : gM} {G : gG} {out : Int32 × gS} (X : gX M G zM cX10_number RX10 5 wsX10_number rmX10_number (some .int)) (σ : gS) (c49_1 : Int32) (c49_2 : Int32) (c49_3 : Int32) (rec49 : Int32 → gS → Option (Int32 × gS)) (ih49 : ∀ (a4 : Int32) (σ1 : gS), rec49 a4 σ1 = some out → WW M (gQi M G zM out.1 out.2) G zM 5 σ1 49 [(0, .ref (G.2.1 0)), (1, .int c49_1), (2, .int c49_2), (3, .int c49_3), (4, .int a4)] []) (a4 : Int32) (σ1 : gS) (hF : bX10_number_49 σ c49_1 c49_2 c49_3 rec49 a4 σ1 = some out) : WW M (gQi M G zM out.1 out.2) G zM 5 σ1 49 [(0, .ref (G.2.1 0)), (1, .int c49_1), (2, .int c49_2), (3, .int c49_3), (4, .int a4)] [] := by
  unfold bX10_number_49 at hF
  refine ww_aload_n (pc := 49) X (j := 0) dX10_number_49 rfl rfl ?_
  refine ww_get (pc := 50) X (ref := "PictureBlockModel") (T := TX10) (j := 2) dX10_number_50 inX10_number_RX10 shzM_0 clzM_10 (by decide) rfl (List.mem_of_getElem? (i := 2) rfl) rfl ?_
  refine ww_aload_n (pc := 53) X (j := 0) dX10_number_53 rfl rfl ?_
  refine ww_get (pc := 54) X (ref := "PictureBlockModel") (T := TX10) (j := 3) dX10_number_54 inX10_number_RX10 shzM_0 clzM_10 (by decide) rfl (List.mem_of_getElem? (i := 4) rfl) rfl ?_
  refine ww_icmp_ge (pc := 57) (tgt := 129) X dX10_number_57 (by decide) hF (fun h13 hF => ?_) (fun h13 hF => ?_)
  · exact ww_sub [0, 1, 2, 3, 4] rfl (wjX10_number_129 X σ1 c49_1 c49_2 c49_3 a4 hF)
  · refine ww_aload_n (pc := 60) X (j := 0) dX10_number_60 rfl rfl ?_
    refine ww_get (pc := 61) X (ref := "PictureBlockModel") (T := TX10) (j := 0) dX10_number_61 inX10_number_RX10 shzM_0 clzM_10 (by decide) rfl (List.mem_of_getElem? (i := 5) rfl) rfl ?_
    refine ww_aload_n (pc := 64) X (j := 0) dX10_number_64 rfl rfl ?_
    refine ww_get (pc := 65) X (ref := "PictureBlockModel") (T := TX10) (j := 2) dX10_number_65 inX10_number_RX10 shzM_0 clzM_10 (by decide) rfl (List.mem_of_getElem? (i := 2) rfl) rfl ?_
    refine ww_iald (pc := 68) X dX10_number_68 shzM_1 rfl hF (fun v20 ev20 bv20 hF => ?_)
    obtain ⟨r22, h21, hF⟩ := bd_some hF
    refine ww_callSi (pc := 69) X (As := [.int v20]) (rest := []) dX10_number_69 (kX10_isDigit (mL M) G X.2.2.2.2.2.2.1 X.2.2.2.2.2.2.2.1 σ1 v20 r22 h21) rfl gX10_number_X10_isDigit hyX10_isDigit ⟨rfl, rfl⟩ ⟨Nat.le_of_ble_eq_true rfl, Nat.le_of_ble_eq_true rfl⟩ rfl rfl (Nat.le_of_ble_eq_true rfl) ?_
    refine ww_if_eq (pc := 72) (tgt := 129) X dX10_number_72 (by decide) hF (fun h23 hF => ?_) (fun h23 hF => ?_)
    · exact ww_sub [0, 1, 2, 3, 4] rfl (wjX10_number_129 X σ1 c49_1 c49_2 c49_3 a4 hF)
    · refine ww_aload_n (pc := 75) X (j := 0) dX10_number_75 rfl rfl ?_
      refine ww_get (pc := 76) X (ref := "PictureBlockModel") (T := TX10) (j := 2) dX10_number_76 inX10_number_RX10 shzM_0 clzM_10 (by decide) rfl (List.mem_of_getElem? (i := 2) rfl) rfl ?_
      refine ww_iload_n (pc := 79) X (j := 3) dX10_number_79 rfl rfl ?_
      refine ww_isub (pc := 80) X dX10_number_80 ?_
      refine ww_iconst (pc := 81) X (v := 4) dX10_number_81 (by decide) ?_
      refine ww_icmp_ne (pc := 82) (tgt := 96) X dX10_number_82 (by decide) hF (fun h24 hF => ?_) (fun h24 hF => ?_)
      · refine ww_bipush (pc := 96) X (v := 10) dX10_number_96 (by decide) ?_
        refine ww_iload (pc := 98) X (j := 4) dX10_number_98 rfl ?_
        refine ww_imul (pc := 100) X dX10_number_100 ?_
        refine ww_aload_n (pc := 101) X (j := 0) dX10_number_101 rfl rfl ?_
        refine ww_get (pc := 102) X (ref := "PictureBlockModel") (T := TX10) (j := 0) dX10_number_102 inX10_number_RX10 shzM_0 clzM_10 (by decide) rfl (List.mem_of_getElem? (i := 5) rfl) rfl ?_
        refine ww_aload_n (pc := 105) X (j := 0) dX10_number_105 rfl rfl ?_
        refine ww_get (pc := 106) X (ref := "PictureBlockModel") (T := TX10) (j := 2) dX10_number_106 inX10_number_RX10 shzM_0 clzM_10 (by decide) rfl (List.mem_of_getElem? (i := 2) rfl) rfl ?_
        refine ww_iald (pc := 109) X dX10_number_109 shzM_1 rfl hF (fun v25 ev25 bv25 hF => ?_)
        refine ww_iadd (pc := 110) X dX10_number_110 ?_
        refine ww_bipush (pc := 111) X (v := 48) dX10_number_111 (by decide) ?_
        refine ww_isub (pc := 113) X dX10_number_113 ?_
        refine ww_istore (pc := 114) X (lv' := [(0, .ref (G.2.1 0)), (1, .int c49_1), (2, .int c49_2), (3, .int c49_3)]) dX10_number_114 (by decide) rfl hF (fun x26 ex26 hF => ?_)
        refine ww_aload_n (pc := 116) X (j := 1) dX10_number_116 rfl rfl ?_
        refine ww_dup (pc := 117) X dX10_number_117 rfl ?_
        refine ww_get (pc := 118) X (ref := "PictureBlockModel") (T := TX10) (j := 2) dX10_number_118 inX10_number_RX10 shzM_0 clzM_10 (by decide) rfl (List.mem_of_getElem? (i := 2) rfl) rfl ?_
        refine ww_iconst (pc := 121) X (v := 1) dX10_number_121 (by decide) ?_
        refine ww_iadd (pc := 122) X dX10_number_122 ?_
        refine ww_putI (pc := 123) X (ref := "PictureBlockModel") (T := TX10) (j := 2) dX10_number_123 inX10_number_RX10 tyX10 tyX10_ok nmX10 shzM_0 clzM_10 (by decide) rfl (List.mem_of_getElem? (i := 2) rfl) rfl rfl (by decide +kernel) hF (fun σ27 eσ27 hF => ?_)
        refine ww_goto (pc := 126) X (tgt := 49) dX10_number_126 (by decide) ?_
        exact ww_sub [1, 2, 3, 4, 0] rfl (ih49 x26 σ27 hF)
      · refine ww_aload_n (pc := 85) X (j := 0) dX10_number_85 rfl rfl ?_
        refine ww_iconst (pc := 86) X (v := 1) dX10_number_86 (by decide) ?_
        refine ww_aload_n (pc := 87) X (j := 0) dX10_number_87 rfl rfl ?_
        refine ww_get (pc := 88) X (ref := "PictureBlockModel") (T := TX10) (j := 2) dX10_number_88 inX10_number_RX10 shzM_0 clzM_10 (by decide) rfl (List.mem_of_getElem? (i := 2) rfl) rfl ?_
        obtain ⟨σ29, h28, hF⟩ := bd_some hF
        refine ww_callVv (pc := 91) X (As := [.int 1, .int (σ1.1 0 2)]) (rest := []) dX10_number_91 (kX10_fail (mL M) G X.2.2.2.2.2.2.1 X.2.2.2.2.2.2.2.1 σ1 1 (σ1.1 0 2) σ29 h28) rfl shzM_0 clzM_10 gX10_number_X10_fail hyX10_fail ⟨rfl, rfl⟩ ⟨Nat.le_of_ble_eq_true rfl, Nat.le_of_ble_eq_true rfl⟩ rfl rfl (Nat.le_of_ble_eq_true rfl) ?_
        refine ww_iconst (pc := 94) X (v := 0) dX10_number_94 (by decide) ?_
        exact ww_iret (pc := 95) X dX10_number_95 (fst_of hF) (snd_of hF)
set_option maxRecDepth 100000 in
set_option maxHeartbeats 4000000 in
theorem wX10_number {M : gM} {G : gG} {out : Int32 × gS} (X : gX M G zM cX10_number RX10 5 wsX10_number rmX10_number (some .int)) (σ : gS) (p1 : Int32) (p2 : Int32) (hF : fX10_number σ p1 p2 = some out) : WW M (gQi M G zM out.1 out.2) G zM 5 σ 0 [(0, .ref (G.2.1 0)), (1, .int p1), (2, .int p2)] [] := by
  unfold fX10_number at hF
  refine ww_aload_n (pc := 0) X (j := 0) dX10_number_0 rfl rfl ?_
  refine ww_get (pc := 1) X (ref := "PictureBlockModel") (T := TX10) (j := 5) dX10_number_1 inX10_number_RX10 shzM_0 clzM_10 (by decide) rfl (List.mem_of_getElem? (i := 1) rfl) rfl ?_
  refine ww_if_eq (pc := 4) (tgt := 9) X dX10_number_4 (by decide) hF (fun h1 hF => ?_) (fun h1 hF => ?_)
  · refine ww_aload_n (pc := 9) X (j := 0) dX10_number_9 rfl rfl ?_
    obtain ⟨r3, σ4, h2, hF⟩ := bd2_some hF
    refine ww_callVi (pc := 10) X (As := []) (rest := []) dX10_number_10 (kX10_look (mL M) G X.2.2.2.2.2.2.1 X.2.2.2.2.2.2.2.1 σ (r3, σ4) h2) rfl shzM_0 clzM_10 gX10_number_X10_look hyX10_look ⟨rfl, rfl⟩ ⟨Nat.le_of_ble_eq_true rfl, Nat.le_of_ble_eq_true rfl⟩ rfl rfl (Nat.le_of_ble_eq_true rfl) ?_
    obtain ⟨r6, h5, hF⟩ := bd_some hF
    refine ww_callSi (pc := 13) X (As := [.int r3]) (rest := []) dX10_number_13 (kX10_isDigit (mL M) G X.2.2.2.2.2.2.1 X.2.2.2.2.2.2.2.1 σ4 r3 r6 h5) rfl gX10_number_X10_isDigit hyX10_isDigit ⟨rfl, rfl⟩ ⟨Nat.le_of_ble_eq_true rfl, Nat.le_of_ble_eq_true rfl⟩ rfl rfl (Nat.le_of_ble_eq_true rfl) ?_
    refine ww_if_eq (pc := 16) (tgt := 30) X dX10_number_16 (by decide) hF (fun h7 hF => ?_) (fun h7 hF => ?_)
    · exact ww_sub [0] rfl (wjX10_number_30 X σ4 hF)
    · refine ww_aload_n (pc := 19) X (j := 0) dX10_number_19 rfl rfl ?_
      refine ww_get (pc := 20) X (ref := "PictureBlockModel") (T := TX10) (j := 2) dX10_number_20 inX10_number_RX10 shzM_0 clzM_10 (by decide) rfl (List.mem_of_getElem? (i := 2) rfl) rfl ?_
      refine ww_aload_n (pc := 23) X (j := 0) dX10_number_23 rfl rfl ?_
      refine ww_get (pc := 24) X (ref := "PictureBlockModel") (T := TX10) (j := 4) dX10_number_24 inX10_number_RX10 shzM_0 clzM_10 (by decide) rfl (List.mem_of_getElem? (i := 3) rfl) rfl ?_
      refine ww_icmp_ne (pc := 27) (tgt := 41) X dX10_number_27 (by decide) hF (fun h10 hF => ?_) (fun h10 hF => ?_)
      · refine ww_aload_n (pc := 41) X (j := 0) dX10_number_41 rfl rfl ?_
        refine ww_get (pc := 42) X (ref := "PictureBlockModel") (T := TX10) (j := 2) dX10_number_42 inX10_number_RX10 shzM_0 clzM_10 (by decide) rfl (List.mem_of_getElem? (i := 2) rfl) rfl ?_
        refine ww_istore_n (pc := 45) X (lv' := [(0, .ref (G.2.1 0)), (1, .int p1), (2, .int p2)]) dX10_number_45 rfl (by decide) rfl hF (fun x11 ex11 hF => ?_)
        refine ww_iconst (pc := 46) X (v := 0) dX10_number_46 (by decide) ?_
        refine ww_istore (pc := 47) X (lv' := [(3, .int x11), (0, .ref (G.2.1 0)), (1, .int p1), (2, .int p2)]) dX10_number_47 (by decide) rfl hF (fun x12 ex12 hF => ?_)
        exact ww_sub [2, 3, 4, 1, 0] rfl (lpc_ind (P := (fun (s : Int32 × gS) => WW M (gQi M G zM out.1 out.2) G zM 5 s.2 49 [(0, .ref (G.2.1 0)), (1, .int p1), (2, .int p2), (3, .int x11), (4, .int s.1)] [])) (fun rec s ih hF => wbX10_number_49 X σ4 p1 p2 x11 (fun a4 σ1 => rec (a4, σ1)) (fun a4 σ1 h => ih (a4, σ1) h) s.1 s.2 hF) K9 (x12, σ4) hF)
      · exact ww_sub [0] rfl (wjX10_number_30 X σ4 hF)
  · refine ww_iconst (pc := 7) X (v := 0) dX10_number_7 (by decide) ?_
    exact ww_iret (pc := 8) X dX10_number_8 (fst_of hF) (snd_of hF)
set_option maxRecDepth 100000 in
set_option maxHeartbeats 4000000 in
theorem kX10_number (l : Launch) (G : gG) (hG : gOK G zM.1) (hT : G.2.2.1.map (fun q => q.2) = zM.2.1) (σ : gS) (p1 : Int32) (p2 : Int32) (out : Int32 × gS) (hF : fX10_number σ p1 p2 = some out) : gCi l yX10_number wsX10_number rmX10_number G zM [.ref (G.2.1 0), .int p1, .int p2] σ out.1 out.2 :=
  gEnter (by decide) rfl ⟨rfl, rfl⟩ hG hT (Nat.le_of_ble_eq_true rfl) rfl (fun M X hl => wX10_number X σ p1 p2 hF)
noncomputable def jX10_centreTold_31 (σ : gS) (a1 : Int32) : Option (gS) :=
  bd (fX10_asks σ 9) fun σ7 => bd2 (fX10_number σ7 0 9999) fun r9 σ10 => nm (r9 : Int32) fun x11 => bd2 (fX10_number σ10 0 9999) fun r13 σ14 => nm (r13 : Int32) fun x15 => bd (fX10_asks σ14 10) fun σ17 => bd2 (fX10_number σ17 1 9) fun r19 σ20 => nm (r19 : Int32) fun x21 => (if (σ20.1 0 5) = 0 then gd (gb (2 * a1) 48) <| nm (gsI σ20 19 (2 * a1).toNatClampNeg x11) fun σ23 => gd (gb ((2 * a1) + 1) 48) <| nm (gsI σ23 19 ((2 * a1) + 1).toNatClampNeg x15) fun σ24 => gd (gb a1 24) <| nm (gsI σ24 18 a1.toNatClampNeg x21) fun σ25 => gd (gb 5 12) <| nm (σ25.1 15 ((5 : Int32).toNatClampNeg)) fun v26 => gd (gb 5 12) <| nm (gsI σ25 15 ((5 : Int32).toNatClampNeg) (v26 + 1)) fun σ27 => some σ27 else some σ20)
noncomputable def fX10_centreTold (σ : gS) : Option (gS) :=
  bd2 (fX10_oneOf σ 1) fun r2 σ3 => nm (r2 : Int32) fun x4 => (if (σ3.1 0 5) = 0 then gd (gb x4 24) <| nm (σ3.1 18 x4.toNatClampNeg) fun v28 => (if v28 = 0 then jX10_centreTold_31 σ3 x4 else bd (fX10_fail σ3 3 (σ3.1 0 21)) fun σ31 => jX10_centreTold_31 σ31 x4) else jX10_centreTold_31 σ3 x4)
noncomputable abbrev rmX10_centreTold : Room := { frames := 5, cells := 0, slots := 0, locals := 110 }
set_option maxRecDepth 100000 in
set_option maxHeartbeats 4000000 in
theorem wjX10_centreTold_31 {M : gM} {G : gG} {out : gS} (X : gX M G zM cX10_centreTold RX10 5 wsX10_centreTold rmX10_centreTold none) (σ : gS) (a1 : Int32) (hF : jX10_centreTold_31 σ a1 = some out) : WW M (gQv M G zM out) G zM 5 σ 31 [(0, .ref (G.2.1 0)), (1, .int a1)] [] := by
  unfold jX10_centreTold_31 at hF
  refine ww_aload_n (pc := 31) X (j := 0) dX10_centreTold_31 rfl rfl ?_
  refine ww_aload_n (pc := 32) X (j := 0) dX10_centreTold_32 rfl rfl ?_
  refine ww_get (pc := 33) X (ref := "PictureBlockModel") (T := TX10) (j := 16) dX10_centreTold_33 inX10_centreTold_RX10 shzM_0 clzM_10 (by decide) rfl (List.mem_of_getElem? (i := 4) rfl) rfl ?_
  obtain ⟨σ7, h6, hF⟩ := bd_some hF
  refine ww_callVv (pc := 36) X (As := [.ref (G.2.1 9)]) (rest := []) dX10_centreTold_36 (kX10_asks (mL M) G X.2.2.2.2.2.2.1 X.2.2.2.2.2.2.2.1 σ 9 σ7 h6) rfl shzM_0 clzM_10 gX10_centreTold_X10_asks hyX10_asks ⟨rfl, rfl⟩ ⟨Nat.le_of_ble_eq_true rfl, Nat.le_of_ble_eq_true rfl⟩ rfl rfl (Nat.le_of_ble_eq_true rfl) ?_
  refine ww_aload_n (pc := 39) X (j := 0) dX10_centreTold_39 rfl rfl ?_
  refine ww_iconst (pc := 40) X (v := 0) dX10_centreTold_40 (by decide) ?_
  refine ww_sipush (pc := 41) X (v := 9999) dX10_centreTold_41 (by decide) ?_
  obtain ⟨r9, σ10, h8, hF⟩ := bd2_some hF
  refine ww_callVi (pc := 44) X (As := [.int 0, .int 9999]) (rest := []) dX10_centreTold_44 (kX10_number (mL M) G X.2.2.2.2.2.2.1 X.2.2.2.2.2.2.2.1 σ7 0 9999 (r9, σ10) h8) rfl shzM_0 clzM_10 gX10_centreTold_X10_number hyX10_number ⟨rfl, rfl⟩ ⟨Nat.le_of_ble_eq_true rfl, Nat.le_of_ble_eq_true rfl⟩ rfl rfl (Nat.le_of_ble_eq_true rfl) ?_
  refine ww_istore_n (pc := 47) X (lv' := [(0, .ref (G.2.1 0)), (1, .int a1)]) dX10_centreTold_47 rfl (by decide) rfl hF (fun x11 ex11 hF => ?_)
  refine ww_aload_n (pc := 48) X (j := 1) dX10_centreTold_48 rfl rfl ?_
  refine ww_iconst (pc := 49) X (v := 0) dX10_centreTold_49 (by decide) ?_
  refine ww_sipush (pc := 50) X (v := 9999) dX10_centreTold_50 (by decide) ?_
  obtain ⟨r13, σ14, h12, hF⟩ := bd2_some hF
  refine ww_callVi (pc := 53) X (As := [.int 0, .int 9999]) (rest := []) dX10_centreTold_53 (kX10_number (mL M) G X.2.2.2.2.2.2.1 X.2.2.2.2.2.2.2.1 σ10 0 9999 (r13, σ14) h12) rfl shzM_0 clzM_10 gX10_centreTold_X10_number hyX10_number ⟨rfl, rfl⟩ ⟨Nat.le_of_ble_eq_true rfl, Nat.le_of_ble_eq_true rfl⟩ rfl rfl (Nat.le_of_ble_eq_true rfl) ?_
  refine ww_istore_n (pc := 56) X (lv' := [(2, .int x11), (0, .ref (G.2.1 0)), (1, .int a1)]) dX10_centreTold_56 rfl (by decide) rfl hF (fun x15 ex15 hF => ?_)
  refine ww_aload_n (pc := 57) X (j := 2) dX10_centreTold_57 rfl rfl ?_
  refine ww_aload_n (pc := 58) X (j := 2) dX10_centreTold_58 rfl rfl ?_
  refine ww_get (pc := 59) X (ref := "PictureBlockModel") (T := TX10) (j := 17) dX10_centreTold_59 inX10_centreTold_RX10 shzM_0 clzM_10 (by decide) rfl (List.mem_of_getElem? (i := 5) rfl) rfl ?_
  obtain ⟨σ17, h16, hF⟩ := bd_some hF
  refine ww_callVv (pc := 62) X (As := [.ref (G.2.1 10)]) (rest := []) dX10_centreTold_62 (kX10_asks (mL M) G X.2.2.2.2.2.2.1 X.2.2.2.2.2.2.2.1 σ14 10 σ17 h16) rfl shzM_0 clzM_10 gX10_centreTold_X10_asks hyX10_asks ⟨rfl, rfl⟩ ⟨Nat.le_of_ble_eq_true rfl, Nat.le_of_ble_eq_true rfl⟩ rfl rfl (Nat.le_of_ble_eq_true rfl) ?_
  refine ww_aload_n (pc := 65) X (j := 2) dX10_centreTold_65 rfl rfl ?_
  refine ww_iconst (pc := 66) X (v := 1) dX10_centreTold_66 (by decide) ?_
  refine ww_bipush (pc := 67) X (v := 9) dX10_centreTold_67 (by decide) ?_
  obtain ⟨r19, σ20, h18, hF⟩ := bd2_some hF
  refine ww_callVi (pc := 69) X (As := [.int 1, .int 9]) (rest := []) dX10_centreTold_69 (kX10_number (mL M) G X.2.2.2.2.2.2.1 X.2.2.2.2.2.2.2.1 σ17 1 9 (r19, σ20) h18) rfl shzM_0 clzM_10 gX10_centreTold_X10_number hyX10_number ⟨rfl, rfl⟩ ⟨Nat.le_of_ble_eq_true rfl, Nat.le_of_ble_eq_true rfl⟩ rfl rfl (Nat.le_of_ble_eq_true rfl) ?_
  refine ww_istore (pc := 72) X (lv' := [(3, .int x15), (2, .int x11), (0, .ref (G.2.1 0)), (1, .int a1)]) dX10_centreTold_72 (by decide) rfl hF (fun x21 ex21 hF => ?_)
  refine ww_aload_n (pc := 74) X (j := 3) dX10_centreTold_74 rfl rfl ?_
  refine ww_get (pc := 75) X (ref := "PictureBlockModel") (T := TX10) (j := 5) dX10_centreTold_75 inX10_centreTold_RX10 shzM_0 clzM_10 (by decide) rfl (List.mem_of_getElem? (i := 1) rfl) rfl ?_
  refine ww_if_eq (pc := 78) (tgt := 82) X dX10_centreTold_78 (by decide) hF (fun h22 hF => ?_) (fun h22 hF => ?_)
  · refine ww_aload_n (pc := 82) X (j := 3) dX10_centreTold_82 rfl rfl ?_
    refine ww_get (pc := 83) X (ref := "PictureBlockModel") (T := TX10) (j := 27) dX10_centreTold_83 inX10_centreTold_RX10 shzM_0 clzM_10 (by decide) rfl (List.mem_of_getElem? (i := 6) rfl) rfl ?_
    refine ww_iconst (pc := 86) X (v := 2) dX10_centreTold_86 (by decide) ?_
    refine ww_iload_n (pc := 87) X (j := 4) dX10_centreTold_87 rfl rfl ?_
    refine ww_imul (pc := 88) X dX10_centreTold_88 ?_
    refine ww_iload_n (pc := 89) X (j := 2) dX10_centreTold_89 rfl rfl ?_
    refine ww_iast (pc := 90) X dX10_centreTold_90 shzM_19 rfl hF (fun σ23 eσ23 bσ23 hF => ?_)
    refine ww_aload_n (pc := 91) X (j := 3) dX10_centreTold_91 rfl rfl ?_
    refine ww_get (pc := 92) X (ref := "PictureBlockModel") (T := TX10) (j := 27) dX10_centreTold_92 inX10_centreTold_RX10 shzM_0 clzM_10 (by decide) rfl (List.mem_of_getElem? (i := 6) rfl) rfl ?_
    refine ww_iconst (pc := 95) X (v := 2) dX10_centreTold_95 (by decide) ?_
    refine ww_iload_n (pc := 96) X (j := 4) dX10_centreTold_96 rfl rfl ?_
    refine ww_imul (pc := 97) X dX10_centreTold_97 ?_
    refine ww_iconst (pc := 98) X (v := 1) dX10_centreTold_98 (by decide) ?_
    refine ww_iadd (pc := 99) X dX10_centreTold_99 ?_
    refine ww_iload_n (pc := 100) X (j := 1) dX10_centreTold_100 rfl rfl ?_
    refine ww_iast (pc := 101) X dX10_centreTold_101 shzM_19 rfl hF (fun σ24 eσ24 bσ24 hF => ?_)
    refine ww_aload_n (pc := 102) X (j := 3) dX10_centreTold_102 rfl rfl ?_
    refine ww_get (pc := 103) X (ref := "PictureBlockModel") (T := TX10) (j := 26) dX10_centreTold_103 inX10_centreTold_RX10 shzM_0 clzM_10 (by decide) rfl (List.mem_of_getElem? (i := 2) rfl) rfl ?_
    refine ww_iload_n (pc := 106) X (j := 4) dX10_centreTold_106 rfl rfl ?_
    refine ww_iload (pc := 107) X (j := 0) dX10_centreTold_107 rfl ?_
    refine ww_iast (pc := 109) X dX10_centreTold_109 shzM_18 rfl hF (fun σ25 eσ25 bσ25 hF => ?_)
    refine ww_aload_n (pc := 110) X (j := 3) dX10_centreTold_110 rfl rfl ?_
    refine ww_get (pc := 111) X (ref := "PictureBlockModel") (T := TX10) (j := 23) dX10_centreTold_111 inX10_centreTold_RX10 shzM_0 clzM_10 (by decide) rfl (List.mem_of_getElem? (i := 7) rfl) rfl ?_
    refine ww_iconst (pc := 114) X (v := 5) dX10_centreTold_114 (by decide) ?_
    refine ww_dup2_11 (pc := 115) X dX10_centreTold_115 rfl rfl ?_
    refine ww_iald (pc := 116) X dX10_centreTold_116 shzM_15 rfl hF (fun v26 ev26 bv26 hF => ?_)
    refine ww_iconst (pc := 117) X (v := 1) dX10_centreTold_117 (by decide) ?_
    refine ww_iadd (pc := 118) X dX10_centreTold_118 ?_
    refine ww_iast (pc := 119) X dX10_centreTold_119 shzM_15 rfl hF (fun σ27 eσ27 bσ27 hF => ?_)
    exact ww_vret (pc := 120) X dX10_centreTold_120 (by cases hF; rfl)
  · exact ww_vret (pc := 81) X dX10_centreTold_81 (by cases hF; rfl)
set_option maxRecDepth 100000 in
set_option maxHeartbeats 4000000 in
theorem wX10_centreTold {M : gM} {G : gG} {out : gS} (X : gX M G zM cX10_centreTold RX10 5 wsX10_centreTold rmX10_centreTold none) (σ : gS) (hF : fX10_centreTold σ = some out) : WW M (gQv M G zM out) G zM 5 σ 0 [(0, .ref (G.2.1 0))] [] := by
  unfold fX10_centreTold at hF
  refine ww_aload_n (pc := 0) X (j := 0) dX10_centreTold_0 rfl rfl ?_
  refine ww_iconst (pc := 1) X (v := 1) dX10_centreTold_1 (by decide) ?_
  obtain ⟨r2, σ3, h1, hF⟩ := bd2_some hF
  refine ww_callVi (pc := 2) X (As := [.int 1]) (rest := []) dX10_centreTold_2 (kX10_oneOf (mL M) G X.2.2.2.2.2.2.1 X.2.2.2.2.2.2.2.1 σ 1 (r2, σ3) h1) rfl shzM_0 clzM_10 gX10_centreTold_X10_oneOf hyX10_oneOf ⟨rfl, rfl⟩ ⟨Nat.le_of_ble_eq_true rfl, Nat.le_of_ble_eq_true rfl⟩ rfl rfl (Nat.le_of_ble_eq_true rfl) ?_
  refine ww_istore_n (pc := 5) X (lv' := [(0, .ref (G.2.1 0))]) dX10_centreTold_5 rfl (by decide) rfl hF (fun x4 ex4 hF => ?_)
  refine ww_aload_n (pc := 6) X (j := 1) dX10_centreTold_6 rfl rfl ?_
  refine ww_get (pc := 7) X (ref := "PictureBlockModel") (T := TX10) (j := 5) dX10_centreTold_7 inX10_centreTold_RX10 shzM_0 clzM_10 (by decide) rfl (List.mem_of_getElem? (i := 1) rfl) rfl ?_
  refine ww_if_ne (pc := 10) (tgt := 31) X dX10_centreTold_10 (by decide) hF (fun h5 hF => ?_) (fun h5 hF => ?_)
  · exact ww_sub [1, 0] rfl (wjX10_centreTold_31 X σ3 x4 hF)
  · refine ww_aload_n (pc := 13) X (j := 1) dX10_centreTold_13 rfl rfl ?_
    refine ww_get (pc := 14) X (ref := "PictureBlockModel") (T := TX10) (j := 26) dX10_centreTold_14 inX10_centreTold_RX10 shzM_0 clzM_10 (by decide) rfl (List.mem_of_getElem? (i := 2) rfl) rfl ?_
    refine ww_iload_n (pc := 17) X (j := 0) dX10_centreTold_17 rfl rfl ?_
    refine ww_iald (pc := 18) X dX10_centreTold_18 shzM_18 rfl hF (fun v28 ev28 bv28 hF => ?_)
    refine ww_if_eq (pc := 19) (tgt := 31) X dX10_centreTold_19 (by decide) hF (fun h29 hF => ?_) (fun h29 hF => ?_)
    · exact ww_sub [1, 0] rfl (wjX10_centreTold_31 X σ3 x4 hF)
    · refine ww_aload_n (pc := 22) X (j := 1) dX10_centreTold_22 rfl rfl ?_
      refine ww_iconst (pc := 23) X (v := 3) dX10_centreTold_23 (by decide) ?_
      refine ww_aload_n (pc := 24) X (j := 1) dX10_centreTold_24 rfl rfl ?_
      refine ww_get (pc := 25) X (ref := "PictureBlockModel") (T := TX10) (j := 21) dX10_centreTold_25 inX10_centreTold_RX10 shzM_0 clzM_10 (by decide) rfl (List.mem_of_getElem? (i := 3) rfl) rfl ?_
      obtain ⟨σ31, h30, hF⟩ := bd_some hF
      refine ww_callVv (pc := 28) X (As := [.int 3, .int (σ3.1 0 21)]) (rest := []) dX10_centreTold_28 (kX10_fail (mL M) G X.2.2.2.2.2.2.1 X.2.2.2.2.2.2.2.1 σ3 3 (σ3.1 0 21) σ31 h30) rfl shzM_0 clzM_10 gX10_centreTold_X10_fail hyX10_fail ⟨rfl, rfl⟩ ⟨Nat.le_of_ble_eq_true rfl, Nat.le_of_ble_eq_true rfl⟩ rfl rfl (Nat.le_of_ble_eq_true rfl) ?_
      exact ww_sub [1, 0] rfl (wjX10_centreTold_31 X σ31 x4 hF)
set_option maxRecDepth 100000 in
set_option maxHeartbeats 4000000 in
theorem kX10_centreTold (l : Launch) (G : gG) (hG : gOK G zM.1) (hT : G.2.2.1.map (fun q => q.2) = zM.2.1) (σ : gS) (out : gS) (hF : fX10_centreTold σ = some out) : gCv l yX10_centreTold wsX10_centreTold rmX10_centreTold G zM [.ref (G.2.1 0)] σ out :=
  gEnter (by decide) rfl ⟨rfl, rfl⟩ hG hT (Nat.le_of_ble_eq_true rfl) rfl (fun M X hl => wX10_centreTold X σ hF)
