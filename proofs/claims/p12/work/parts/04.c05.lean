noncomputable def fX3_readWord_K9 (σ : gS) : Option (Int32 × gS) :=
  bd (fX3_markRun σ 97 122) fun σ2 => bd (fX3_isNoRun σ2) fun r4 => (if r4 = 0 then bd (fX3_isWord_K9 σ2) fun r10 => (if r10 = 0 then bd2 (fX3_fail σ2 1 (σ2.1 46 6)) fun r15 σ16 => some (vp_nar .boolean r15, σ16) else bd (fX3_passRun σ2) fun σ13 => some (1, σ13)) else bd2 (fX3_fail σ2 1 (σ2.1 46 6)) fun r7 σ8 => some (vp_nar .boolean r7, σ8))
set_option maxRecDepth 100000 in
set_option maxHeartbeats 4000000 in
theorem wX3_readWord_K9 {M : gM} {G : gG} {out : Int32 × gS} (X : gX M G zC cX3_readWord RX3 2 wsX3_readWord rmX3_readWord (some .boolean)) {ex : gEx} (hZ : ∀ s : State, G.2.2.2 s → kC ex (gA G zC.1) s) (σ : gS) (hF : fX3_readWord_K9 σ = some out) : WW M (gQi M G zC out.1 out.2) G zC 2 σ 0 [(0, .ref (G.2.1 46)), (1, .ref (ex.1 9))] [] := by
  unfold fX3_readWord_K9 at hF
  refine ww_aload_n (pc := 0) X (j := 0) dX3_readWord_0 rfl rfl ?_
  refine ww_bipush (pc := 1) X (v := 97) dX3_readWord_1 (by decide) ?_
  refine ww_bipush (pc := 3) X (v := 122) dX3_readWord_3 (by decide) ?_
  obtain ⟨σ2, h1, hF⟩ := bd_some hF
  refine ww_callVv (pc := 5) X (As := [.int 97, .int 122]) (rest := []) dX3_readWord_5 (kX3_markRun (mL M) G hZ X.2.2.2.2.2.2.1 X.2.2.2.2.2.2.2.1 σ 97 122 σ2 h1) rfl shzC_46 clzC_3 gX3_readWord_X3_markRun hyX3_markRun ⟨rfl, rfl⟩ ⟨Nat.le_of_ble_eq_true rfl, Nat.le_of_ble_eq_true rfl⟩ rfl rfl (Nat.le_of_ble_eq_true rfl) ?_
  refine ww_aload_n (pc := 8) X (j := 0) dX3_readWord_8 rfl rfl ?_
  obtain ⟨r4, h3, hF⟩ := bd_some hF
  refine ww_callVi (pc := 9) X (As := []) (rest := []) dX3_readWord_9 (kX3_isNoRun (mL M) G hZ X.2.2.2.2.2.2.1 X.2.2.2.2.2.2.2.1 σ2 r4 h3) rfl shzC_46 clzC_3 gX3_readWord_X3_isNoRun hyX3_isNoRun ⟨rfl, rfl⟩ ⟨Nat.le_of_ble_eq_true rfl, Nat.le_of_ble_eq_true rfl⟩ rfl rfl (Nat.le_of_ble_eq_true rfl) ?_
  refine ww_if_ne (pc := 12) (tgt := 23) X dX3_readWord_12 (by decide) hF (fun h5 hF => ?_) (fun h5 hF => ?_)
  · refine ww_aload_n (pc := 23) X (j := 0) dX3_readWord_23 rfl rfl ?_
    refine ww_iconst (pc := 24) X (v := 1) dX3_readWord_24 (by decide) ?_
    refine ww_aload_n (pc := 25) X (j := 0) dX3_readWord_25 rfl rfl ?_
    refine ww_get (pc := 26) X (ref := "PictureBlock$Reader") (T := TX3) (j := 6) dX3_readWord_26 inX3_readWord_RX3 shzC_46 clzC_3 (by decide) rfl (List.mem_of_getElem? (i := 1) rfl) rfl ?_
    obtain ⟨r7, σ8, h6, hF⟩ := bd2_some hF
    refine ww_callVi (pc := 29) X (As := [.int 1, .int (σ2.1 46 6)]) (rest := []) dX3_readWord_29 (kX3_fail (mL M) G hZ X.2.2.2.2.2.2.1 X.2.2.2.2.2.2.2.1 σ2 1 (σ2.1 46 6) (r7, σ8) h6) rfl shzC_46 clzC_3 gX3_readWord_X3_fail hyX3_fail ⟨rfl, rfl⟩ ⟨Nat.le_of_ble_eq_true rfl, Nat.le_of_ble_eq_true rfl⟩ rfl rfl (Nat.le_of_ble_eq_true rfl) ?_
    exact ww_zret (pc := 32) X dX3_readWord_32 (by cases hF; rfl) (by cases hF; rfl)
  · refine ww_aload_n (pc := 15) X (j := 0) dX3_readWord_15 rfl rfl ?_
    refine ww_aload_n (pc := 16) X (j := 1) dX3_readWord_16 rfl rfl ?_
    obtain ⟨r10, h9, hF⟩ := bd_some hF
    refine ww_callVi (pc := 17) X (As := [.ref (ex.1 9)]) (rest := []) dX3_readWord_17 (kX3_isWord_K9 (mL M) G hZ X.2.2.2.2.2.2.1 X.2.2.2.2.2.2.2.1 σ2 r10 h9) rfl shzC_46 clzC_3 gX3_readWord_X3_isWord hyX3_isWord ⟨rfl, rfl⟩ ⟨Nat.le_of_ble_eq_true rfl, Nat.le_of_ble_eq_true rfl⟩ rfl rfl (Nat.le_of_ble_eq_true rfl) ?_
    refine ww_if_ne (pc := 20) (tgt := 33) X dX3_readWord_20 (by decide) hF (fun h11 hF => ?_) (fun h11 hF => ?_)
    · refine ww_aload_n (pc := 33) X (j := 0) dX3_readWord_33 rfl rfl ?_
      obtain ⟨σ13, h12, hF⟩ := bd_some hF
      refine ww_callVv (pc := 34) X (As := []) (rest := []) dX3_readWord_34 (kX3_passRun (mL M) G hZ X.2.2.2.2.2.2.1 X.2.2.2.2.2.2.2.1 σ2 σ13 h12) rfl shzC_46 clzC_3 gX3_readWord_X3_passRun hyX3_passRun ⟨rfl, rfl⟩ ⟨Nat.le_of_ble_eq_true rfl, Nat.le_of_ble_eq_true rfl⟩ rfl rfl (Nat.le_of_ble_eq_true rfl) ?_
      refine ww_iconst (pc := 37) X (v := 1) dX3_readWord_37 (by decide) ?_
      exact ww_zret (pc := 38) X dX3_readWord_38 (by cases hF; rfl) (by cases hF; rfl)
    · refine ww_aload_n (pc := 23) X (j := 0) dX3_readWord_23 rfl rfl ?_
      refine ww_iconst (pc := 24) X (v := 1) dX3_readWord_24 (by decide) ?_
      refine ww_aload_n (pc := 25) X (j := 0) dX3_readWord_25 rfl rfl ?_
      refine ww_get (pc := 26) X (ref := "PictureBlock$Reader") (T := TX3) (j := 6) dX3_readWord_26 inX3_readWord_RX3 shzC_46 clzC_3 (by decide) rfl (List.mem_of_getElem? (i := 1) rfl) rfl ?_
      obtain ⟨r15, σ16, h14, hF⟩ := bd2_some hF
      refine ww_callVi (pc := 29) X (As := [.int 1, .int (σ2.1 46 6)]) (rest := []) dX3_readWord_29 (kX3_fail (mL M) G hZ X.2.2.2.2.2.2.1 X.2.2.2.2.2.2.2.1 σ2 1 (σ2.1 46 6) (r15, σ16) h14) rfl shzC_46 clzC_3 gX3_readWord_X3_fail hyX3_fail ⟨rfl, rfl⟩ ⟨Nat.le_of_ble_eq_true rfl, Nat.le_of_ble_eq_true rfl⟩ rfl rfl (Nat.le_of_ble_eq_true rfl) ?_
      exact ww_zret (pc := 32) X dX3_readWord_32 (by cases hF; rfl) (by cases hF; rfl)
set_option maxRecDepth 100000 in
set_option maxHeartbeats 4000000 in
theorem kX3_readWord_K9 (l : Launch) (G : gG) {ex : gEx} (hZ : ∀ s : State, G.2.2.2 s → kC ex (gA G zC.1) s) (hG : gOK G zC.1) (hT : G.2.2.1.map (fun q => q.2) = zC.2.1) (σ : gS) (out : Int32 × gS) (hF : fX3_readWord_K9 σ = some out) : gCi l yX3_readWord wsX3_readWord rmX3_readWord G zC [.ref (G.2.1 46), .ref (ex.1 9)] σ out.1 out.2 :=
  gEnter (by decide) rfl ⟨rfl, rfl⟩ hG hT (Nat.le_of_ble_eq_true rfl) rfl (fun M X hl => wX3_readWord_K9 X hZ σ hF)
noncomputable def fX3_readAt (σ : gS) : Option (Int32 × gS) :=
  bd2 (fX3_readWord_K9 σ) fun r2 σ3 => (if r2 = 0 then some (0, σ3) else bd2 (fX3_readNumber σ3 0 9999) fun r6 σ7 => (if r6 = 0 then some (0, σ7) else nm (gsI σ7 46 12 (σ7.1 46 11)) fun σ9 => bd2 (fX3_readNumber σ9 0 9999) fun r11 σ12 => (if r11 = 0 then some (0, σ12) else nm (gsI σ12 46 13 (σ12.1 46 11)) fun σ14 => some (1, σ14))))
noncomputable abbrev rmX3_readAt : Room := { frames := 6, cells := 0, slots := 0, locals := 128 }
set_option maxRecDepth 100000 in
set_option maxHeartbeats 4000000 in
theorem wX3_readAt {M : gM} {G : gG} {out : Int32 × gS} (X : gX M G zC cX3_readAt RX3 1 wsX3_readAt rmX3_readAt (some .boolean)) {ex : gEx} (hZ : ∀ s : State, G.2.2.2 s → kC ex (gA G zC.1) s) (σ : gS) (hF : fX3_readAt σ = some out) : WW M (gQi M G zC out.1 out.2) G zC 1 σ 0 [(0, .ref (G.2.1 46))] [] := by
  unfold fX3_readAt at hF
  refine ww_aload_n (pc := 0) X (j := 0) dX3_readAt_0 rfl rfl ?_
  refine ww_ldcS (pc := 1) X (tx := "at") (q := ex.1 9) dX3_readAt_1 (eC_ref9 (hZ _ (gXk X))) ?_
  obtain ⟨r2, σ3, h1, hF⟩ := bd2_some hF
  refine ww_callVi (pc := 3) X (As := [.ref (ex.1 9)]) (rest := []) dX3_readAt_3 (kX3_readWord_K9 (mL M) G hZ X.2.2.2.2.2.2.1 X.2.2.2.2.2.2.2.1 σ (r2, σ3) h1) rfl shzC_46 clzC_3 gX3_readAt_X3_readWord hyX3_readWord ⟨rfl, rfl⟩ ⟨Nat.le_of_ble_eq_true rfl, Nat.le_of_ble_eq_true rfl⟩ rfl rfl (Nat.le_of_ble_eq_true rfl) ?_
  refine ww_if_eq (pc := 6) (tgt := 20) X dX3_readAt_6 (by decide) hF (fun h4 hF => ?_) (fun h4 hF => ?_)
  · refine ww_iconst (pc := 20) X (v := 0) dX3_readAt_20 (by decide) ?_
    exact ww_zret (pc := 21) X dX3_readAt_21 (by cases hF; rfl) (by cases hF; rfl)
  · refine ww_aload_n (pc := 9) X (j := 0) dX3_readAt_9 rfl rfl ?_
    refine ww_iconst (pc := 10) X (v := 0) dX3_readAt_10 (by decide) ?_
    refine ww_sipush (pc := 11) X (v := 9999) dX3_readAt_11 (by decide) ?_
    obtain ⟨r6, σ7, h5, hF⟩ := bd2_some hF
    refine ww_callVi (pc := 14) X (As := [.int 0, .int 9999]) (rest := []) dX3_readAt_14 (kX3_readNumber (mL M) G hZ X.2.2.2.2.2.2.1 X.2.2.2.2.2.2.2.1 σ3 0 9999 (r6, σ7) h5) rfl shzC_46 clzC_3 gX3_readAt_X3_readNumber hyX3_readNumber ⟨rfl, rfl⟩ ⟨Nat.le_of_ble_eq_true rfl, Nat.le_of_ble_eq_true rfl⟩ rfl rfl (Nat.le_of_ble_eq_true rfl) ?_
    refine ww_if_ne (pc := 17) (tgt := 22) X dX3_readAt_17 (by decide) hF (fun h8 hF => ?_) (fun h8 hF => ?_)
    · refine ww_aload_n (pc := 22) X (j := 0) dX3_readAt_22 rfl rfl ?_
      refine ww_aload_n (pc := 23) X (j := 0) dX3_readAt_23 rfl rfl ?_
      refine ww_get (pc := 24) X (ref := "PictureBlock$Reader") (T := TX3) (j := 11) dX3_readAt_24 inX3_readAt_RX3 shzC_46 clzC_3 (by decide) rfl (List.mem_of_getElem? (i := 1) rfl) rfl ?_
      refine ww_putI (pc := 27) X (ref := "PictureBlock$Reader") (T := TX3) (j := 12) dX3_readAt_27 inX3_readAt_RX3 tyX3 tyX3_ok nmX3 shzC_46 clzC_3 (by decide) rfl (List.mem_of_getElem? (i := 2) rfl) rfl rfl (by decide +kernel) hF (fun σ9 eσ9 hF => ?_)
      refine ww_aload_n (pc := 30) X (j := 0) dX3_readAt_30 rfl rfl ?_
      refine ww_iconst (pc := 31) X (v := 0) dX3_readAt_31 (by decide) ?_
      refine ww_sipush (pc := 32) X (v := 9999) dX3_readAt_32 (by decide) ?_
      obtain ⟨r11, σ12, h10, hF⟩ := bd2_some hF
      refine ww_callVi (pc := 35) X (As := [.int 0, .int 9999]) (rest := []) dX3_readAt_35 (kX3_readNumber (mL M) G hZ X.2.2.2.2.2.2.1 X.2.2.2.2.2.2.2.1 σ9 0 9999 (r11, σ12) h10) rfl shzC_46 clzC_3 gX3_readAt_X3_readNumber hyX3_readNumber ⟨rfl, rfl⟩ ⟨Nat.le_of_ble_eq_true rfl, Nat.le_of_ble_eq_true rfl⟩ rfl rfl (Nat.le_of_ble_eq_true rfl) ?_
      refine ww_if_ne (pc := 38) (tgt := 43) X dX3_readAt_38 (by decide) hF (fun h13 hF => ?_) (fun h13 hF => ?_)
      · refine ww_aload_n (pc := 43) X (j := 0) dX3_readAt_43 rfl rfl ?_
        refine ww_aload_n (pc := 44) X (j := 0) dX3_readAt_44 rfl rfl ?_
        refine ww_get (pc := 45) X (ref := "PictureBlock$Reader") (T := TX3) (j := 11) dX3_readAt_45 inX3_readAt_RX3 shzC_46 clzC_3 (by decide) rfl (List.mem_of_getElem? (i := 1) rfl) rfl ?_
        refine ww_putI (pc := 48) X (ref := "PictureBlock$Reader") (T := TX3) (j := 13) dX3_readAt_48 inX3_readAt_RX3 tyX3 tyX3_ok nmX3 shzC_46 clzC_3 (by decide) rfl (List.mem_of_getElem? (i := 3) rfl) rfl rfl (by decide +kernel) hF (fun σ14 eσ14 hF => ?_)
        refine ww_iconst (pc := 51) X (v := 1) dX3_readAt_51 (by decide) ?_
        exact ww_zret (pc := 52) X dX3_readAt_52 (by cases hF; rfl) (by cases hF; rfl)
      · refine ww_iconst (pc := 41) X (v := 0) dX3_readAt_41 (by decide) ?_
        exact ww_zret (pc := 42) X dX3_readAt_42 (by cases hF; rfl) (by cases hF; rfl)
    · refine ww_iconst (pc := 20) X (v := 0) dX3_readAt_20 (by decide) ?_
      exact ww_zret (pc := 21) X dX3_readAt_21 (by cases hF; rfl) (by cases hF; rfl)
set_option maxRecDepth 100000 in
set_option maxHeartbeats 4000000 in
theorem kX3_readAt (l : Launch) (G : gG) {ex : gEx} (hZ : ∀ s : State, G.2.2.2 s → kC ex (gA G zC.1) s) (hG : gOK G zC.1) (hT : G.2.2.1.map (fun q => q.2) = zC.2.1) (σ : gS) (out : Int32 × gS) (hF : fX3_readAt σ = some out) : gCi l yX3_readAt wsX3_readAt rmX3_readAt G zC [.ref (G.2.1 46)] σ out.1 out.2 :=
  gEnter (by decide) rfl ⟨rfl, rfl⟩ hG hT (Nat.le_of_ble_eq_true rfl) rfl (fun M X hl => wX3_readAt X hZ σ hF)
noncomputable def fX3_readWord_K10 (σ : gS) : Option (Int32 × gS) :=
  bd (fX3_markRun σ 97 122) fun σ2 => bd (fX3_isNoRun σ2) fun r4 => (if r4 = 0 then bd (fX3_isWord_K10 σ2) fun r10 => (if r10 = 0 then bd2 (fX3_fail σ2 1 (σ2.1 46 6)) fun r15 σ16 => some (vp_nar .boolean r15, σ16) else bd (fX3_passRun σ2) fun σ13 => some (1, σ13)) else bd2 (fX3_fail σ2 1 (σ2.1 46 6)) fun r7 σ8 => some (vp_nar .boolean r7, σ8))
set_option maxRecDepth 100000 in
set_option maxHeartbeats 4000000 in
theorem wX3_readWord_K10 {M : gM} {G : gG} {out : Int32 × gS} (X : gX M G zC cX3_readWord RX3 2 wsX3_readWord rmX3_readWord (some .boolean)) {ex : gEx} (hZ : ∀ s : State, G.2.2.2 s → kC ex (gA G zC.1) s) (σ : gS) (hF : fX3_readWord_K10 σ = some out) : WW M (gQi M G zC out.1 out.2) G zC 2 σ 0 [(0, .ref (G.2.1 46)), (1, .ref (ex.1 10))] [] := by
  unfold fX3_readWord_K10 at hF
  refine ww_aload_n (pc := 0) X (j := 0) dX3_readWord_0 rfl rfl ?_
  refine ww_bipush (pc := 1) X (v := 97) dX3_readWord_1 (by decide) ?_
  refine ww_bipush (pc := 3) X (v := 122) dX3_readWord_3 (by decide) ?_
  obtain ⟨σ2, h1, hF⟩ := bd_some hF
  refine ww_callVv (pc := 5) X (As := [.int 97, .int 122]) (rest := []) dX3_readWord_5 (kX3_markRun (mL M) G hZ X.2.2.2.2.2.2.1 X.2.2.2.2.2.2.2.1 σ 97 122 σ2 h1) rfl shzC_46 clzC_3 gX3_readWord_X3_markRun hyX3_markRun ⟨rfl, rfl⟩ ⟨Nat.le_of_ble_eq_true rfl, Nat.le_of_ble_eq_true rfl⟩ rfl rfl (Nat.le_of_ble_eq_true rfl) ?_
  refine ww_aload_n (pc := 8) X (j := 0) dX3_readWord_8 rfl rfl ?_
  obtain ⟨r4, h3, hF⟩ := bd_some hF
  refine ww_callVi (pc := 9) X (As := []) (rest := []) dX3_readWord_9 (kX3_isNoRun (mL M) G hZ X.2.2.2.2.2.2.1 X.2.2.2.2.2.2.2.1 σ2 r4 h3) rfl shzC_46 clzC_3 gX3_readWord_X3_isNoRun hyX3_isNoRun ⟨rfl, rfl⟩ ⟨Nat.le_of_ble_eq_true rfl, Nat.le_of_ble_eq_true rfl⟩ rfl rfl (Nat.le_of_ble_eq_true rfl) ?_
  refine ww_if_ne (pc := 12) (tgt := 23) X dX3_readWord_12 (by decide) hF (fun h5 hF => ?_) (fun h5 hF => ?_)
  · refine ww_aload_n (pc := 23) X (j := 0) dX3_readWord_23 rfl rfl ?_
    refine ww_iconst (pc := 24) X (v := 1) dX3_readWord_24 (by decide) ?_
    refine ww_aload_n (pc := 25) X (j := 0) dX3_readWord_25 rfl rfl ?_
    refine ww_get (pc := 26) X (ref := "PictureBlock$Reader") (T := TX3) (j := 6) dX3_readWord_26 inX3_readWord_RX3 shzC_46 clzC_3 (by decide) rfl (List.mem_of_getElem? (i := 1) rfl) rfl ?_
    obtain ⟨r7, σ8, h6, hF⟩ := bd2_some hF
    refine ww_callVi (pc := 29) X (As := [.int 1, .int (σ2.1 46 6)]) (rest := []) dX3_readWord_29 (kX3_fail (mL M) G hZ X.2.2.2.2.2.2.1 X.2.2.2.2.2.2.2.1 σ2 1 (σ2.1 46 6) (r7, σ8) h6) rfl shzC_46 clzC_3 gX3_readWord_X3_fail hyX3_fail ⟨rfl, rfl⟩ ⟨Nat.le_of_ble_eq_true rfl, Nat.le_of_ble_eq_true rfl⟩ rfl rfl (Nat.le_of_ble_eq_true rfl) ?_
    exact ww_zret (pc := 32) X dX3_readWord_32 (by cases hF; rfl) (by cases hF; rfl)
  · refine ww_aload_n (pc := 15) X (j := 0) dX3_readWord_15 rfl rfl ?_
    refine ww_aload_n (pc := 16) X (j := 1) dX3_readWord_16 rfl rfl ?_
    obtain ⟨r10, h9, hF⟩ := bd_some hF
    refine ww_callVi (pc := 17) X (As := [.ref (ex.1 10)]) (rest := []) dX3_readWord_17 (kX3_isWord_K10 (mL M) G hZ X.2.2.2.2.2.2.1 X.2.2.2.2.2.2.2.1 σ2 r10 h9) rfl shzC_46 clzC_3 gX3_readWord_X3_isWord hyX3_isWord ⟨rfl, rfl⟩ ⟨Nat.le_of_ble_eq_true rfl, Nat.le_of_ble_eq_true rfl⟩ rfl rfl (Nat.le_of_ble_eq_true rfl) ?_
    refine ww_if_ne (pc := 20) (tgt := 33) X dX3_readWord_20 (by decide) hF (fun h11 hF => ?_) (fun h11 hF => ?_)
    · refine ww_aload_n (pc := 33) X (j := 0) dX3_readWord_33 rfl rfl ?_
      obtain ⟨σ13, h12, hF⟩ := bd_some hF
      refine ww_callVv (pc := 34) X (As := []) (rest := []) dX3_readWord_34 (kX3_passRun (mL M) G hZ X.2.2.2.2.2.2.1 X.2.2.2.2.2.2.2.1 σ2 σ13 h12) rfl shzC_46 clzC_3 gX3_readWord_X3_passRun hyX3_passRun ⟨rfl, rfl⟩ ⟨Nat.le_of_ble_eq_true rfl, Nat.le_of_ble_eq_true rfl⟩ rfl rfl (Nat.le_of_ble_eq_true rfl) ?_
      refine ww_iconst (pc := 37) X (v := 1) dX3_readWord_37 (by decide) ?_
      exact ww_zret (pc := 38) X dX3_readWord_38 (by cases hF; rfl) (by cases hF; rfl)
    · refine ww_aload_n (pc := 23) X (j := 0) dX3_readWord_23 rfl rfl ?_
      refine ww_iconst (pc := 24) X (v := 1) dX3_readWord_24 (by decide) ?_
      refine ww_aload_n (pc := 25) X (j := 0) dX3_readWord_25 rfl rfl ?_
      refine ww_get (pc := 26) X (ref := "PictureBlock$Reader") (T := TX3) (j := 6) dX3_readWord_26 inX3_readWord_RX3 shzC_46 clzC_3 (by decide) rfl (List.mem_of_getElem? (i := 1) rfl) rfl ?_
      obtain ⟨r15, σ16, h14, hF⟩ := bd2_some hF
      refine ww_callVi (pc := 29) X (As := [.int 1, .int (σ2.1 46 6)]) (rest := []) dX3_readWord_29 (kX3_fail (mL M) G hZ X.2.2.2.2.2.2.1 X.2.2.2.2.2.2.2.1 σ2 1 (σ2.1 46 6) (r15, σ16) h14) rfl shzC_46 clzC_3 gX3_readWord_X3_fail hyX3_fail ⟨rfl, rfl⟩ ⟨Nat.le_of_ble_eq_true rfl, Nat.le_of_ble_eq_true rfl⟩ rfl rfl (Nat.le_of_ble_eq_true rfl) ?_
      exact ww_zret (pc := 32) X dX3_readWord_32 (by cases hF; rfl) (by cases hF; rfl)
set_option maxRecDepth 100000 in
set_option maxHeartbeats 4000000 in
theorem kX3_readWord_K10 (l : Launch) (G : gG) {ex : gEx} (hZ : ∀ s : State, G.2.2.2 s → kC ex (gA G zC.1) s) (hG : gOK G zC.1) (hT : G.2.2.1.map (fun q => q.2) = zC.2.1) (σ : gS) (out : Int32 × gS) (hF : fX3_readWord_K10 σ = some out) : gCi l yX3_readWord wsX3_readWord rmX3_readWord G zC [.ref (G.2.1 46), .ref (ex.1 10)] σ out.1 out.2 :=
  gEnter (by decide) rfl ⟨rfl, rfl⟩ hG hT (Nat.le_of_ble_eq_true rfl) rfl (fun M X hl => wX3_readWord_K10 X hZ σ hF)
noncomputable def fX8_setMeasured_24 (σ : gS) (p1 : Int32) (p2 : Int32) (p3 : Int32) : Option (gS) :=
  gd (gb 0 2) <| gd (gb p1 60) <| nm (gsI σ 35 p1.toNatClampNeg p2) fun σ2 => gd (gb 1 2) <| gd (gb p1 60) <| nm (gsI σ2 36 p1.toNatClampNeg p3) fun σ4 => some σ4
noncomputable abbrev rmX8_setMeasured : Room := { frames := 0, cells := 0, slots := 0, locals := 0 }
set_option maxRecDepth 100000 in
set_option maxHeartbeats 4000000 in
theorem wX8_setMeasured_24 {M : gM} {G : gG} {out : gS} (X : gX M G zC cX8_setMeasured RX8 4 wsX8_setMeasured rmX8_setMeasured none) {ex : gEx} (hZ : ∀ s : State, G.2.2.2 s → kC ex (gA G zC.1) s) (σ : gS) (p1 : Int32) (p2 : Int32) (p3 : Int32) (hF : fX8_setMeasured_24 σ p1 p2 p3 = some out) : WW M (gQv M G zC out) G zC 4 σ 0 [(0, .ref (G.2.1 24)), (1, .int p1), (2, .int p2), (3, .int p3)] [] := by
  unfold fX8_setMeasured_24 at hF
  refine ww_aload_n (pc := 0) X (j := 0) dX8_setMeasured_0 rfl rfl ?_
  refine ww_get (pc := 1) X (ref := "PictureBlock$Told") (T := TX8) (j := 6) dX8_setMeasured_1 inX8_setMeasured_RX8 shzC_24 clzC_8 (by decide) rfl (List.mem_of_getElem? (i := 1) rfl) rfl ?_
  refine ww_iconst (pc := 4) X (v := 0) dX8_setMeasured_4 (by decide) ?_
  refine ww_aald (pc := 5) X dX8_setMeasured_5 shzC_34 rfl hF (fun h1 hF => ?_)
  show WW M _ G zC _ _ _ _ (.ref (G.2.1 35) :: _)
  refine ww_iload_n (pc := 6) X (j := 1) dX8_setMeasured_6 rfl rfl ?_
  refine ww_iload_n (pc := 7) X (j := 2) dX8_setMeasured_7 rfl rfl ?_
  refine ww_iast (pc := 8) X dX8_setMeasured_8 shzC_35 rfl hF (fun σ2 eσ2 bσ2 hF => ?_)
  refine ww_aload_n (pc := 9) X (j := 0) dX8_setMeasured_9 rfl rfl ?_
  refine ww_get (pc := 10) X (ref := "PictureBlock$Told") (T := TX8) (j := 6) dX8_setMeasured_10 inX8_setMeasured_RX8 shzC_24 clzC_8 (by decide) rfl (List.mem_of_getElem? (i := 1) rfl) rfl ?_
  refine ww_iconst (pc := 13) X (v := 1) dX8_setMeasured_13 (by decide) ?_
  refine ww_aald (pc := 14) X dX8_setMeasured_14 shzC_34 rfl hF (fun h3 hF => ?_)
  show WW M _ G zC _ _ _ _ (.ref (G.2.1 36) :: _)
  refine ww_iload_n (pc := 15) X (j := 1) dX8_setMeasured_15 rfl rfl ?_
  refine ww_iload_n (pc := 16) X (j := 3) dX8_setMeasured_16 rfl rfl ?_
  refine ww_iast (pc := 17) X dX8_setMeasured_17 shzC_36 rfl hF (fun σ4 eσ4 bσ4 hF => ?_)
  exact ww_vret (pc := 18) X dX8_setMeasured_18 (by cases hF; rfl)
set_option maxRecDepth 100000 in
set_option maxHeartbeats 4000000 in
theorem kX8_setMeasured_24 (l : Launch) (G : gG) {ex : gEx} (hZ : ∀ s : State, G.2.2.2 s → kC ex (gA G zC.1) s) (hG : gOK G zC.1) (hT : G.2.2.1.map (fun q => q.2) = zC.2.1) (σ : gS) (p1 : Int32) (p2 : Int32) (p3 : Int32) (out : gS) (hF : fX8_setMeasured_24 σ p1 p2 p3 = some out) : gCv l yX8_setMeasured wsX8_setMeasured rmX8_setMeasured G zC [.ref (G.2.1 24), .int p1, .int p2, .int p3] σ out :=
  gEnter (by decide) rfl ⟨rfl, rfl⟩ hG hT (Nat.le_of_ble_eq_true rfl) rfl (fun M X hl => wX8_setMeasured_24 X hZ σ p1 p2 p3 hF)
noncomputable def fX8_addRow_24 (σ : gS) (p1 : Int32) (p2 : Int32) (p3 : Int32) (p4 : Int32) (p5 : Int32) : Option (gS) :=
  bd (fX8_isFull_24 σ 3) fun r2 => (if r2 = 0 then gd (gb 3 6) <| nm (σ.1 25 ((3 : Int32).toNatClampNeg)) fun v4 => nm (v4 : Int32) fun x5 => gd (gb x5 60) <| nm (gsI σ 32 x5.toNatClampNeg p1) fun σ6 => gd (gb x5 60) <| nm (gsI σ6 33 x5.toNatClampNeg p2) fun σ7 => gd (gb x5 60) <| nm (gsI σ7 37 x5.toNatClampNeg p5) fun σ8 => gd (gb 3 6) <| nm (σ8.1 25 ((3 : Int32).toNatClampNeg)) fun v9 => gd (gb 3 6) <| nm (gsI σ8 25 ((3 : Int32).toNatClampNeg) (v9 + 1)) fun σ10 => bd (fX8_setMeasured_24 σ10 x5 p3 p4) fun σ12 => some σ12 else some σ)
noncomputable abbrev rmX8_addRow : Room := { frames := 1, cells := 0, slots := 0, locals := 23 }
set_option maxRecDepth 100000 in
set_option maxHeartbeats 4000000 in
theorem wX8_addRow_24 {M : gM} {G : gG} {out : gS} (X : gX M G zC cX8_addRow RX8 7 wsX8_addRow rmX8_addRow none) {ex : gEx} (hZ : ∀ s : State, G.2.2.2 s → kC ex (gA G zC.1) s) (σ : gS) (p1 : Int32) (p2 : Int32) (p3 : Int32) (p4 : Int32) (p5 : Int32) (hF : fX8_addRow_24 σ p1 p2 p3 p4 p5 = some out) : WW M (gQv M G zC out) G zC 7 σ 0 [(0, .ref (G.2.1 24)), (1, .int p1), (2, .int p2), (3, .int p3), (4, .int p4), (5, .int p5)] [] := by
  unfold fX8_addRow_24 at hF
  refine ww_aload_n (pc := 0) X (j := 0) dX8_addRow_0 rfl rfl ?_
  refine ww_iconst (pc := 1) X (v := 3) dX8_addRow_1 (by decide) ?_
  obtain ⟨r2, h1, hF⟩ := bd_some hF
  refine ww_callVi (pc := 2) X (As := [.int 3]) (rest := []) dX8_addRow_2 (kX8_isFull_24 (mL M) G hZ X.2.2.2.2.2.2.1 X.2.2.2.2.2.2.2.1 σ 3 r2 h1) rfl shzC_24 clzC_8 gX8_addRow_X8_isFull hyX8_isFull ⟨rfl, rfl⟩ ⟨Nat.le_of_ble_eq_true rfl, Nat.le_of_ble_eq_true rfl⟩ rfl rfl (Nat.le_of_ble_eq_true rfl) ?_
  refine ww_if_eq (pc := 5) (tgt := 9) X dX8_addRow_5 (by decide) hF (fun h3 hF => ?_) (fun h3 hF => ?_)
  · refine ww_aload_n (pc := 9) X (j := 0) dX8_addRow_9 rfl rfl ?_
    refine ww_get (pc := 10) X (ref := "PictureBlock$Told") (T := TX8) (j := 0) dX8_addRow_10 inX8_addRow_RX8 shzC_24 clzC_8 (by decide) rfl (List.mem_of_getElem? (i := 1) rfl) rfl ?_
    refine ww_iconst (pc := 13) X (v := 3) dX8_addRow_13 (by decide) ?_
    refine ww_iald (pc := 14) X dX8_addRow_14 shzC_25 rfl hF (fun v4 ev4 bv4 hF => ?_)
    refine ww_istore (pc := 15) X (lv' := [(0, .ref (G.2.1 24)), (1, .int p1), (2, .int p2), (3, .int p3), (4, .int p4), (5, .int p5)]) dX8_addRow_15 (by decide) rfl hF (fun x5 ex5 hF => ?_)
    refine ww_aload_n (pc := 17) X (j := 1) dX8_addRow_17 rfl rfl ?_
    refine ww_get (pc := 18) X (ref := "PictureBlock$Told") (T := TX8) (j := 4) dX8_addRow_18 inX8_addRow_RX8 shzC_24 clzC_8 (by decide) rfl (List.mem_of_getElem? (i := 2) rfl) rfl ?_
    refine ww_iload (pc := 21) X (j := 0) dX8_addRow_21 rfl ?_
    refine ww_iload_n (pc := 23) X (j := 2) dX8_addRow_23 rfl rfl ?_
    refine ww_iast (pc := 24) X dX8_addRow_24 shzC_32 rfl hF (fun σ6 eσ6 bσ6 hF => ?_)
    refine ww_aload_n (pc := 25) X (j := 1) dX8_addRow_25 rfl rfl ?_
    refine ww_get (pc := 26) X (ref := "PictureBlock$Told") (T := TX8) (j := 5) dX8_addRow_26 inX8_addRow_RX8 shzC_24 clzC_8 (by decide) rfl (List.mem_of_getElem? (i := 3) rfl) rfl ?_
    refine ww_iload (pc := 29) X (j := 0) dX8_addRow_29 rfl ?_
    refine ww_iload_n (pc := 31) X (j := 3) dX8_addRow_31 rfl rfl ?_
    refine ww_iast (pc := 32) X dX8_addRow_32 shzC_33 rfl hF (fun σ7 eσ7 bσ7 hF => ?_)
    refine ww_aload_n (pc := 33) X (j := 1) dX8_addRow_33 rfl rfl ?_
    refine ww_get (pc := 34) X (ref := "PictureBlock$Told") (T := TX8) (j := 7) dX8_addRow_34 inX8_addRow_RX8 shzC_24 clzC_8 (by decide) rfl (List.mem_of_getElem? (i := 4) rfl) rfl ?_
    refine ww_iload (pc := 37) X (j := 0) dX8_addRow_37 rfl ?_
    refine ww_iload (pc := 39) X (j := 6) dX8_addRow_39 rfl ?_
    refine ww_iast (pc := 41) X dX8_addRow_41 shzC_37 rfl hF (fun σ8 eσ8 bσ8 hF => ?_)
    refine ww_aload_n (pc := 42) X (j := 1) dX8_addRow_42 rfl rfl ?_
    refine ww_get (pc := 43) X (ref := "PictureBlock$Told") (T := TX8) (j := 0) dX8_addRow_43 inX8_addRow_RX8 shzC_24 clzC_8 (by decide) rfl (List.mem_of_getElem? (i := 1) rfl) rfl ?_
    refine ww_iconst (pc := 46) X (v := 3) dX8_addRow_46 (by decide) ?_
    refine ww_dup2_11 (pc := 47) X dX8_addRow_47 rfl rfl ?_
    refine ww_iald (pc := 48) X dX8_addRow_48 shzC_25 rfl hF (fun v9 ev9 bv9 hF => ?_)
    refine ww_iconst (pc := 49) X (v := 1) dX8_addRow_49 (by decide) ?_
    refine ww_iadd (pc := 50) X dX8_addRow_50 ?_
    refine ww_iast (pc := 51) X dX8_addRow_51 shzC_25 rfl hF (fun σ10 eσ10 bσ10 hF => ?_)
    refine ww_aload_n (pc := 52) X (j := 1) dX8_addRow_52 rfl rfl ?_
    refine ww_iload (pc := 53) X (j := 0) dX8_addRow_53 rfl ?_
    refine ww_iload_n (pc := 55) X (j := 4) dX8_addRow_55 rfl rfl ?_
    refine ww_iload (pc := 56) X (j := 5) dX8_addRow_56 rfl ?_
    obtain ⟨σ12, h11, hF⟩ := bd_some hF
    refine ww_callVv (pc := 58) X (As := [.int x5, .int p3, .int p4]) (rest := []) dX8_addRow_58 (kX8_setMeasured_24 (mL M) G hZ X.2.2.2.2.2.2.1 X.2.2.2.2.2.2.2.1 σ10 x5 p3 p4 σ12 h11) rfl shzC_24 clzC_8 gX8_addRow_X8_setMeasured hyX8_setMeasured ⟨rfl, rfl⟩ ⟨Nat.le_of_ble_eq_true rfl, Nat.le_of_ble_eq_true rfl⟩ rfl rfl (Nat.le_of_ble_eq_true rfl) ?_
    exact ww_vret (pc := 61) X dX8_addRow_61 (by cases hF; rfl)
  · exact ww_vret (pc := 8) X dX8_addRow_8 (by cases hF; rfl)
set_option maxRecDepth 100000 in
set_option maxHeartbeats 4000000 in
theorem kX8_addRow_24 (l : Launch) (G : gG) {ex : gEx} (hZ : ∀ s : State, G.2.2.2 s → kC ex (gA G zC.1) s) (hG : gOK G zC.1) (hT : G.2.2.1.map (fun q => q.2) = zC.2.1) (σ : gS) (p1 : Int32) (p2 : Int32) (p3 : Int32) (p4 : Int32) (p5 : Int32) (out : gS) (hF : fX8_addRow_24 σ p1 p2 p3 p4 p5 = some out) : gCv l yX8_addRow wsX8_addRow rmX8_addRow G zC [.ref (G.2.1 24), .int p1, .int p2, .int p3, .int p4, .int p5] σ out :=
  gEnter (by decide) rfl ⟨rfl, rfl⟩ hG hT (Nat.le_of_ble_eq_true rfl) rfl (fun M X hl => wX8_addRow_24 X hZ σ p1 p2 p3 p4 p5 hF)
noncomputable def fX3_readRow (σ : gS) : Option (Int32 × gS) :=
  bd2 (fX3_readName σ 1) fun r2 σ3 => (if r2 = 0 then some (0, σ3) else nm (σ3.1 46 10 : Int32) fun x5 => bd2 (fX3_readName σ3 2) fun r7 σ8 => (if r7 = 0 then some (0, σ8) else bd (fX8_findRow_24 σ8 x5 (σ8.1 46 10)) fun r11 => (if r11 = ((-1)) then bd2 (fX3_readAt σ8) fun r14 σ15 => (if r14 = 0 then some (0, σ15) else bd2 (fX3_readWord_K10 σ15) fun r18 σ19 => (if r18 = 0 then some (0, σ19) else bd2 (fX3_readNumber σ19 1 9) fun r22 σ23 => (if r22 = 0 then some (0, σ23) else bd (fX8_addRow_24 σ23 x5 (σ23.1 46 10) (σ23.1 46 12) (σ23.1 46 13) (σ23.1 46 11)) fun σ26 => some (1, σ26)))) else bd2 (fX3_fail σ8 3 (σ8.1 46 6)) fun r28 σ29 => some (vp_nar .boolean r28, σ29))))
noncomputable abbrev rmX3_readRow : Room := { frames := 7, cells := 0, slots := 0, locals := 149 }
set_option maxRecDepth 100000 in
set_option maxHeartbeats 4000000 in
theorem wX3_readRow {M : gM} {G : gG} {out : Int32 × gS} (X : gX M G zC cX3_readRow RX3 2 wsX3_readRow rmX3_readRow (some .boolean)) {ex : gEx} (hZ : ∀ s : State, G.2.2.2 s → kC ex (gA G zC.1) s) (σ : gS) (hF : fX3_readRow σ = some out) : WW M (gQi M G zC out.1 out.2) G zC 2 σ 0 [(0, .ref (G.2.1 46))] [] := by
  unfold fX3_readRow at hF
  refine ww_aload_n (pc := 0) X (j := 0) dX3_readRow_0 rfl rfl ?_
  refine ww_iconst (pc := 1) X (v := 1) dX3_readRow_1 (by decide) ?_
  obtain ⟨r2, σ3, h1, hF⟩ := bd2_some hF
  refine ww_callVi (pc := 2) X (As := [.int 1]) (rest := []) dX3_readRow_2 (kX3_readName (mL M) G hZ X.2.2.2.2.2.2.1 X.2.2.2.2.2.2.2.1 σ 1 (r2, σ3) h1) rfl shzC_46 clzC_3 gX3_readRow_X3_readName hyX3_readName ⟨rfl, rfl⟩ ⟨Nat.le_of_ble_eq_true rfl, Nat.le_of_ble_eq_true rfl⟩ rfl rfl (Nat.le_of_ble_eq_true rfl) ?_
  refine ww_if_ne (pc := 5) (tgt := 10) X dX3_readRow_5 (by decide) hF (fun h4 hF => ?_) (fun h4 hF => ?_)
  · refine ww_aload_n (pc := 10) X (j := 0) dX3_readRow_10 rfl rfl ?_
    refine ww_get (pc := 11) X (ref := "PictureBlock$Reader") (T := TX3) (j := 10) dX3_readRow_11 inX3_readRow_RX3 shzC_46 clzC_3 (by decide) rfl (List.mem_of_getElem? (i := 1) rfl) rfl ?_
    refine ww_istore_n (pc := 14) X (lv' := [(0, .ref (G.2.1 46))]) dX3_readRow_14 rfl (by decide) rfl hF (fun x5 ex5 hF => ?_)
    refine ww_aload_n (pc := 15) X (j := 1) dX3_readRow_15 rfl rfl ?_
    refine ww_iconst (pc := 16) X (v := 2) dX3_readRow_16 (by decide) ?_
    obtain ⟨r7, σ8, h6, hF⟩ := bd2_some hF
    refine ww_callVi (pc := 17) X (As := [.int 2]) (rest := []) dX3_readRow_17 (kX3_readName (mL M) G hZ X.2.2.2.2.2.2.1 X.2.2.2.2.2.2.2.1 σ3 2 (r7, σ8) h6) rfl shzC_46 clzC_3 gX3_readRow_X3_readName hyX3_readName ⟨rfl, rfl⟩ ⟨Nat.le_of_ble_eq_true rfl, Nat.le_of_ble_eq_true rfl⟩ rfl rfl (Nat.le_of_ble_eq_true rfl) ?_
    refine ww_if_ne (pc := 20) (tgt := 25) X dX3_readRow_20 (by decide) hF (fun h9 hF => ?_) (fun h9 hF => ?_)
    · refine ww_aload_n (pc := 25) X (j := 1) dX3_readRow_25 rfl rfl ?_
      refine ww_get (pc := 26) X (ref := "PictureBlock$Reader") (T := TX3) (j := 1) dX3_readRow_26 inX3_readRow_RX3 shzC_46 clzC_3 (by decide) rfl (List.mem_of_getElem? (i := 2) rfl) rfl ?_
      refine ww_iload_n (pc := 29) X (j := 0) dX3_readRow_29 rfl rfl ?_
      refine ww_aload_n (pc := 30) X (j := 1) dX3_readRow_30 rfl rfl ?_
      refine ww_get (pc := 31) X (ref := "PictureBlock$Reader") (T := TX3) (j := 10) dX3_readRow_31 inX3_readRow_RX3 shzC_46 clzC_3 (by decide) rfl (List.mem_of_getElem? (i := 1) rfl) rfl ?_
      obtain ⟨r11, h10, hF⟩ := bd_some hF
      refine ww_callVi (pc := 34) X (As := [.int x5, .int (σ8.1 46 10)]) (rest := []) dX3_readRow_34 (kX8_findRow_24 (mL M) G hZ X.2.2.2.2.2.2.1 X.2.2.2.2.2.2.2.1 σ8 x5 (σ8.1 46 10) r11 h10) rfl shzC_24 clzC_8 gX3_readRow_X8_findRow hyX8_findRow ⟨rfl, rfl⟩ ⟨Nat.le_of_ble_eq_true rfl, Nat.le_of_ble_eq_true rfl⟩ rfl rfl (Nat.le_of_ble_eq_true rfl) ?_
      refine ww_iconst (pc := 37) X (v := (-1)) dX3_readRow_37 (by decide) ?_
      refine ww_icmp_eq (pc := 38) (tgt := 51) X dX3_readRow_38 (by decide) hF (fun h12 hF => ?_) (fun h12 hF => ?_)
      · refine ww_aload_n (pc := 51) X (j := 1) dX3_readRow_51 rfl rfl ?_
        obtain ⟨r14, σ15, h13, hF⟩ := bd2_some hF
        refine ww_callVi (pc := 52) X (As := []) (rest := []) dX3_readRow_52 (kX3_readAt (mL M) G hZ X.2.2.2.2.2.2.1 X.2.2.2.2.2.2.2.1 σ8 (r14, σ15) h13) rfl shzC_46 clzC_3 gX3_readRow_X3_readAt hyX3_readAt ⟨rfl, rfl⟩ ⟨Nat.le_of_ble_eq_true rfl, Nat.le_of_ble_eq_true rfl⟩ rfl rfl (Nat.le_of_ble_eq_true rfl) ?_
        refine ww_if_eq (pc := 55) (tgt := 77) X dX3_readRow_55 (by decide) hF (fun h16 hF => ?_) (fun h16 hF => ?_)
        · refine ww_iconst (pc := 77) X (v := 0) dX3_readRow_77 (by decide) ?_
          exact ww_zret (pc := 78) X dX3_readRow_78 (by cases hF; rfl) (by cases hF; rfl)
        · refine ww_aload_n (pc := 58) X (j := 1) dX3_readRow_58 rfl rfl ?_
          refine ww_ldcS (pc := 59) X (tx := "weight") (q := ex.1 10) dX3_readRow_59 (eC_ref10 (hZ _ (gXk X))) ?_
          obtain ⟨r18, σ19, h17, hF⟩ := bd2_some hF
          refine ww_callVi (pc := 61) X (As := [.ref (ex.1 10)]) (rest := []) dX3_readRow_61 (kX3_readWord_K10 (mL M) G hZ X.2.2.2.2.2.2.1 X.2.2.2.2.2.2.2.1 σ15 (r18, σ19) h17) rfl shzC_46 clzC_3 gX3_readRow_X3_readWord hyX3_readWord ⟨rfl, rfl⟩ ⟨Nat.le_of_ble_eq_true rfl, Nat.le_of_ble_eq_true rfl⟩ rfl rfl (Nat.le_of_ble_eq_true rfl) ?_
          refine ww_if_eq (pc := 64) (tgt := 77) X dX3_readRow_64 (by decide) hF (fun h20 hF => ?_) (fun h20 hF => ?_)
          · refine ww_iconst (pc := 77) X (v := 0) dX3_readRow_77 (by decide) ?_
            exact ww_zret (pc := 78) X dX3_readRow_78 (by cases hF; rfl) (by cases hF; rfl)
          · refine ww_aload_n (pc := 67) X (j := 1) dX3_readRow_67 rfl rfl ?_
            refine ww_iconst (pc := 68) X (v := 1) dX3_readRow_68 (by decide) ?_
            refine ww_bipush (pc := 69) X (v := 9) dX3_readRow_69 (by decide) ?_
            obtain ⟨r22, σ23, h21, hF⟩ := bd2_some hF
            refine ww_callVi (pc := 71) X (As := [.int 1, .int 9]) (rest := []) dX3_readRow_71 (kX3_readNumber (mL M) G hZ X.2.2.2.2.2.2.1 X.2.2.2.2.2.2.2.1 σ19 1 9 (r22, σ23) h21) rfl shzC_46 clzC_3 gX3_readRow_X3_readNumber hyX3_readNumber ⟨rfl, rfl⟩ ⟨Nat.le_of_ble_eq_true rfl, Nat.le_of_ble_eq_true rfl⟩ rfl rfl (Nat.le_of_ble_eq_true rfl) ?_
            refine ww_if_ne (pc := 74) (tgt := 79) X dX3_readRow_74 (by decide) hF (fun h24 hF => ?_) (fun h24 hF => ?_)
            · refine ww_aload_n (pc := 79) X (j := 1) dX3_readRow_79 rfl rfl ?_
              refine ww_get (pc := 80) X (ref := "PictureBlock$Reader") (T := TX3) (j := 1) dX3_readRow_80 inX3_readRow_RX3 shzC_46 clzC_3 (by decide) rfl (List.mem_of_getElem? (i := 2) rfl) rfl ?_
              refine ww_iload_n (pc := 83) X (j := 0) dX3_readRow_83 rfl rfl ?_
              refine ww_aload_n (pc := 84) X (j := 1) dX3_readRow_84 rfl rfl ?_
              refine ww_get (pc := 85) X (ref := "PictureBlock$Reader") (T := TX3) (j := 10) dX3_readRow_85 inX3_readRow_RX3 shzC_46 clzC_3 (by decide) rfl (List.mem_of_getElem? (i := 1) rfl) rfl ?_
              refine ww_aload_n (pc := 88) X (j := 1) dX3_readRow_88 rfl rfl ?_
              refine ww_get (pc := 89) X (ref := "PictureBlock$Reader") (T := TX3) (j := 12) dX3_readRow_89 inX3_readRow_RX3 shzC_46 clzC_3 (by decide) rfl (List.mem_of_getElem? (i := 4) rfl) rfl ?_
              refine ww_aload_n (pc := 92) X (j := 1) dX3_readRow_92 rfl rfl ?_
              refine ww_get (pc := 93) X (ref := "PictureBlock$Reader") (T := TX3) (j := 13) dX3_readRow_93 inX3_readRow_RX3 shzC_46 clzC_3 (by decide) rfl (List.mem_of_getElem? (i := 5) rfl) rfl ?_
              refine ww_aload_n (pc := 96) X (j := 1) dX3_readRow_96 rfl rfl ?_
              refine ww_get (pc := 97) X (ref := "PictureBlock$Reader") (T := TX3) (j := 11) dX3_readRow_97 inX3_readRow_RX3 shzC_46 clzC_3 (by decide) rfl (List.mem_of_getElem? (i := 6) rfl) rfl ?_
              obtain ⟨σ26, h25, hF⟩ := bd_some hF
              refine ww_callVv (pc := 100) X (As := [.int x5, .int (σ23.1 46 10), .int (σ23.1 46 12), .int (σ23.1 46 13), .int (σ23.1 46 11)]) (rest := []) dX3_readRow_100 (kX8_addRow_24 (mL M) G hZ X.2.2.2.2.2.2.1 X.2.2.2.2.2.2.2.1 σ23 x5 (σ23.1 46 10) (σ23.1 46 12) (σ23.1 46 13) (σ23.1 46 11) σ26 h25) rfl shzC_24 clzC_8 gX3_readRow_X8_addRow hyX8_addRow ⟨rfl, rfl⟩ ⟨Nat.le_of_ble_eq_true rfl, Nat.le_of_ble_eq_true rfl⟩ rfl rfl (Nat.le_of_ble_eq_true rfl) ?_
              refine ww_iconst (pc := 103) X (v := 1) dX3_readRow_103 (by decide) ?_
              exact ww_zret (pc := 104) X dX3_readRow_104 (by cases hF; rfl) (by cases hF; rfl)
            · refine ww_iconst (pc := 77) X (v := 0) dX3_readRow_77 (by decide) ?_
              exact ww_zret (pc := 78) X dX3_readRow_78 (by cases hF; rfl) (by cases hF; rfl)
      · refine ww_aload_n (pc := 41) X (j := 1) dX3_readRow_41 rfl rfl ?_
        refine ww_iconst (pc := 42) X (v := 3) dX3_readRow_42 (by decide) ?_
        refine ww_aload_n (pc := 43) X (j := 1) dX3_readRow_43 rfl rfl ?_
        refine ww_get (pc := 44) X (ref := "PictureBlock$Reader") (T := TX3) (j := 6) dX3_readRow_44 inX3_readRow_RX3 shzC_46 clzC_3 (by decide) rfl (List.mem_of_getElem? (i := 3) rfl) rfl ?_
        obtain ⟨r28, σ29, h27, hF⟩ := bd2_some hF
        refine ww_callVi (pc := 47) X (As := [.int 3, .int (σ8.1 46 6)]) (rest := []) dX3_readRow_47 (kX3_fail (mL M) G hZ X.2.2.2.2.2.2.1 X.2.2.2.2.2.2.2.1 σ8 3 (σ8.1 46 6) (r28, σ29) h27) rfl shzC_46 clzC_3 gX3_readRow_X3_fail hyX3_fail ⟨rfl, rfl⟩ ⟨Nat.le_of_ble_eq_true rfl, Nat.le_of_ble_eq_true rfl⟩ rfl rfl (Nat.le_of_ble_eq_true rfl) ?_
        exact ww_zret (pc := 50) X dX3_readRow_50 (by cases hF; rfl) (by cases hF; rfl)
    · refine ww_iconst (pc := 23) X (v := 0) dX3_readRow_23 (by decide) ?_
      exact ww_zret (pc := 24) X dX3_readRow_24 (by cases hF; rfl) (by cases hF; rfl)
  · refine ww_iconst (pc := 8) X (v := 0) dX3_readRow_8 (by decide) ?_
    exact ww_zret (pc := 9) X dX3_readRow_9 (by cases hF; rfl) (by cases hF; rfl)
set_option maxRecDepth 100000 in
set_option maxHeartbeats 4000000 in
theorem kX3_readRow (l : Launch) (G : gG) {ex : gEx} (hZ : ∀ s : State, G.2.2.2 s → kC ex (gA G zC.1) s) (hG : gOK G zC.1) (hT : G.2.2.1.map (fun q => q.2) = zC.2.1) (σ : gS) (out : Int32 × gS) (hF : fX3_readRow σ = some out) : gCi l yX3_readRow wsX3_readRow rmX3_readRow G zC [.ref (G.2.1 46)] σ out.1 out.2 :=
  gEnter (by decide) rfl ⟨rfl, rfl⟩ hG hT (Nat.le_of_ble_eq_true rfl) rfl (fun M X hl => wX3_readRow X hZ σ hF)
noncomputable def fX3_readWord_K11 (σ : gS) : Option (Int32 × gS) :=
  bd (fX3_markRun σ 97 122) fun σ2 => bd (fX3_isNoRun σ2) fun r4 => (if r4 = 0 then bd (fX3_isWord_K11 σ2) fun r10 => (if r10 = 0 then bd2 (fX3_fail σ2 1 (σ2.1 46 6)) fun r15 σ16 => some (vp_nar .boolean r15, σ16) else bd (fX3_passRun σ2) fun σ13 => some (1, σ13)) else bd2 (fX3_fail σ2 1 (σ2.1 46 6)) fun r7 σ8 => some (vp_nar .boolean r7, σ8))
set_option maxRecDepth 100000 in
set_option maxHeartbeats 4000000 in
theorem wX3_readWord_K11 {M : gM} {G : gG} {out : Int32 × gS} (X : gX M G zC cX3_readWord RX3 2 wsX3_readWord rmX3_readWord (some .boolean)) {ex : gEx} (hZ : ∀ s : State, G.2.2.2 s → kC ex (gA G zC.1) s) (σ : gS) (hF : fX3_readWord_K11 σ = some out) : WW M (gQi M G zC out.1 out.2) G zC 2 σ 0 [(0, .ref (G.2.1 46)), (1, .ref (ex.1 11))] [] := by
  unfold fX3_readWord_K11 at hF
  refine ww_aload_n (pc := 0) X (j := 0) dX3_readWord_0 rfl rfl ?_
  refine ww_bipush (pc := 1) X (v := 97) dX3_readWord_1 (by decide) ?_
  refine ww_bipush (pc := 3) X (v := 122) dX3_readWord_3 (by decide) ?_
  obtain ⟨σ2, h1, hF⟩ := bd_some hF
  refine ww_callVv (pc := 5) X (As := [.int 97, .int 122]) (rest := []) dX3_readWord_5 (kX3_markRun (mL M) G hZ X.2.2.2.2.2.2.1 X.2.2.2.2.2.2.2.1 σ 97 122 σ2 h1) rfl shzC_46 clzC_3 gX3_readWord_X3_markRun hyX3_markRun ⟨rfl, rfl⟩ ⟨Nat.le_of_ble_eq_true rfl, Nat.le_of_ble_eq_true rfl⟩ rfl rfl (Nat.le_of_ble_eq_true rfl) ?_
  refine ww_aload_n (pc := 8) X (j := 0) dX3_readWord_8 rfl rfl ?_
  obtain ⟨r4, h3, hF⟩ := bd_some hF
  refine ww_callVi (pc := 9) X (As := []) (rest := []) dX3_readWord_9 (kX3_isNoRun (mL M) G hZ X.2.2.2.2.2.2.1 X.2.2.2.2.2.2.2.1 σ2 r4 h3) rfl shzC_46 clzC_3 gX3_readWord_X3_isNoRun hyX3_isNoRun ⟨rfl, rfl⟩ ⟨Nat.le_of_ble_eq_true rfl, Nat.le_of_ble_eq_true rfl⟩ rfl rfl (Nat.le_of_ble_eq_true rfl) ?_
  refine ww_if_ne (pc := 12) (tgt := 23) X dX3_readWord_12 (by decide) hF (fun h5 hF => ?_) (fun h5 hF => ?_)
  · refine ww_aload_n (pc := 23) X (j := 0) dX3_readWord_23 rfl rfl ?_
    refine ww_iconst (pc := 24) X (v := 1) dX3_readWord_24 (by decide) ?_
    refine ww_aload_n (pc := 25) X (j := 0) dX3_readWord_25 rfl rfl ?_
    refine ww_get (pc := 26) X (ref := "PictureBlock$Reader") (T := TX3) (j := 6) dX3_readWord_26 inX3_readWord_RX3 shzC_46 clzC_3 (by decide) rfl (List.mem_of_getElem? (i := 1) rfl) rfl ?_
    obtain ⟨r7, σ8, h6, hF⟩ := bd2_some hF
    refine ww_callVi (pc := 29) X (As := [.int 1, .int (σ2.1 46 6)]) (rest := []) dX3_readWord_29 (kX3_fail (mL M) G hZ X.2.2.2.2.2.2.1 X.2.2.2.2.2.2.2.1 σ2 1 (σ2.1 46 6) (r7, σ8) h6) rfl shzC_46 clzC_3 gX3_readWord_X3_fail hyX3_fail ⟨rfl, rfl⟩ ⟨Nat.le_of_ble_eq_true rfl, Nat.le_of_ble_eq_true rfl⟩ rfl rfl (Nat.le_of_ble_eq_true rfl) ?_
    exact ww_zret (pc := 32) X dX3_readWord_32 (by cases hF; rfl) (by cases hF; rfl)
  · refine ww_aload_n (pc := 15) X (j := 0) dX3_readWord_15 rfl rfl ?_
    refine ww_aload_n (pc := 16) X (j := 1) dX3_readWord_16 rfl rfl ?_
    obtain ⟨r10, h9, hF⟩ := bd_some hF
    refine ww_callVi (pc := 17) X (As := [.ref (ex.1 11)]) (rest := []) dX3_readWord_17 (kX3_isWord_K11 (mL M) G hZ X.2.2.2.2.2.2.1 X.2.2.2.2.2.2.2.1 σ2 r10 h9) rfl shzC_46 clzC_3 gX3_readWord_X3_isWord hyX3_isWord ⟨rfl, rfl⟩ ⟨Nat.le_of_ble_eq_true rfl, Nat.le_of_ble_eq_true rfl⟩ rfl rfl (Nat.le_of_ble_eq_true rfl) ?_
    refine ww_if_ne (pc := 20) (tgt := 33) X dX3_readWord_20 (by decide) hF (fun h11 hF => ?_) (fun h11 hF => ?_)
    · refine ww_aload_n (pc := 33) X (j := 0) dX3_readWord_33 rfl rfl ?_
      obtain ⟨σ13, h12, hF⟩ := bd_some hF
      refine ww_callVv (pc := 34) X (As := []) (rest := []) dX3_readWord_34 (kX3_passRun (mL M) G hZ X.2.2.2.2.2.2.1 X.2.2.2.2.2.2.2.1 σ2 σ13 h12) rfl shzC_46 clzC_3 gX3_readWord_X3_passRun hyX3_passRun ⟨rfl, rfl⟩ ⟨Nat.le_of_ble_eq_true rfl, Nat.le_of_ble_eq_true rfl⟩ rfl rfl (Nat.le_of_ble_eq_true rfl) ?_
      refine ww_iconst (pc := 37) X (v := 1) dX3_readWord_37 (by decide) ?_
      exact ww_zret (pc := 38) X dX3_readWord_38 (by cases hF; rfl) (by cases hF; rfl)
    · refine ww_aload_n (pc := 23) X (j := 0) dX3_readWord_23 rfl rfl ?_
      refine ww_iconst (pc := 24) X (v := 1) dX3_readWord_24 (by decide) ?_
      refine ww_aload_n (pc := 25) X (j := 0) dX3_readWord_25 rfl rfl ?_
      refine ww_get (pc := 26) X (ref := "PictureBlock$Reader") (T := TX3) (j := 6) dX3_readWord_26 inX3_readWord_RX3 shzC_46 clzC_3 (by decide) rfl (List.mem_of_getElem? (i := 1) rfl) rfl ?_
      obtain ⟨r15, σ16, h14, hF⟩ := bd2_some hF
      refine ww_callVi (pc := 29) X (As := [.int 1, .int (σ2.1 46 6)]) (rest := []) dX3_readWord_29 (kX3_fail (mL M) G hZ X.2.2.2.2.2.2.1 X.2.2.2.2.2.2.2.1 σ2 1 (σ2.1 46 6) (r15, σ16) h14) rfl shzC_46 clzC_3 gX3_readWord_X3_fail hyX3_fail ⟨rfl, rfl⟩ ⟨Nat.le_of_ble_eq_true rfl, Nat.le_of_ble_eq_true rfl⟩ rfl rfl (Nat.le_of_ble_eq_true rfl) ?_
      exact ww_zret (pc := 32) X dX3_readWord_32 (by cases hF; rfl) (by cases hF; rfl)
set_option maxRecDepth 100000 in
set_option maxHeartbeats 4000000 in
theorem kX3_readWord_K11 (l : Launch) (G : gG) {ex : gEx} (hZ : ∀ s : State, G.2.2.2 s → kC ex (gA G zC.1) s) (hG : gOK G zC.1) (hT : G.2.2.1.map (fun q => q.2) = zC.2.1) (σ : gS) (out : Int32 × gS) (hF : fX3_readWord_K11 σ = some out) : gCi l yX3_readWord wsX3_readWord rmX3_readWord G zC [.ref (G.2.1 46), .ref (ex.1 11)] σ out.1 out.2 :=
  gEnter (by decide) rfl ⟨rfl, rfl⟩ hG hT (Nat.le_of_ble_eq_true rfl) rfl (fun M X hl => wX3_readWord_K11 X hZ σ hF)
noncomputable def fX8_addControl_24 (σ : gS) (p1 : Int32) (p2 : Int32) (p3 : Int32) (p4 : Int32) : Option (gS) :=
  gd (gb p1 20) <| nm (gsI σ 38 p1.toNatClampNeg p4) fun σ1 => gd (gb 0 2) <| gd (gb p1 20) <| nm (gsI σ1 40 p1.toNatClampNeg p2) fun σ3 => gd (gb 1 2) <| gd (gb p1 20) <| nm (gsI σ3 41 p1.toNatClampNeg p3) fun σ5 => gd (gb 4 6) <| nm (σ5.1 25 ((4 : Int32).toNatClampNeg)) fun v6 => gd (gb 4 6) <| nm (gsI σ5 25 ((4 : Int32).toNatClampNeg) (v6 + 1)) fun σ7 => some σ7
noncomputable abbrev rmX8_addControl : Room := { frames := 0, cells := 0, slots := 0, locals := 0 }
set_option maxRecDepth 100000 in
set_option maxHeartbeats 4000000 in
theorem wX8_addControl_24 {M : gM} {G : gG} {out : gS} (X : gX M G zC cX8_addControl RX8 5 wsX8_addControl rmX8_addControl none) {ex : gEx} (hZ : ∀ s : State, G.2.2.2 s → kC ex (gA G zC.1) s) (σ : gS) (p1 : Int32) (p2 : Int32) (p3 : Int32) (p4 : Int32) (hF : fX8_addControl_24 σ p1 p2 p3 p4 = some out) : WW M (gQv M G zC out) G zC 5 σ 0 [(0, .ref (G.2.1 24)), (1, .int p1), (2, .int p2), (3, .int p3), (4, .int p4)] [] := by
  unfold fX8_addControl_24 at hF
  refine ww_aload_n (pc := 0) X (j := 0) dX8_addControl_0 rfl rfl ?_
  refine ww_get (pc := 1) X (ref := "PictureBlock$Told") (T := TX8) (j := 8) dX8_addControl_1 inX8_addControl_RX8 shzC_24 clzC_8 (by decide) rfl (List.mem_of_getElem? (i := 1) rfl) rfl ?_
  refine ww_iload_n (pc := 4) X (j := 1) dX8_addControl_4 rfl rfl ?_
  refine ww_iload (pc := 5) X (j := 4) dX8_addControl_5 rfl ?_
  refine ww_iast (pc := 7) X dX8_addControl_7 shzC_38 rfl hF (fun σ1 eσ1 bσ1 hF => ?_)
  refine ww_aload_n (pc := 8) X (j := 0) dX8_addControl_8 rfl rfl ?_
  refine ww_get (pc := 9) X (ref := "PictureBlock$Told") (T := TX8) (j := 9) dX8_addControl_9 inX8_addControl_RX8 shzC_24 clzC_8 (by decide) rfl (List.mem_of_getElem? (i := 2) rfl) rfl ?_
  refine ww_iconst (pc := 12) X (v := 0) dX8_addControl_12 (by decide) ?_
  refine ww_aald (pc := 13) X dX8_addControl_13 shzC_39 rfl hF (fun h2 hF => ?_)
  show WW M _ G zC _ _ _ _ (.ref (G.2.1 40) :: _)
  refine ww_iload_n (pc := 14) X (j := 1) dX8_addControl_14 rfl rfl ?_
  refine ww_iload_n (pc := 15) X (j := 2) dX8_addControl_15 rfl rfl ?_
  refine ww_iast (pc := 16) X dX8_addControl_16 shzC_40 rfl hF (fun σ3 eσ3 bσ3 hF => ?_)
  refine ww_aload_n (pc := 17) X (j := 0) dX8_addControl_17 rfl rfl ?_
  refine ww_get (pc := 18) X (ref := "PictureBlock$Told") (T := TX8) (j := 9) dX8_addControl_18 inX8_addControl_RX8 shzC_24 clzC_8 (by decide) rfl (List.mem_of_getElem? (i := 2) rfl) rfl ?_
  refine ww_iconst (pc := 21) X (v := 1) dX8_addControl_21 (by decide) ?_
  refine ww_aald (pc := 22) X dX8_addControl_22 shzC_39 rfl hF (fun h4 hF => ?_)
  show WW M _ G zC _ _ _ _ (.ref (G.2.1 41) :: _)
  refine ww_iload_n (pc := 23) X (j := 1) dX8_addControl_23 rfl rfl ?_
  refine ww_iload_n (pc := 24) X (j := 3) dX8_addControl_24 rfl rfl ?_
  refine ww_iast (pc := 25) X dX8_addControl_25 shzC_41 rfl hF (fun σ5 eσ5 bσ5 hF => ?_)
  refine ww_aload_n (pc := 26) X (j := 0) dX8_addControl_26 rfl rfl ?_
  refine ww_get (pc := 27) X (ref := "PictureBlock$Told") (T := TX8) (j := 0) dX8_addControl_27 inX8_addControl_RX8 shzC_24 clzC_8 (by decide) rfl (List.mem_of_getElem? (i := 3) rfl) rfl ?_
  refine ww_iconst (pc := 30) X (v := 4) dX8_addControl_30 (by decide) ?_
  refine ww_dup2_11 (pc := 31) X dX8_addControl_31 rfl rfl ?_
  refine ww_iald (pc := 32) X dX8_addControl_32 shzC_25 rfl hF (fun v6 ev6 bv6 hF => ?_)
  refine ww_iconst (pc := 33) X (v := 1) dX8_addControl_33 (by decide) ?_
  refine ww_iadd (pc := 34) X dX8_addControl_34 ?_
  refine ww_iast (pc := 35) X dX8_addControl_35 shzC_25 rfl hF (fun σ7 eσ7 bσ7 hF => ?_)
  exact ww_vret (pc := 36) X dX8_addControl_36 (by cases hF; rfl)
set_option maxRecDepth 100000 in
set_option maxHeartbeats 4000000 in
theorem kX8_addControl_24 (l : Launch) (G : gG) {ex : gEx} (hZ : ∀ s : State, G.2.2.2 s → kC ex (gA G zC.1) s) (hG : gOK G zC.1) (hT : G.2.2.1.map (fun q => q.2) = zC.2.1) (σ : gS) (p1 : Int32) (p2 : Int32) (p3 : Int32) (p4 : Int32) (out : gS) (hF : fX8_addControl_24 σ p1 p2 p3 p4 = some out) : gCv l yX8_addControl wsX8_addControl rmX8_addControl G zC [.ref (G.2.1 24), .int p1, .int p2, .int p3, .int p4] σ out :=
  gEnter (by decide) rfl ⟨rfl, rfl⟩ hG hT (Nat.le_of_ble_eq_true rfl) rfl (fun M X hl => wX8_addControl_24 X hZ σ p1 p2 p3 p4 hF)
noncomputable def fX3_readControl (σ : gS) : Option (Int32 × gS) :=
  bd2 (fX3_readName σ 2) fun r2 σ3 => (if r2 = 0 then some (0, σ3) else gd (gb (σ3.1 46 10) 20) <| nm (σ3.1 38 (σ3.1 46 10).toNatClampNeg) fun v5 => (if v5 = 0 then bd2 (fX3_readAt σ3) fun r8 σ9 => (if r8 = 0 then some (0, σ9) else bd2 (fX3_readWord_K11 σ9) fun r12 σ13 => (if r12 = 0 then some (0, σ13) else bd2 (fX3_readNumber σ13 1 2) fun r16 σ17 => (if r16 = 0 then some (0, σ17) else bd (fX8_addControl_24 σ17 (σ17.1 46 10) (σ17.1 46 12) (σ17.1 46 13) (σ17.1 46 11)) fun σ20 => some (1, σ20)))) else bd2 (fX3_fail σ3 3 (σ3.1 46 6)) fun r22 σ23 => some (vp_nar .boolean r22, σ23)))
noncomputable abbrev rmX3_readControl : Room := { frames := 7, cells := 0, slots := 0, locals := 149 }
set_option maxRecDepth 100000 in
set_option maxHeartbeats 4000000 in
theorem wX3_readControl {M : gM} {G : gG} {out : Int32 × gS} (X : gX M G zC cX3_readControl RX3 1 wsX3_readControl rmX3_readControl (some .boolean)) {ex : gEx} (hZ : ∀ s : State, G.2.2.2 s → kC ex (gA G zC.1) s) (σ : gS) (hF : fX3_readControl σ = some out) : WW M (gQi M G zC out.1 out.2) G zC 1 σ 0 [(0, .ref (G.2.1 46))] [] := by
  unfold fX3_readControl at hF
  refine ww_aload_n (pc := 0) X (j := 0) dX3_readControl_0 rfl rfl ?_
  refine ww_iconst (pc := 1) X (v := 2) dX3_readControl_1 (by decide) ?_
  obtain ⟨r2, σ3, h1, hF⟩ := bd2_some hF
  refine ww_callVi (pc := 2) X (As := [.int 2]) (rest := []) dX3_readControl_2 (kX3_readName (mL M) G hZ X.2.2.2.2.2.2.1 X.2.2.2.2.2.2.2.1 σ 2 (r2, σ3) h1) rfl shzC_46 clzC_3 gX3_readControl_X3_readName hyX3_readName ⟨rfl, rfl⟩ ⟨Nat.le_of_ble_eq_true rfl, Nat.le_of_ble_eq_true rfl⟩ rfl rfl (Nat.le_of_ble_eq_true rfl) ?_
  refine ww_if_ne (pc := 5) (tgt := 10) X dX3_readControl_5 (by decide) hF (fun h4 hF => ?_) (fun h4 hF => ?_)
  · refine ww_aload_n (pc := 10) X (j := 0) dX3_readControl_10 rfl rfl ?_
    refine ww_get (pc := 11) X (ref := "PictureBlock$Reader") (T := TX3) (j := 1) dX3_readControl_11 inX3_readControl_RX3 shzC_46 clzC_3 (by decide) rfl (List.mem_of_getElem? (i := 1) rfl) rfl ?_
    refine ww_get (pc := 14) X (ref := "PictureBlock$Told") (T := TX8) (j := 8) dX3_readControl_14 inX3_readControl_RX8 shzC_24 clzC_8 (by decide) rfl (List.mem_of_getElem? (i := 2) rfl) rfl ?_
    refine ww_aload_n (pc := 17) X (j := 0) dX3_readControl_17 rfl rfl ?_
    refine ww_get (pc := 18) X (ref := "PictureBlock$Reader") (T := TX3) (j := 10) dX3_readControl_18 inX3_readControl_RX3 shzC_46 clzC_3 (by decide) rfl (List.mem_of_getElem? (i := 3) rfl) rfl ?_
    refine ww_iald (pc := 21) X dX3_readControl_21 shzC_38 rfl hF (fun v5 ev5 bv5 hF => ?_)
    refine ww_if_eq (pc := 22) (tgt := 35) X dX3_readControl_22 (by decide) hF (fun h6 hF => ?_) (fun h6 hF => ?_)
    · refine ww_aload_n (pc := 35) X (j := 0) dX3_readControl_35 rfl rfl ?_
      obtain ⟨r8, σ9, h7, hF⟩ := bd2_some hF
      refine ww_callVi (pc := 36) X (As := []) (rest := []) dX3_readControl_36 (kX3_readAt (mL M) G hZ X.2.2.2.2.2.2.1 X.2.2.2.2.2.2.2.1 σ3 (r8, σ9) h7) rfl shzC_46 clzC_3 gX3_readControl_X3_readAt hyX3_readAt ⟨rfl, rfl⟩ ⟨Nat.le_of_ble_eq_true rfl, Nat.le_of_ble_eq_true rfl⟩ rfl rfl (Nat.le_of_ble_eq_true rfl) ?_
      refine ww_if_eq (pc := 39) (tgt := 60) X dX3_readControl_39 (by decide) hF (fun h10 hF => ?_) (fun h10 hF => ?_)
      · refine ww_iconst (pc := 60) X (v := 0) dX3_readControl_60 (by decide) ?_
        exact ww_zret (pc := 61) X dX3_readControl_61 (by cases hF; rfl) (by cases hF; rfl)
      · refine ww_aload_n (pc := 42) X (j := 0) dX3_readControl_42 rfl rfl ?_
        refine ww_ldcS (pc := 43) X (tx := "set") (q := ex.1 11) dX3_readControl_43 (eC_ref11 (hZ _ (gXk X))) ?_
        obtain ⟨r12, σ13, h11, hF⟩ := bd2_some hF
        refine ww_callVi (pc := 45) X (As := [.ref (ex.1 11)]) (rest := []) dX3_readControl_45 (kX3_readWord_K11 (mL M) G hZ X.2.2.2.2.2.2.1 X.2.2.2.2.2.2.2.1 σ9 (r12, σ13) h11) rfl shzC_46 clzC_3 gX3_readControl_X3_readWord hyX3_readWord ⟨rfl, rfl⟩ ⟨Nat.le_of_ble_eq_true rfl, Nat.le_of_ble_eq_true rfl⟩ rfl rfl (Nat.le_of_ble_eq_true rfl) ?_
        refine ww_if_eq (pc := 48) (tgt := 60) X dX3_readControl_48 (by decide) hF (fun h14 hF => ?_) (fun h14 hF => ?_)
        · refine ww_iconst (pc := 60) X (v := 0) dX3_readControl_60 (by decide) ?_
          exact ww_zret (pc := 61) X dX3_readControl_61 (by cases hF; rfl) (by cases hF; rfl)
        · refine ww_aload_n (pc := 51) X (j := 0) dX3_readControl_51 rfl rfl ?_
          refine ww_iconst (pc := 52) X (v := 1) dX3_readControl_52 (by decide) ?_
          refine ww_iconst (pc := 53) X (v := 2) dX3_readControl_53 (by decide) ?_
          obtain ⟨r16, σ17, h15, hF⟩ := bd2_some hF
          refine ww_callVi (pc := 54) X (As := [.int 1, .int 2]) (rest := []) dX3_readControl_54 (kX3_readNumber (mL M) G hZ X.2.2.2.2.2.2.1 X.2.2.2.2.2.2.2.1 σ13 1 2 (r16, σ17) h15) rfl shzC_46 clzC_3 gX3_readControl_X3_readNumber hyX3_readNumber ⟨rfl, rfl⟩ ⟨Nat.le_of_ble_eq_true rfl, Nat.le_of_ble_eq_true rfl⟩ rfl rfl (Nat.le_of_ble_eq_true rfl) ?_
          refine ww_if_ne (pc := 57) (tgt := 62) X dX3_readControl_57 (by decide) hF (fun h18 hF => ?_) (fun h18 hF => ?_)
          · refine ww_aload_n (pc := 62) X (j := 0) dX3_readControl_62 rfl rfl ?_
            refine ww_get (pc := 63) X (ref := "PictureBlock$Reader") (T := TX3) (j := 1) dX3_readControl_63 inX3_readControl_RX3 shzC_46 clzC_3 (by decide) rfl (List.mem_of_getElem? (i := 1) rfl) rfl ?_
            refine ww_aload_n (pc := 66) X (j := 0) dX3_readControl_66 rfl rfl ?_
            refine ww_get (pc := 67) X (ref := "PictureBlock$Reader") (T := TX3) (j := 10) dX3_readControl_67 inX3_readControl_RX3 shzC_46 clzC_3 (by decide) rfl (List.mem_of_getElem? (i := 3) rfl) rfl ?_
            refine ww_aload_n (pc := 70) X (j := 0) dX3_readControl_70 rfl rfl ?_
            refine ww_get (pc := 71) X (ref := "PictureBlock$Reader") (T := TX3) (j := 12) dX3_readControl_71 inX3_readControl_RX3 shzC_46 clzC_3 (by decide) rfl (List.mem_of_getElem? (i := 5) rfl) rfl ?_
            refine ww_aload_n (pc := 74) X (j := 0) dX3_readControl_74 rfl rfl ?_
            refine ww_get (pc := 75) X (ref := "PictureBlock$Reader") (T := TX3) (j := 13) dX3_readControl_75 inX3_readControl_RX3 shzC_46 clzC_3 (by decide) rfl (List.mem_of_getElem? (i := 6) rfl) rfl ?_
            refine ww_aload_n (pc := 78) X (j := 0) dX3_readControl_78 rfl rfl ?_
            refine ww_get (pc := 79) X (ref := "PictureBlock$Reader") (T := TX3) (j := 11) dX3_readControl_79 inX3_readControl_RX3 shzC_46 clzC_3 (by decide) rfl (List.mem_of_getElem? (i := 7) rfl) rfl ?_
            obtain ⟨σ20, h19, hF⟩ := bd_some hF
            refine ww_callVv (pc := 82) X (As := [.int (σ17.1 46 10), .int (σ17.1 46 12), .int (σ17.1 46 13), .int (σ17.1 46 11)]) (rest := []) dX3_readControl_82 (kX8_addControl_24 (mL M) G hZ X.2.2.2.2.2.2.1 X.2.2.2.2.2.2.2.1 σ17 (σ17.1 46 10) (σ17.1 46 12) (σ17.1 46 13) (σ17.1 46 11) σ20 h19) rfl shzC_24 clzC_8 gX3_readControl_X8_addControl hyX8_addControl ⟨rfl, rfl⟩ ⟨Nat.le_of_ble_eq_true rfl, Nat.le_of_ble_eq_true rfl⟩ rfl rfl (Nat.le_of_ble_eq_true rfl) ?_
            refine ww_iconst (pc := 85) X (v := 1) dX3_readControl_85 (by decide) ?_
            exact ww_zret (pc := 86) X dX3_readControl_86 (by cases hF; rfl) (by cases hF; rfl)
          · refine ww_iconst (pc := 60) X (v := 0) dX3_readControl_60 (by decide) ?_
            exact ww_zret (pc := 61) X dX3_readControl_61 (by cases hF; rfl) (by cases hF; rfl)
    · refine ww_aload_n (pc := 25) X (j := 0) dX3_readControl_25 rfl rfl ?_
      refine ww_iconst (pc := 26) X (v := 3) dX3_readControl_26 (by decide) ?_
      refine ww_aload_n (pc := 27) X (j := 0) dX3_readControl_27 rfl rfl ?_
      refine ww_get (pc := 28) X (ref := "PictureBlock$Reader") (T := TX3) (j := 6) dX3_readControl_28 inX3_readControl_RX3 shzC_46 clzC_3 (by decide) rfl (List.mem_of_getElem? (i := 4) rfl) rfl ?_
      obtain ⟨r22, σ23, h21, hF⟩ := bd2_some hF
      refine ww_callVi (pc := 31) X (As := [.int 3, .int (σ3.1 46 6)]) (rest := []) dX3_readControl_31 (kX3_fail (mL M) G hZ X.2.2.2.2.2.2.1 X.2.2.2.2.2.2.2.1 σ3 3 (σ3.1 46 6) (r22, σ23) h21) rfl shzC_46 clzC_3 gX3_readControl_X3_fail hyX3_fail ⟨rfl, rfl⟩ ⟨Nat.le_of_ble_eq_true rfl, Nat.le_of_ble_eq_true rfl⟩ rfl rfl (Nat.le_of_ble_eq_true rfl) ?_
      exact ww_zret (pc := 34) X dX3_readControl_34 (by cases hF; rfl) (by cases hF; rfl)
  · refine ww_iconst (pc := 8) X (v := 0) dX3_readControl_8 (by decide) ?_
    exact ww_zret (pc := 9) X dX3_readControl_9 (by cases hF; rfl) (by cases hF; rfl)
set_option maxRecDepth 100000 in
set_option maxHeartbeats 4000000 in
theorem kX3_readControl (l : Launch) (G : gG) {ex : gEx} (hZ : ∀ s : State, G.2.2.2 s → kC ex (gA G zC.1) s) (hG : gOK G zC.1) (hT : G.2.2.1.map (fun q => q.2) = zC.2.1) (σ : gS) (out : Int32 × gS) (hF : fX3_readControl σ = some out) : gCi l yX3_readControl wsX3_readControl rmX3_readControl G zC [.ref (G.2.1 46)] σ out.1 out.2 :=
  gEnter (by decide) rfl ⟨rfl, rfl⟩ hG hT (Nat.le_of_ble_eq_true rfl) rfl (fun M X hl => wX3_readControl X hZ σ hF)
noncomputable def fX8_addCentre_24 (σ : gS) (p1 : Int32) (p2 : Int32) (p3 : Int32) (p4 : Int32) : Option (gS) :=
  gd (gb p1 12) <| nm (gsI σ 42 p1.toNatClampNeg p4) fun σ1 => gd (gb 0 2) <| gd (gb p1 12) <| nm (gsI σ1 44 p1.toNatClampNeg p2) fun σ3 => gd (gb 1 2) <| gd (gb p1 12) <| nm (gsI σ3 45 p1.toNatClampNeg p3) fun σ5 => gd (gb 5 6) <| nm (σ5.1 25 ((5 : Int32).toNatClampNeg)) fun v6 => gd (gb 5 6) <| nm (gsI σ5 25 ((5 : Int32).toNatClampNeg) (v6 + 1)) fun σ7 => some σ7
noncomputable abbrev rmX8_addCentre : Room := { frames := 0, cells := 0, slots := 0, locals := 0 }
set_option maxRecDepth 100000 in
set_option maxHeartbeats 4000000 in
theorem wX8_addCentre_24 {M : gM} {G : gG} {out : gS} (X : gX M G zC cX8_addCentre RX8 5 wsX8_addCentre rmX8_addCentre none) {ex : gEx} (hZ : ∀ s : State, G.2.2.2 s → kC ex (gA G zC.1) s) (σ : gS) (p1 : Int32) (p2 : Int32) (p3 : Int32) (p4 : Int32) (hF : fX8_addCentre_24 σ p1 p2 p3 p4 = some out) : WW M (gQv M G zC out) G zC 5 σ 0 [(0, .ref (G.2.1 24)), (1, .int p1), (2, .int p2), (3, .int p3), (4, .int p4)] [] := by
  unfold fX8_addCentre_24 at hF
  refine ww_aload_n (pc := 0) X (j := 0) dX8_addCentre_0 rfl rfl ?_
  refine ww_get (pc := 1) X (ref := "PictureBlock$Told") (T := TX8) (j := 10) dX8_addCentre_1 inX8_addCentre_RX8 shzC_24 clzC_8 (by decide) rfl (List.mem_of_getElem? (i := 1) rfl) rfl ?_
  refine ww_iload_n (pc := 4) X (j := 1) dX8_addCentre_4 rfl rfl ?_
  refine ww_iload (pc := 5) X (j := 4) dX8_addCentre_5 rfl ?_
  refine ww_iast (pc := 7) X dX8_addCentre_7 shzC_42 rfl hF (fun σ1 eσ1 bσ1 hF => ?_)
  refine ww_aload_n (pc := 8) X (j := 0) dX8_addCentre_8 rfl rfl ?_
  refine ww_get (pc := 9) X (ref := "PictureBlock$Told") (T := TX8) (j := 11) dX8_addCentre_9 inX8_addCentre_RX8 shzC_24 clzC_8 (by decide) rfl (List.mem_of_getElem? (i := 2) rfl) rfl ?_
  refine ww_iconst (pc := 12) X (v := 0) dX8_addCentre_12 (by decide) ?_
  refine ww_aald (pc := 13) X dX8_addCentre_13 shzC_43 rfl hF (fun h2 hF => ?_)
  show WW M _ G zC _ _ _ _ (.ref (G.2.1 44) :: _)
  refine ww_iload_n (pc := 14) X (j := 1) dX8_addCentre_14 rfl rfl ?_
  refine ww_iload_n (pc := 15) X (j := 2) dX8_addCentre_15 rfl rfl ?_
  refine ww_iast (pc := 16) X dX8_addCentre_16 shzC_44 rfl hF (fun σ3 eσ3 bσ3 hF => ?_)
  refine ww_aload_n (pc := 17) X (j := 0) dX8_addCentre_17 rfl rfl ?_
  refine ww_get (pc := 18) X (ref := "PictureBlock$Told") (T := TX8) (j := 11) dX8_addCentre_18 inX8_addCentre_RX8 shzC_24 clzC_8 (by decide) rfl (List.mem_of_getElem? (i := 2) rfl) rfl ?_
  refine ww_iconst (pc := 21) X (v := 1) dX8_addCentre_21 (by decide) ?_
  refine ww_aald (pc := 22) X dX8_addCentre_22 shzC_43 rfl hF (fun h4 hF => ?_)
  show WW M _ G zC _ _ _ _ (.ref (G.2.1 45) :: _)
  refine ww_iload_n (pc := 23) X (j := 1) dX8_addCentre_23 rfl rfl ?_
  refine ww_iload_n (pc := 24) X (j := 3) dX8_addCentre_24 rfl rfl ?_
  refine ww_iast (pc := 25) X dX8_addCentre_25 shzC_45 rfl hF (fun σ5 eσ5 bσ5 hF => ?_)
  refine ww_aload_n (pc := 26) X (j := 0) dX8_addCentre_26 rfl rfl ?_
  refine ww_get (pc := 27) X (ref := "PictureBlock$Told") (T := TX8) (j := 0) dX8_addCentre_27 inX8_addCentre_RX8 shzC_24 clzC_8 (by decide) rfl (List.mem_of_getElem? (i := 3) rfl) rfl ?_
  refine ww_iconst (pc := 30) X (v := 5) dX8_addCentre_30 (by decide) ?_
  refine ww_dup2_11 (pc := 31) X dX8_addCentre_31 rfl rfl ?_
  refine ww_iald (pc := 32) X dX8_addCentre_32 shzC_25 rfl hF (fun v6 ev6 bv6 hF => ?_)
  refine ww_iconst (pc := 33) X (v := 1) dX8_addCentre_33 (by decide) ?_
  refine ww_iadd (pc := 34) X dX8_addCentre_34 ?_
  refine ww_iast (pc := 35) X dX8_addCentre_35 shzC_25 rfl hF (fun σ7 eσ7 bσ7 hF => ?_)
  exact ww_vret (pc := 36) X dX8_addCentre_36 (by cases hF; rfl)
set_option maxRecDepth 100000 in
set_option maxHeartbeats 4000000 in
theorem kX8_addCentre_24 (l : Launch) (G : gG) {ex : gEx} (hZ : ∀ s : State, G.2.2.2 s → kC ex (gA G zC.1) s) (hG : gOK G zC.1) (hT : G.2.2.1.map (fun q => q.2) = zC.2.1) (σ : gS) (p1 : Int32) (p2 : Int32) (p3 : Int32) (p4 : Int32) (out : gS) (hF : fX8_addCentre_24 σ p1 p2 p3 p4 = some out) : gCv l yX8_addCentre wsX8_addCentre rmX8_addCentre G zC [.ref (G.2.1 24), .int p1, .int p2, .int p3, .int p4] σ out :=
  gEnter (by decide) rfl ⟨rfl, rfl⟩ hG hT (Nat.le_of_ble_eq_true rfl) rfl (fun M X hl => wX8_addCentre_24 X hZ σ p1 p2 p3 p4 hF)
noncomputable def fX3_readCentre (σ : gS) : Option (Int32 × gS) :=
  bd2 (fX3_readName σ 1) fun r2 σ3 => (if r2 = 0 then some (0, σ3) else gd (gb (σ3.1 46 10) 12) <| nm (σ3.1 42 (σ3.1 46 10).toNatClampNeg) fun v5 => (if v5 = 0 then bd2 (fX3_readAt σ3) fun r8 σ9 => (if r8 = 0 then some (0, σ9) else bd2 (fX3_readWord_K10 σ9) fun r12 σ13 => (if r12 = 0 then some (0, σ13) else bd2 (fX3_readNumber σ13 1 9) fun r16 σ17 => (if r16 = 0 then some (0, σ17) else bd (fX8_addCentre_24 σ17 (σ17.1 46 10) (σ17.1 46 12) (σ17.1 46 13) (σ17.1 46 11)) fun σ20 => some (1, σ20)))) else bd2 (fX3_fail σ3 3 (σ3.1 46 6)) fun r22 σ23 => some (vp_nar .boolean r22, σ23)))
noncomputable abbrev rmX3_readCentre : Room := { frames := 7, cells := 0, slots := 0, locals := 149 }
set_option maxRecDepth 100000 in
set_option maxHeartbeats 4000000 in
theorem wX3_readCentre {M : gM} {G : gG} {out : Int32 × gS} (X : gX M G zC cX3_readCentre RX3 1 wsX3_readCentre rmX3_readCentre (some .boolean)) {ex : gEx} (hZ : ∀ s : State, G.2.2.2 s → kC ex (gA G zC.1) s) (σ : gS) (hF : fX3_readCentre σ = some out) : WW M (gQi M G zC out.1 out.2) G zC 1 σ 0 [(0, .ref (G.2.1 46))] [] := by
  unfold fX3_readCentre at hF
  refine ww_aload_n (pc := 0) X (j := 0) dX3_readCentre_0 rfl rfl ?_
  refine ww_iconst (pc := 1) X (v := 1) dX3_readCentre_1 (by decide) ?_
  obtain ⟨r2, σ3, h1, hF⟩ := bd2_some hF
  refine ww_callVi (pc := 2) X (As := [.int 1]) (rest := []) dX3_readCentre_2 (kX3_readName (mL M) G hZ X.2.2.2.2.2.2.1 X.2.2.2.2.2.2.2.1 σ 1 (r2, σ3) h1) rfl shzC_46 clzC_3 gX3_readCentre_X3_readName hyX3_readName ⟨rfl, rfl⟩ ⟨Nat.le_of_ble_eq_true rfl, Nat.le_of_ble_eq_true rfl⟩ rfl rfl (Nat.le_of_ble_eq_true rfl) ?_
  refine ww_if_ne (pc := 5) (tgt := 10) X dX3_readCentre_5 (by decide) hF (fun h4 hF => ?_) (fun h4 hF => ?_)
  · refine ww_aload_n (pc := 10) X (j := 0) dX3_readCentre_10 rfl rfl ?_
    refine ww_get (pc := 11) X (ref := "PictureBlock$Reader") (T := TX3) (j := 1) dX3_readCentre_11 inX3_readCentre_RX3 shzC_46 clzC_3 (by decide) rfl (List.mem_of_getElem? (i := 1) rfl) rfl ?_
    refine ww_get (pc := 14) X (ref := "PictureBlock$Told") (T := TX8) (j := 10) dX3_readCentre_14 inX3_readCentre_RX8 shzC_24 clzC_8 (by decide) rfl (List.mem_of_getElem? (i := 2) rfl) rfl ?_
    refine ww_aload_n (pc := 17) X (j := 0) dX3_readCentre_17 rfl rfl ?_
    refine ww_get (pc := 18) X (ref := "PictureBlock$Reader") (T := TX3) (j := 10) dX3_readCentre_18 inX3_readCentre_RX3 shzC_46 clzC_3 (by decide) rfl (List.mem_of_getElem? (i := 3) rfl) rfl ?_
    refine ww_iald (pc := 21) X dX3_readCentre_21 shzC_42 rfl hF (fun v5 ev5 bv5 hF => ?_)
    refine ww_if_eq (pc := 22) (tgt := 35) X dX3_readCentre_22 (by decide) hF (fun h6 hF => ?_) (fun h6 hF => ?_)
    · refine ww_aload_n (pc := 35) X (j := 0) dX3_readCentre_35 rfl rfl ?_
      obtain ⟨r8, σ9, h7, hF⟩ := bd2_some hF
      refine ww_callVi (pc := 36) X (As := []) (rest := []) dX3_readCentre_36 (kX3_readAt (mL M) G hZ X.2.2.2.2.2.2.1 X.2.2.2.2.2.2.2.1 σ3 (r8, σ9) h7) rfl shzC_46 clzC_3 gX3_readCentre_X3_readAt hyX3_readAt ⟨rfl, rfl⟩ ⟨Nat.le_of_ble_eq_true rfl, Nat.le_of_ble_eq_true rfl⟩ rfl rfl (Nat.le_of_ble_eq_true rfl) ?_
      refine ww_if_eq (pc := 39) (tgt := 61) X dX3_readCentre_39 (by decide) hF (fun h10 hF => ?_) (fun h10 hF => ?_)
      · refine ww_iconst (pc := 61) X (v := 0) dX3_readCentre_61 (by decide) ?_
        exact ww_zret (pc := 62) X dX3_readCentre_62 (by cases hF; rfl) (by cases hF; rfl)
      · refine ww_aload_n (pc := 42) X (j := 0) dX3_readCentre_42 rfl rfl ?_
        refine ww_ldcS (pc := 43) X (tx := "weight") (q := ex.1 10) dX3_readCentre_43 (eC_ref10 (hZ _ (gXk X))) ?_
        obtain ⟨r12, σ13, h11, hF⟩ := bd2_some hF
        refine ww_callVi (pc := 45) X (As := [.ref (ex.1 10)]) (rest := []) dX3_readCentre_45 (kX3_readWord_K10 (mL M) G hZ X.2.2.2.2.2.2.1 X.2.2.2.2.2.2.2.1 σ9 (r12, σ13) h11) rfl shzC_46 clzC_3 gX3_readCentre_X3_readWord hyX3_readWord ⟨rfl, rfl⟩ ⟨Nat.le_of_ble_eq_true rfl, Nat.le_of_ble_eq_true rfl⟩ rfl rfl (Nat.le_of_ble_eq_true rfl) ?_
        refine ww_if_eq (pc := 48) (tgt := 61) X dX3_readCentre_48 (by decide) hF (fun h14 hF => ?_) (fun h14 hF => ?_)
        · refine ww_iconst (pc := 61) X (v := 0) dX3_readCentre_61 (by decide) ?_
          exact ww_zret (pc := 62) X dX3_readCentre_62 (by cases hF; rfl) (by cases hF; rfl)
        · refine ww_aload_n (pc := 51) X (j := 0) dX3_readCentre_51 rfl rfl ?_
          refine ww_iconst (pc := 52) X (v := 1) dX3_readCentre_52 (by decide) ?_
          refine ww_bipush (pc := 53) X (v := 9) dX3_readCentre_53 (by decide) ?_
          obtain ⟨r16, σ17, h15, hF⟩ := bd2_some hF
          refine ww_callVi (pc := 55) X (As := [.int 1, .int 9]) (rest := []) dX3_readCentre_55 (kX3_readNumber (mL M) G hZ X.2.2.2.2.2.2.1 X.2.2.2.2.2.2.2.1 σ13 1 9 (r16, σ17) h15) rfl shzC_46 clzC_3 gX3_readCentre_X3_readNumber hyX3_readNumber ⟨rfl, rfl⟩ ⟨Nat.le_of_ble_eq_true rfl, Nat.le_of_ble_eq_true rfl⟩ rfl rfl (Nat.le_of_ble_eq_true rfl) ?_
          refine ww_if_ne (pc := 58) (tgt := 63) X dX3_readCentre_58 (by decide) hF (fun h18 hF => ?_) (fun h18 hF => ?_)
          · refine ww_aload_n (pc := 63) X (j := 0) dX3_readCentre_63 rfl rfl ?_
            refine ww_get (pc := 64) X (ref := "PictureBlock$Reader") (T := TX3) (j := 1) dX3_readCentre_64 inX3_readCentre_RX3 shzC_46 clzC_3 (by decide) rfl (List.mem_of_getElem? (i := 1) rfl) rfl ?_
            refine ww_aload_n (pc := 67) X (j := 0) dX3_readCentre_67 rfl rfl ?_
            refine ww_get (pc := 68) X (ref := "PictureBlock$Reader") (T := TX3) (j := 10) dX3_readCentre_68 inX3_readCentre_RX3 shzC_46 clzC_3 (by decide) rfl (List.mem_of_getElem? (i := 3) rfl) rfl ?_
            refine ww_aload_n (pc := 71) X (j := 0) dX3_readCentre_71 rfl rfl ?_
            refine ww_get (pc := 72) X (ref := "PictureBlock$Reader") (T := TX3) (j := 12) dX3_readCentre_72 inX3_readCentre_RX3 shzC_46 clzC_3 (by decide) rfl (List.mem_of_getElem? (i := 5) rfl) rfl ?_
            refine ww_aload_n (pc := 75) X (j := 0) dX3_readCentre_75 rfl rfl ?_
            refine ww_get (pc := 76) X (ref := "PictureBlock$Reader") (T := TX3) (j := 13) dX3_readCentre_76 inX3_readCentre_RX3 shzC_46 clzC_3 (by decide) rfl (List.mem_of_getElem? (i := 6) rfl) rfl ?_
            refine ww_aload_n (pc := 79) X (j := 0) dX3_readCentre_79 rfl rfl ?_
            refine ww_get (pc := 80) X (ref := "PictureBlock$Reader") (T := TX3) (j := 11) dX3_readCentre_80 inX3_readCentre_RX3 shzC_46 clzC_3 (by decide) rfl (List.mem_of_getElem? (i := 7) rfl) rfl ?_
            obtain ⟨σ20, h19, hF⟩ := bd_some hF
            refine ww_callVv (pc := 83) X (As := [.int (σ17.1 46 10), .int (σ17.1 46 12), .int (σ17.1 46 13), .int (σ17.1 46 11)]) (rest := []) dX3_readCentre_83 (kX8_addCentre_24 (mL M) G hZ X.2.2.2.2.2.2.1 X.2.2.2.2.2.2.2.1 σ17 (σ17.1 46 10) (σ17.1 46 12) (σ17.1 46 13) (σ17.1 46 11) σ20 h19) rfl shzC_24 clzC_8 gX3_readCentre_X8_addCentre hyX8_addCentre ⟨rfl, rfl⟩ ⟨Nat.le_of_ble_eq_true rfl, Nat.le_of_ble_eq_true rfl⟩ rfl rfl (Nat.le_of_ble_eq_true rfl) ?_
            refine ww_iconst (pc := 86) X (v := 1) dX3_readCentre_86 (by decide) ?_
            exact ww_zret (pc := 87) X dX3_readCentre_87 (by cases hF; rfl) (by cases hF; rfl)
          · refine ww_iconst (pc := 61) X (v := 0) dX3_readCentre_61 (by decide) ?_
            exact ww_zret (pc := 62) X dX3_readCentre_62 (by cases hF; rfl) (by cases hF; rfl)
    · refine ww_aload_n (pc := 25) X (j := 0) dX3_readCentre_25 rfl rfl ?_
      refine ww_iconst (pc := 26) X (v := 3) dX3_readCentre_26 (by decide) ?_
      refine ww_aload_n (pc := 27) X (j := 0) dX3_readCentre_27 rfl rfl ?_
      refine ww_get (pc := 28) X (ref := "PictureBlock$Reader") (T := TX3) (j := 6) dX3_readCentre_28 inX3_readCentre_RX3 shzC_46 clzC_3 (by decide) rfl (List.mem_of_getElem? (i := 4) rfl) rfl ?_
      obtain ⟨r22, σ23, h21, hF⟩ := bd2_some hF
      refine ww_callVi (pc := 31) X (As := [.int 3, .int (σ3.1 46 6)]) (rest := []) dX3_readCentre_31 (kX3_fail (mL M) G hZ X.2.2.2.2.2.2.1 X.2.2.2.2.2.2.2.1 σ3 3 (σ3.1 46 6) (r22, σ23) h21) rfl shzC_46 clzC_3 gX3_readCentre_X3_fail hyX3_fail ⟨rfl, rfl⟩ ⟨Nat.le_of_ble_eq_true rfl, Nat.le_of_ble_eq_true rfl⟩ rfl rfl (Nat.le_of_ble_eq_true rfl) ?_
      exact ww_zret (pc := 34) X dX3_readCentre_34 (by cases hF; rfl) (by cases hF; rfl)
  · refine ww_iconst (pc := 8) X (v := 0) dX3_readCentre_8 (by decide) ?_
    exact ww_zret (pc := 9) X dX3_readCentre_9 (by cases hF; rfl) (by cases hF; rfl)
set_option maxRecDepth 100000 in
set_option maxHeartbeats 4000000 in
theorem kX3_readCentre (l : Launch) (G : gG) {ex : gEx} (hZ : ∀ s : State, G.2.2.2 s → kC ex (gA G zC.1) s) (hG : gOK G zC.1) (hT : G.2.2.1.map (fun q => q.2) = zC.2.1) (σ : gS) (out : Int32 × gS) (hF : fX3_readCentre σ = some out) : gCi l yX3_readCentre wsX3_readCentre rmX3_readCentre G zC [.ref (G.2.1 46)] σ out.1 out.2 :=
  gEnter (by decide) rfl ⟨rfl, rfl⟩ hG hT (Nat.le_of_ble_eq_true rfl) rfl (fun M X hl => wX3_readCentre X hZ σ hF)
noncomputable def jX3_readStatement_142 (σ : gS) (a3 : Int32) : Option (Int32 × gS) :=
  if a3 = 0 then some (0, σ) else bd2 (fX3_readSemicolon σ) fun r19 σ20 => (if r19 = 0 then some (0, σ20) else some (1, σ20))
noncomputable def fX3_readStatement (σ : gS) (p1 : Int32) : Option (Int32 × gS) :=
  bd (fX3_markRun σ 97 122) fun σ2 => (if p1 < 120 then bd (fX3_kindOfWord σ2) fun r5 => nm (r5 : Int32) fun x6 => (if x6 = ((-1)) then bd2 (fX3_fail σ2 1 (σ2.1 46 6)) fun r51 σ52 => some (vp_nar .boolean r51, σ52) else bd (fX8_isFull_24 σ2 x6) fun r9 => (if r9 = 0 then bd (fX3_passRun σ2) fun σ12 => (if x6 = 1 then bd2 (fX3_readPicture σ12) fun r14 σ15 => nm (r14 : Int32) fun x16 => jX3_readStatement_142 σ15 x16 else if x6 = 2 then bd2 (fX3_readNamed σ12 x6) fun r24 σ25 => nm (r24 : Int32) fun x26 => jX3_readStatement_142 σ25 x26 else if x6 = 3 then bd2 (fX3_readRow σ12) fun r29 σ30 => nm (r29 : Int32) fun x31 => jX3_readStatement_142 σ30 x31 else if x6 = 4 then bd2 (fX3_readControl σ12) fun r34 σ35 => nm (r34 : Int32) fun x36 => jX3_readStatement_142 σ35 x36 else if x6 = 5 then bd2 (fX3_readCentre σ12) fun r39 σ40 => nm (r39 : Int32) fun x41 => jX3_readStatement_142 σ40 x41 else bd2 (fX3_readNamed σ12 x6) fun r44 σ45 => nm (r44 : Int32) fun x46 => jX3_readStatement_142 σ45 x46) else bd2 (fX3_fail σ2 4 (σ2.1 46 6)) fun r48 σ49 => some (vp_nar .boolean r48, σ49))) else bd2 (fX3_fail σ2 4 (σ2.1 46 6)) fun r54 σ55 => some (vp_nar .boolean r54, σ55))
noncomputable abbrev rmX3_readStatement : Room := { frames := 8, cells := 0, slots := 0, locals := 170 }
set_option maxRecDepth 100000 in
set_option maxHeartbeats 4000000 in
theorem wjX3_readStatement_142 {M : gM} {G : gG} {out : Int32 × gS} (X : gX M G zC cX3_readStatement RX3 4 wsX3_readStatement rmX3_readStatement (some .boolean)) {ex : gEx} (hZ : ∀ s : State, G.2.2.2 s → kC ex (gA G zC.1) s) (σ : gS) (a3 : Int32) (hF : jX3_readStatement_142 σ a3 = some out) : WW M (gQi M G zC out.1 out.2) G zC 4 σ 142 [(0, .ref (G.2.1 46)), (3, .int a3)] [] := by
  unfold jX3_readStatement_142 at hF
  refine ww_iload_n (pc := 142) X (j := 1) dX3_readStatement_142 rfl rfl ?_
  refine ww_if_eq (pc := 143) (tgt := 157) X dX3_readStatement_143 (by decide) hF (fun h17 hF => ?_) (fun h17 hF => ?_)
  · refine ww_iconst (pc := 157) X (v := 0) dX3_readStatement_157 (by decide) ?_
    exact ww_zret (pc := 158) X dX3_readStatement_158 (by cases hF; rfl) (by cases hF; rfl)
  · refine ww_aload_n (pc := 146) X (j := 0) dX3_readStatement_146 rfl rfl ?_
    obtain ⟨r19, σ20, h18, hF⟩ := bd2_some hF
    refine ww_callVi (pc := 147) X (As := []) (rest := []) dX3_readStatement_147 (kX3_readSemicolon (mL M) G hZ X.2.2.2.2.2.2.1 X.2.2.2.2.2.2.2.1 σ (r19, σ20) h18) rfl shzC_46 clzC_3 gX3_readStatement_X3_readSemicolon hyX3_readSemicolon ⟨rfl, rfl⟩ ⟨Nat.le_of_ble_eq_true rfl, Nat.le_of_ble_eq_true rfl⟩ rfl rfl (Nat.le_of_ble_eq_true rfl) ?_
    refine ww_if_eq (pc := 150) (tgt := 157) X dX3_readStatement_150 (by decide) hF (fun h21 hF => ?_) (fun h21 hF => ?_)
    · refine ww_iconst (pc := 157) X (v := 0) dX3_readStatement_157 (by decide) ?_
      exact ww_zret (pc := 158) X dX3_readStatement_158 (by cases hF; rfl) (by cases hF; rfl)
    · refine ww_iconst (pc := 153) X (v := 1) dX3_readStatement_153 (by decide) ?_
      refine ww_goto (pc := 154) X (tgt := 158) dX3_readStatement_154 (by decide) ?_
      exact ww_zret (pc := 158) X dX3_readStatement_158 (by cases hF; rfl) (by cases hF; rfl)
set_option maxRecDepth 100000 in
set_option maxHeartbeats 4000000 in
theorem wX3_readStatement {M : gM} {G : gG} {out : Int32 × gS} (X : gX M G zC cX3_readStatement RX3 4 wsX3_readStatement rmX3_readStatement (some .boolean)) {ex : gEx} (hZ : ∀ s : State, G.2.2.2 s → kC ex (gA G zC.1) s) (σ : gS) (p1 : Int32) (hF : fX3_readStatement σ p1 = some out) : WW M (gQi M G zC out.1 out.2) G zC 4 σ 0 [(0, .ref (G.2.1 46)), (1, .int p1)] [] := by
  unfold fX3_readStatement at hF
  refine ww_aload_n (pc := 0) X (j := 0) dX3_readStatement_0 rfl rfl ?_
  refine ww_bipush (pc := 1) X (v := 97) dX3_readStatement_1 (by decide) ?_
  refine ww_bipush (pc := 3) X (v := 122) dX3_readStatement_3 (by decide) ?_
  obtain ⟨σ2, h1, hF⟩ := bd_some hF
  refine ww_callVv (pc := 5) X (As := [.int 97, .int 122]) (rest := []) dX3_readStatement_5 (kX3_markRun (mL M) G hZ X.2.2.2.2.2.2.1 X.2.2.2.2.2.2.2.1 σ 97 122 σ2 h1) rfl shzC_46 clzC_3 gX3_readStatement_X3_markRun hyX3_markRun ⟨rfl, rfl⟩ ⟨Nat.le_of_ble_eq_true rfl, Nat.le_of_ble_eq_true rfl⟩ rfl rfl (Nat.le_of_ble_eq_true rfl) ?_
  refine ww_iload_n (pc := 8) X (j := 1) dX3_readStatement_8 rfl rfl ?_
  refine ww_bipush (pc := 9) X (v := 120) dX3_readStatement_9 (by decide) ?_
  refine ww_icmp_lt (pc := 11) (tgt := 24) X dX3_readStatement_11 (by decide) hF (fun h3 hF => ?_) (fun h3 hF => ?_)
  · refine ww_aload_n (pc := 24) X (j := 0) dX3_readStatement_24 rfl rfl ?_
    obtain ⟨r5, h4, hF⟩ := bd_some hF
    refine ww_callVi (pc := 25) X (As := []) (rest := []) dX3_readStatement_25 (kX3_kindOfWord (mL M) G hZ X.2.2.2.2.2.2.1 X.2.2.2.2.2.2.2.1 σ2 r5 h4) rfl shzC_46 clzC_3 gX3_readStatement_X3_kindOfWord hyX3_kindOfWord ⟨rfl, rfl⟩ ⟨Nat.le_of_ble_eq_true rfl, Nat.le_of_ble_eq_true rfl⟩ rfl rfl (Nat.le_of_ble_eq_true rfl) ?_
    refine ww_istore_n (pc := 28) X (lv' := [(0, .ref (G.2.1 46)), (1, .int p1)]) dX3_readStatement_28 rfl (by decide) rfl hF (fun x6 ex6 hF => ?_)
    refine ww_iload_n (pc := 29) X (j := 0) dX3_readStatement_29 rfl rfl ?_
    refine ww_iconst (pc := 30) X (v := (-1)) dX3_readStatement_30 (by decide) ?_
    refine ww_icmp_ne (pc := 31) (tgt := 44) X dX3_readStatement_31 (by decide) hF (fun h7 hF => ?_) (fun h7 hF => ?_)
    · refine ww_aload_n (pc := 44) X (j := 1) dX3_readStatement_44 rfl rfl ?_
      refine ww_get (pc := 45) X (ref := "PictureBlock$Reader") (T := TX3) (j := 1) dX3_readStatement_45 inX3_readStatement_RX3 shzC_46 clzC_3 (by decide) rfl (List.mem_of_getElem? (i := 2) rfl) rfl ?_
      refine ww_iload_n (pc := 48) X (j := 0) dX3_readStatement_48 rfl rfl ?_
      obtain ⟨r9, h8, hF⟩ := bd_some hF
      refine ww_callVi (pc := 49) X (As := [.int x6]) (rest := []) dX3_readStatement_49 (kX8_isFull_24 (mL M) G hZ X.2.2.2.2.2.2.1 X.2.2.2.2.2.2.2.1 σ2 x6 r9 h8) rfl shzC_24 clzC_8 gX3_readStatement_X8_isFull hyX8_isFull ⟨rfl, rfl⟩ ⟨Nat.le_of_ble_eq_true rfl, Nat.le_of_ble_eq_true rfl⟩ rfl rfl (Nat.le_of_ble_eq_true rfl) ?_
      refine ww_if_eq (pc := 52) (tgt := 65) X dX3_readStatement_52 (by decide) hF (fun h10 hF => ?_) (fun h10 hF => ?_)
      · refine ww_aload_n (pc := 65) X (j := 1) dX3_readStatement_65 rfl rfl ?_
        obtain ⟨σ12, h11, hF⟩ := bd_some hF
        refine ww_callVv (pc := 66) X (As := []) (rest := []) dX3_readStatement_66 (kX3_passRun (mL M) G hZ X.2.2.2.2.2.2.1 X.2.2.2.2.2.2.2.1 σ2 σ12 h11) rfl shzC_46 clzC_3 gX3_readStatement_X3_passRun hyX3_passRun ⟨rfl, rfl⟩ ⟨Nat.le_of_ble_eq_true rfl, Nat.le_of_ble_eq_true rfl⟩ rfl rfl (Nat.le_of_ble_eq_true rfl) ?_
        refine ww_iload_n (pc := 69) X (j := 0) dX3_readStatement_69 rfl rfl ?_
        refine ww_case (v := 1) hF (fun h22 hF => ?_) (fun h22 hF => ?_)
        · refine ww_tin (pc := 70) X (off := 34) (tgt := 104) dX3_readStatement_70 (by decide) (by decide) (by decide) (by decide) ?_
          refine ww_aload_n (pc := 104) X (j := 1) dX3_readStatement_104 rfl rfl ?_
          obtain ⟨r14, σ15, h13, hF⟩ := bd2_some hF
          refine ww_callVi (pc := 105) X (As := []) (rest := []) dX3_readStatement_105 (kX3_readPicture (mL M) G hZ X.2.2.2.2.2.2.1 X.2.2.2.2.2.2.2.1 σ12 (r14, σ15) h13) rfl shzC_46 clzC_3 gX3_readStatement_X3_readPicture hyX3_readPicture ⟨rfl, rfl⟩ ⟨Nat.le_of_ble_eq_true rfl, Nat.le_of_ble_eq_true rfl⟩ rfl rfl (Nat.le_of_ble_eq_true rfl) ?_
          refine ww_istore_n (pc := 108) X (lv' := [(2, .int x6), (0, .ref (G.2.1 46)), (1, .int p1)]) dX3_readStatement_108 rfl (by decide) rfl hF (fun x16 ex16 hF => ?_)
          refine ww_goto (pc := 109) X (tgt := 142) dX3_readStatement_109 (by decide) ?_
          exact ww_sub [2, 0] rfl (wjX3_readStatement_142 X hZ σ15 x16 hF)
        refine ww_case (v := 2) hF (fun h27 hF => ?_) (fun h27 hF => ?_)
        · refine ww_tin (pc := 70) X (off := 66) (tgt := 136) dX3_readStatement_70 (by decide) (by decide) (by decide) (by decide) ?_
          refine ww_aload_n (pc := 136) X (j := 1) dX3_readStatement_136 rfl rfl ?_
          refine ww_iload_n (pc := 137) X (j := 0) dX3_readStatement_137 rfl rfl ?_
          obtain ⟨r24, σ25, h23, hF⟩ := bd2_some hF
          refine ww_callVi (pc := 138) X (As := [.int x6]) (rest := []) dX3_readStatement_138 (kX3_readNamed (mL M) G hZ X.2.2.2.2.2.2.1 X.2.2.2.2.2.2.2.1 σ12 x6 (r24, σ25) h23) rfl shzC_46 clzC_3 gX3_readStatement_X3_readNamed hyX3_readNamed ⟨rfl, rfl⟩ ⟨Nat.le_of_ble_eq_true rfl, Nat.le_of_ble_eq_true rfl⟩ rfl rfl (Nat.le_of_ble_eq_true rfl) ?_
          refine ww_istore_n (pc := 141) X (lv' := [(2, .int x6), (0, .ref (G.2.1 46)), (1, .int p1)]) dX3_readStatement_141 rfl (by decide) rfl hF (fun x26 ex26 hF => ?_)
          exact ww_sub [2, 0] rfl (wjX3_readStatement_142 X hZ σ25 x26 hF)
        refine ww_case (v := 3) hF (fun h32 hF => ?_) (fun h32 hF => ?_)
        · refine ww_tin (pc := 70) X (off := 42) (tgt := 112) dX3_readStatement_70 (by decide) (by decide) (by decide) (by decide) ?_
          refine ww_aload_n (pc := 112) X (j := 1) dX3_readStatement_112 rfl rfl ?_
          obtain ⟨r29, σ30, h28, hF⟩ := bd2_some hF
          refine ww_callVi (pc := 113) X (As := []) (rest := []) dX3_readStatement_113 (kX3_readRow (mL M) G hZ X.2.2.2.2.2.2.1 X.2.2.2.2.2.2.2.1 σ12 (r29, σ30) h28) rfl shzC_46 clzC_3 gX3_readStatement_X3_readRow hyX3_readRow ⟨rfl, rfl⟩ ⟨Nat.le_of_ble_eq_true rfl, Nat.le_of_ble_eq_true rfl⟩ rfl rfl (Nat.le_of_ble_eq_true rfl) ?_
          refine ww_istore_n (pc := 116) X (lv' := [(2, .int x6), (0, .ref (G.2.1 46)), (1, .int p1)]) dX3_readStatement_116 rfl (by decide) rfl hF (fun x31 ex31 hF => ?_)
          refine ww_goto (pc := 117) X (tgt := 142) dX3_readStatement_117 (by decide) ?_
          exact ww_sub [2, 0] rfl (wjX3_readStatement_142 X hZ σ30 x31 hF)
        refine ww_case (v := 4) hF (fun h37 hF => ?_) (fun h37 hF => ?_)
        · refine ww_tin (pc := 70) X (off := 50) (tgt := 120) dX3_readStatement_70 (by decide) (by decide) (by decide) (by decide) ?_
          refine ww_aload_n (pc := 120) X (j := 1) dX3_readStatement_120 rfl rfl ?_
          obtain ⟨r34, σ35, h33, hF⟩ := bd2_some hF
          refine ww_callVi (pc := 121) X (As := []) (rest := []) dX3_readStatement_121 (kX3_readControl (mL M) G hZ X.2.2.2.2.2.2.1 X.2.2.2.2.2.2.2.1 σ12 (r34, σ35) h33) rfl shzC_46 clzC_3 gX3_readStatement_X3_readControl hyX3_readControl ⟨rfl, rfl⟩ ⟨Nat.le_of_ble_eq_true rfl, Nat.le_of_ble_eq_true rfl⟩ rfl rfl (Nat.le_of_ble_eq_true rfl) ?_
          refine ww_istore_n (pc := 124) X (lv' := [(2, .int x6), (0, .ref (G.2.1 46)), (1, .int p1)]) dX3_readStatement_124 rfl (by decide) rfl hF (fun x36 ex36 hF => ?_)
          refine ww_goto (pc := 125) X (tgt := 142) dX3_readStatement_125 (by decide) ?_
          exact ww_sub [2, 0] rfl (wjX3_readStatement_142 X hZ σ35 x36 hF)
        refine ww_case (v := 5) hF (fun h42 hF => ?_) (fun h42 hF => ?_)
        · refine ww_tin (pc := 70) X (off := 58) (tgt := 128) dX3_readStatement_70 (by decide) (by decide) (by decide) (by decide) ?_
          refine ww_aload_n (pc := 128) X (j := 1) dX3_readStatement_128 rfl rfl ?_
          obtain ⟨r39, σ40, h38, hF⟩ := bd2_some hF
          refine ww_callVi (pc := 129) X (As := []) (rest := []) dX3_readStatement_129 (kX3_readCentre (mL M) G hZ X.2.2.2.2.2.2.1 X.2.2.2.2.2.2.2.1 σ12 (r39, σ40) h38) rfl shzC_46 clzC_3 gX3_readStatement_X3_readCentre hyX3_readCentre ⟨rfl, rfl⟩ ⟨Nat.le_of_ble_eq_true rfl, Nat.le_of_ble_eq_true rfl⟩ rfl rfl (Nat.le_of_ble_eq_true rfl) ?_
          refine ww_istore_n (pc := 132) X (lv' := [(2, .int x6), (0, .ref (G.2.1 46)), (1, .int p1)]) dX3_readStatement_132 rfl (by decide) rfl hF (fun x41 ex41 hF => ?_)
          refine ww_goto (pc := 133) X (tgt := 142) dX3_readStatement_133 (by decide) ?_
          exact ww_sub [2, 0] rfl (wjX3_readStatement_142 X hZ σ40 x41 hF)
        refine ww_tout (pc := 70) X (tgt := 136) dX3_readStatement_70 (sw_out 1 5 (fun i q1 q2 => by rcases (show i = 1 ∨ i = 2 ∨ i = 3 ∨ i = 4 ∨ i = 5 by omega) with rfl | rfl | rfl | rfl | rfl <;> first | exact lv_neT h22 (by decide) | exact lv_neT h27 (by decide) | exact lv_neT h32 (by decide) | exact lv_neT h37 (by decide) | exact lv_neT h42 (by decide))) (by decide) ?_
        refine ww_aload_n (pc := 136) X (j := 1) dX3_readStatement_136 rfl rfl ?_
        refine ww_iload_n (pc := 137) X (j := 0) dX3_readStatement_137 rfl rfl ?_
        obtain ⟨r44, σ45, h43, hF⟩ := bd2_some hF
        refine ww_callVi (pc := 138) X (As := [.int x6]) (rest := []) dX3_readStatement_138 (kX3_readNamed (mL M) G hZ X.2.2.2.2.2.2.1 X.2.2.2.2.2.2.2.1 σ12 x6 (r44, σ45) h43) rfl shzC_46 clzC_3 gX3_readStatement_X3_readNamed hyX3_readNamed ⟨rfl, rfl⟩ ⟨Nat.le_of_ble_eq_true rfl, Nat.le_of_ble_eq_true rfl⟩ rfl rfl (Nat.le_of_ble_eq_true rfl) ?_
        refine ww_istore_n (pc := 141) X (lv' := [(2, .int x6), (0, .ref (G.2.1 46)), (1, .int p1)]) dX3_readStatement_141 rfl (by decide) rfl hF (fun x46 ex46 hF => ?_)
        exact ww_sub [2, 0] rfl (wjX3_readStatement_142 X hZ σ45 x46 hF)
      · refine ww_aload_n (pc := 55) X (j := 1) dX3_readStatement_55 rfl rfl ?_
        refine ww_iconst (pc := 56) X (v := 4) dX3_readStatement_56 (by decide) ?_
        refine ww_aload_n (pc := 57) X (j := 1) dX3_readStatement_57 rfl rfl ?_
        refine ww_get (pc := 58) X (ref := "PictureBlock$Reader") (T := TX3) (j := 6) dX3_readStatement_58 inX3_readStatement_RX3 shzC_46 clzC_3 (by decide) rfl (List.mem_of_getElem? (i := 1) rfl) rfl ?_
        obtain ⟨r48, σ49, h47, hF⟩ := bd2_some hF
        refine ww_callVi (pc := 61) X (As := [.int 4, .int (σ2.1 46 6)]) (rest := []) dX3_readStatement_61 (kX3_fail (mL M) G hZ X.2.2.2.2.2.2.1 X.2.2.2.2.2.2.2.1 σ2 4 (σ2.1 46 6) (r48, σ49) h47) rfl shzC_46 clzC_3 gX3_readStatement_X3_fail hyX3_fail ⟨rfl, rfl⟩ ⟨Nat.le_of_ble_eq_true rfl, Nat.le_of_ble_eq_true rfl⟩ rfl rfl (Nat.le_of_ble_eq_true rfl) ?_
        exact ww_zret (pc := 64) X dX3_readStatement_64 (by cases hF; rfl) (by cases hF; rfl)
    · refine ww_aload_n (pc := 34) X (j := 1) dX3_readStatement_34 rfl rfl ?_
      refine ww_iconst (pc := 35) X (v := 1) dX3_readStatement_35 (by decide) ?_
      refine ww_aload_n (pc := 36) X (j := 1) dX3_readStatement_36 rfl rfl ?_
      refine ww_get (pc := 37) X (ref := "PictureBlock$Reader") (T := TX3) (j := 6) dX3_readStatement_37 inX3_readStatement_RX3 shzC_46 clzC_3 (by decide) rfl (List.mem_of_getElem? (i := 1) rfl) rfl ?_
      obtain ⟨r51, σ52, h50, hF⟩ := bd2_some hF
      refine ww_callVi (pc := 40) X (As := [.int 1, .int (σ2.1 46 6)]) (rest := []) dX3_readStatement_40 (kX3_fail (mL M) G hZ X.2.2.2.2.2.2.1 X.2.2.2.2.2.2.2.1 σ2 1 (σ2.1 46 6) (r51, σ52) h50) rfl shzC_46 clzC_3 gX3_readStatement_X3_fail hyX3_fail ⟨rfl, rfl⟩ ⟨Nat.le_of_ble_eq_true rfl, Nat.le_of_ble_eq_true rfl⟩ rfl rfl (Nat.le_of_ble_eq_true rfl) ?_
      exact ww_zret (pc := 43) X dX3_readStatement_43 (by cases hF; rfl) (by cases hF; rfl)
  · refine ww_aload_n (pc := 14) X (j := 0) dX3_readStatement_14 rfl rfl ?_
    refine ww_iconst (pc := 15) X (v := 4) dX3_readStatement_15 (by decide) ?_
    refine ww_aload_n (pc := 16) X (j := 0) dX3_readStatement_16 rfl rfl ?_
    refine ww_get (pc := 17) X (ref := "PictureBlock$Reader") (T := TX3) (j := 6) dX3_readStatement_17 inX3_readStatement_RX3 shzC_46 clzC_3 (by decide) rfl (List.mem_of_getElem? (i := 1) rfl) rfl ?_
    obtain ⟨r54, σ55, h53, hF⟩ := bd2_some hF
    refine ww_callVi (pc := 20) X (As := [.int 4, .int (σ2.1 46 6)]) (rest := []) dX3_readStatement_20 (kX3_fail (mL M) G hZ X.2.2.2.2.2.2.1 X.2.2.2.2.2.2.2.1 σ2 4 (σ2.1 46 6) (r54, σ55) h53) rfl shzC_46 clzC_3 gX3_readStatement_X3_fail hyX3_fail ⟨rfl, rfl⟩ ⟨Nat.le_of_ble_eq_true rfl, Nat.le_of_ble_eq_true rfl⟩ rfl rfl (Nat.le_of_ble_eq_true rfl) ?_
    exact ww_zret (pc := 23) X dX3_readStatement_23 (by cases hF; rfl) (by cases hF; rfl)
set_option maxRecDepth 100000 in
set_option maxHeartbeats 4000000 in
theorem kX3_readStatement (l : Launch) (G : gG) {ex : gEx} (hZ : ∀ s : State, G.2.2.2 s → kC ex (gA G zC.1) s) (hG : gOK G zC.1) (hT : G.2.2.1.map (fun q => q.2) = zC.2.1) (σ : gS) (p1 : Int32) (out : Int32 × gS) (hF : fX3_readStatement σ p1 = some out) : gCi l yX3_readStatement wsX3_readStatement rmX3_readStatement G zC [.ref (G.2.1 46), .int p1] σ out.1 out.2 :=
  gEnter (by decide) rfl ⟨rfl, rfl⟩ hG hT (Nat.le_of_ble_eq_true rfl) rfl (fun M X hl => wX3_readStatement X hZ σ p1 hF)
noncomputable def bX3_read_46 (σ : gS) (rec46 : Int32 → gS → Option (Int32 × gS)) (a2 : Int32) (σ1 : gS) : Option (Int32 × gS) :=
  if (σ1.1 46 4) ≤ (σ1.1 46 5) then some (a2, σ1) else if 120 < a2 then some (a2, σ1) else bd2 (fX3_readStatement σ1 a2) fun r14 σ15 => (if r14 = 0 then some ((-1), σ15) else nm (a2 + 1 : Int32) fun x17 => bd (fX3_skipBlanks σ15) fun σ19 => rec46 x17 σ19)
noncomputable def fX3_read (σ : gS) (p1 : Int32) : Option (Int32 × gS) :=
  nm (gsI σ 46 4 (if (1600 : Int32) < p1 then 1600 else p1)) fun σ1 => nm (gsI σ1 46 5 0) fun σ2 => nm (gsI σ2 46 8 ((-1))) fun σ3 => nm (gsI σ3 46 2 0) fun σ4 => nm (gsI σ4 46 3 ((-1))) fun σ5 => bd (fX8_clear_24 σ5) fun σ7 => nm (0 : Int32) fun x8 => bd (fX3_skipBlanks σ7) fun σ10 => lpc (S := Int32 × gS) K9 (fun rec s => bX3_read_46 σ10 (fun a2 σ1 => rec (a2, σ1)) s.1 s.2) (x8, σ10)
noncomputable abbrev rmX3_read : Room := { frames := 9, cells := 0, slots := 0, locals := 193 }
set_option maxRecDepth 100000 in
set_option maxHeartbeats 4000000 in
theorem wbX3_read_46 {M : gM} {G : gG} {out : Int32 × gS} (X : gX M G zC cX3_read RX3 3 wsX3_read rmX3_read (some .int)) {ex : gEx} (hZ : ∀ s : State, G.2.2.2 s → kC ex (gA G zC.1) s) (σ : gS) (rec46 : Int32 → gS → Option (Int32 × gS)) (ih46 : ∀ (a2 : Int32) (σ1 : gS), rec46 a2 σ1 = some out → WW M (gQi M G zC out.1 out.2) G zC 3 σ1 46 [(0, .ref (G.2.1 46)), (2, .int a2)] []) (a2 : Int32) (σ1 : gS) (hF : bX3_read_46 σ rec46 a2 σ1 = some out) : WW M (gQi M G zC out.1 out.2) G zC 3 σ1 46 [(0, .ref (G.2.1 46)), (2, .int a2)] [] := by
  unfold bX3_read_46 at hF
  refine ww_aload_n (pc := 46) X (j := 0) dX3_read_46 rfl rfl ?_
  refine ww_get (pc := 47) X (ref := "PictureBlock$Reader") (T := TX3) (j := 5) dX3_read_47 inX3_read_RX3 shzC_46 clzC_3 (by decide) rfl (List.mem_of_getElem? (i := 7) rfl) rfl ?_
  refine ww_aload_n (pc := 50) X (j := 0) dX3_read_50 rfl rfl ?_
  refine ww_get (pc := 51) X (ref := "PictureBlock$Reader") (T := TX3) (j := 4) dX3_read_51 inX3_read_RX3 shzC_46 clzC_3 (by decide) rfl (List.mem_of_getElem? (i := 6) rfl) rfl ?_
  refine ww_icmp_ge (pc := 54) (tgt := 83) X dX3_read_54 (by decide) hF (fun h11 hF => ?_) (fun h11 hF => ?_)
  · refine ww_iload_n (pc := 83) X (j := 1) dX3_read_83 rfl rfl ?_
    exact ww_iret (pc := 84) X dX3_read_84 (fst_of hF) (snd_of hF)
  · refine ww_iload_n (pc := 57) X (j := 1) dX3_read_57 rfl rfl ?_
    refine ww_bipush (pc := 58) X (v := 120) dX3_read_58 (by decide) ?_
    refine ww_icmp_gt (pc := 60) (tgt := 83) X dX3_read_60 (by decide) hF (fun h12 hF => ?_) (fun h12 hF => ?_)
    · refine ww_iload_n (pc := 83) X (j := 1) dX3_read_83 rfl rfl ?_
      exact ww_iret (pc := 84) X dX3_read_84 (fst_of hF) (snd_of hF)
    · refine ww_aload_n (pc := 63) X (j := 0) dX3_read_63 rfl rfl ?_
      refine ww_iload_n (pc := 64) X (j := 1) dX3_read_64 rfl rfl ?_
      obtain ⟨r14, σ15, h13, hF⟩ := bd2_some hF
      refine ww_callVi (pc := 65) X (As := [.int a2]) (rest := []) dX3_read_65 (kX3_readStatement (mL M) G hZ X.2.2.2.2.2.2.1 X.2.2.2.2.2.2.2.1 σ1 a2 (r14, σ15) h13) rfl shzC_46 clzC_3 gX3_read_X3_readStatement hyX3_readStatement ⟨rfl, rfl⟩ ⟨Nat.le_of_ble_eq_true rfl, Nat.le_of_ble_eq_true rfl⟩ rfl rfl (Nat.le_of_ble_eq_true rfl) ?_
      refine ww_if_ne (pc := 68) (tgt := 73) X dX3_read_68 (by decide) hF (fun h16 hF => ?_) (fun h16 hF => ?_)
      · refine ww_iinc (pc := 73) X (j := 1) (v := 1) (lv' := [(0, .ref (G.2.1 46))]) dX3_read_73 rfl rfl (by decide) rfl hF (fun x17 ex17 hF => ?_)
        refine ww_aload_n (pc := 76) X (j := 1) dX3_read_76 rfl rfl ?_
        obtain ⟨σ19, h18, hF⟩ := bd_some hF
        refine ww_callVv (pc := 77) X (As := []) (rest := []) dX3_read_77 (kX3_skipBlanks (mL M) G hZ X.2.2.2.2.2.2.1 X.2.2.2.2.2.2.2.1 σ15 σ19 h18) rfl shzC_46 clzC_3 gX3_read_X3_skipBlanks hyX3_skipBlanks ⟨rfl, rfl⟩ ⟨Nat.le_of_ble_eq_true rfl, Nat.le_of_ble_eq_true rfl⟩ rfl rfl (Nat.le_of_ble_eq_true rfl) ?_
        refine ww_goto (pc := 80) X (tgt := 46) dX3_read_80 (by decide) ?_
        exact ww_sub [1, 0] rfl (ih46 x17 σ19 hF)
      · refine ww_iconst (pc := 71) X (v := (-1)) dX3_read_71 (by decide) ?_
        exact ww_iret (pc := 72) X dX3_read_72 (fst_of hF) (snd_of hF)
set_option maxRecDepth 100000 in
set_option maxHeartbeats 4000000 in
theorem wX3_read {M : gM} {G : gG} {out : Int32 × gS} (X : gX M G zC cX3_read RX3 3 wsX3_read rmX3_read (some .int)) {ex : gEx} (hZ : ∀ s : State, G.2.2.2 s → kC ex (gA G zC.1) s) (σ : gS) (p1 : Int32) (hF : fX3_read σ p1 = some out) : WW M (gQi M G zC out.1 out.2) G zC 3 σ 0 [(0, .ref (G.2.1 46)), (1, .int p1)] [] := by
  unfold fX3_read at hF
  refine ww_aload_n (pc := 0) X (j := 0) dX3_read_0 rfl rfl ?_
  refine ww_iload_n (pc := 1) X (j := 1) dX3_read_1 rfl rfl ?_
  refine ww_aload_n (pc := 2) X (j := 0) dX3_read_2 rfl rfl ?_
  refine ww_get (pc := 3) X (ref := "PictureBlock$Reader") (T := TX3) (j := 0) dX3_read_3 inX3_read_RX3 shzC_46 clzC_3 (by decide) rfl (List.mem_of_getElem? (i := 1) rfl) rfl ?_
  refine ww_alen (pc := 6) X (v := 1600) (by decide) dX3_read_6 shzC_1 rfl (by decide) ?_
  refine ww_mmin (pc := 7) X dX3_read_7 (List.mem_of_getElem? (i := 2) rfl) (List.mem_of_getElem? (i := 3) rfl) (List.mem_of_getElem? (i := 4) rfl) (List.mem_of_getElem? (i := 5) rfl) ⟨Nat.le_of_ble_eq_true rfl, Nat.le_of_ble_eq_true rfl⟩ ?_
  refine ww_putI (pc := 10) X (ref := "PictureBlock$Reader") (T := TX3) (j := 4) dX3_read_10 inX3_read_RX3 tyX3 tyX3_ok nmX3 shzC_46 clzC_3 (by decide) rfl (List.mem_of_getElem? (i := 6) rfl) rfl rfl (by decide +kernel) hF (fun σ1 eσ1 hF => ?_)
  refine ww_aload_n (pc := 13) X (j := 0) dX3_read_13 rfl rfl ?_
  refine ww_iconst (pc := 14) X (v := 0) dX3_read_14 (by decide) ?_
  refine ww_putI (pc := 15) X (ref := "PictureBlock$Reader") (T := TX3) (j := 5) dX3_read_15 inX3_read_RX3 tyX3 tyX3_ok nmX3 shzC_46 clzC_3 (by decide) rfl (List.mem_of_getElem? (i := 7) rfl) rfl rfl (by decide +kernel) hF (fun σ2 eσ2 hF => ?_)
  refine ww_aload_n (pc := 18) X (j := 0) dX3_read_18 rfl rfl ?_
  refine ww_iconst (pc := 19) X (v := (-1)) dX3_read_19 (by decide) ?_
  refine ww_putI (pc := 20) X (ref := "PictureBlock$Reader") (T := TX3) (j := 8) dX3_read_20 inX3_read_RX3 tyX3 tyX3_ok nmX3 shzC_46 clzC_3 (by decide) rfl (List.mem_of_getElem? (i := 8) rfl) rfl rfl (by decide +kernel) hF (fun σ3 eσ3 hF => ?_)
  refine ww_aload_n (pc := 23) X (j := 0) dX3_read_23 rfl rfl ?_
  refine ww_iconst (pc := 24) X (v := 0) dX3_read_24 (by decide) ?_
  refine ww_putI (pc := 25) X (ref := "PictureBlock$Reader") (T := TX3) (j := 2) dX3_read_25 inX3_read_RX3 tyX3 tyX3_ok nmX3 shzC_46 clzC_3 (by decide) rfl (List.mem_of_getElem? (i := 9) rfl) rfl rfl (by decide +kernel) hF (fun σ4 eσ4 hF => ?_)
  refine ww_aload_n (pc := 28) X (j := 0) dX3_read_28 rfl rfl ?_
  refine ww_iconst (pc := 29) X (v := (-1)) dX3_read_29 (by decide) ?_
  refine ww_putI (pc := 30) X (ref := "PictureBlock$Reader") (T := TX3) (j := 3) dX3_read_30 inX3_read_RX3 tyX3 tyX3_ok nmX3 shzC_46 clzC_3 (by decide) rfl (List.mem_of_getElem? (i := 10) rfl) rfl rfl (by decide +kernel) hF (fun σ5 eσ5 hF => ?_)
  refine ww_aload_n (pc := 33) X (j := 0) dX3_read_33 rfl rfl ?_
  refine ww_get (pc := 34) X (ref := "PictureBlock$Reader") (T := TX3) (j := 1) dX3_read_34 inX3_read_RX3 shzC_46 clzC_3 (by decide) rfl (List.mem_of_getElem? (i := 11) rfl) rfl ?_
  obtain ⟨σ7, h6, hF⟩ := bd_some hF
  refine ww_callVv (pc := 37) X (As := []) (rest := []) dX3_read_37 (kX8_clear_24 (mL M) G hZ X.2.2.2.2.2.2.1 X.2.2.2.2.2.2.2.1 σ5 σ7 h6) rfl shzC_24 clzC_8 gX3_read_X8_clear hyX8_clear ⟨rfl, rfl⟩ ⟨Nat.le_of_ble_eq_true rfl, Nat.le_of_ble_eq_true rfl⟩ rfl rfl (Nat.le_of_ble_eq_true rfl) ?_
  refine ww_iconst (pc := 40) X (v := 0) dX3_read_40 (by decide) ?_
  refine ww_istore_n (pc := 41) X (lv' := [(0, .ref (G.2.1 46)), (1, .int p1)]) dX3_read_41 rfl (by decide) rfl hF (fun x8 ex8 hF => ?_)
  refine ww_aload_n (pc := 42) X (j := 1) dX3_read_42 rfl rfl ?_
  obtain ⟨σ10, h9, hF⟩ := bd_some hF
  refine ww_callVv (pc := 43) X (As := []) (rest := []) dX3_read_43 (kX3_skipBlanks (mL M) G hZ X.2.2.2.2.2.2.1 X.2.2.2.2.2.2.2.1 σ7 σ10 h9) rfl shzC_46 clzC_3 gX3_read_X3_skipBlanks hyX3_skipBlanks ⟨rfl, rfl⟩ ⟨Nat.le_of_ble_eq_true rfl, Nat.le_of_ble_eq_true rfl⟩ rfl rfl (Nat.le_of_ble_eq_true rfl) ?_
  exact ww_sub [1, 0] rfl (lpc_ind (P := (fun (s : Int32 × gS) => WW M (gQi M G zC out.1 out.2) G zC 3 s.2 46 [(0, .ref (G.2.1 46)), (2, .int s.1)] [])) (fun rec s ih hF => wbX3_read_46 X hZ σ10 (fun a2 σ1 => rec (a2, σ1)) (fun a2 σ1 h => ih (a2, σ1) h) s.1 s.2 hF) K9 (x8, σ10) hF)
set_option maxRecDepth 100000 in
set_option maxHeartbeats 4000000 in
theorem kX3_read (l : Launch) (G : gG) {ex : gEx} (hZ : ∀ s : State, G.2.2.2 s → kC ex (gA G zC.1) s) (hG : gOK G zC.1) (hT : G.2.2.1.map (fun q => q.2) = zC.2.1) (σ : gS) (p1 : Int32) (out : Int32 × gS) (hF : fX3_read σ p1 = some out) : gCi l yX3_read wsX3_read rmX3_read G zC [.ref (G.2.1 46), .int p1] σ out.1 out.2 :=
  gEnter (by decide) rfl ⟨rfl, rfl⟩ hG hT (Nat.le_of_ble_eq_true rfl) rfl (fun M X hl => wX3_read X hZ σ p1 hF)
