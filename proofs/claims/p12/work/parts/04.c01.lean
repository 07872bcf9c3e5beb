noncomputable def bX9_tapeNumber_3 (σ : gS) (c3_1 : Int32) (rec3 : Int32 → gS → Option (gS)) (a2 : Int32) (σ1 : gS) : Option (gS) :=
  if a2 < 0 then some σ1 else gd (gb (σ1.1 0 1) 1600) <| nm (gsI σ1 1 (σ1.1 0 1).toNatClampNeg (((c3_1.toUInt32 >>> (a2.toUInt32 &&& Int32.toUInt32 31)).toInt32) &&& 255)) fun σ3 => nm (gsI σ3 0 1 ((σ3.1 0 1) + 1)) fun σ4 => nm (a2 + (-8) : Int32) fun x5 => rec3 x5 σ4
noncomputable def fX9_tapeNumber (σ : gS) (p1 : Int32) : Option (gS) :=
  nm (24 : Int32) fun x1 => lpc (S := Int32 × gS) K9 (fun rec s => bX9_tapeNumber_3 σ p1 (fun a2 σ1 => rec (a2, σ1)) s.1 s.2) (x1, σ)
noncomputable abbrev rmX9_tapeNumber : Room := { frames := 0, cells := 0, slots := 0, locals := 0 }
set_option maxRecDepth 100000 in
set_option maxHeartbeats 4000000 in
theorem wbX9_tapeNumber_3 {M : gM} {G : gG} {out : gS} (X : gX M G zC cX9_tapeNumber RX9 3 wsX9_tapeNumber rmX9_tapeNumber none) {ex : gEx} (hZ : ∀ s : State, G.2.2.2 s → kC ex (gA G zC.1) s) (σ : gS) (c3_1 : Int32) (rec3 : Int32 → gS → Option (gS)) (ih3 : ∀ (a2 : Int32) (σ1 : gS), rec3 a2 σ1 = some out → WW M (gQv M G zC out) G zC 3 σ1 3 [(0, .ref (G.2.1 0)), (1, .int c3_1), (2, .int a2)] []) (a2 : Int32) (σ1 : gS) (hF : bX9_tapeNumber_3 σ c3_1 rec3 a2 σ1 = some out) : WW M (gQv M G zC out) G zC 3 σ1 3 [(0, .ref (G.2.1 0)), (1, .int c3_1), (2, .int a2)] [] := by
  unfold bX9_tapeNumber_3 at hF
  refine ww_iload_n (pc := 3) X (j := 2) dX9_tapeNumber_3 rfl rfl ?_
  refine ww_if_lt (pc := 4) (tgt := 39) X dX9_tapeNumber_4 (by decide) hF (fun h2 hF => ?_) (fun h2 hF => ?_)
  · exact ww_vret (pc := 39) X dX9_tapeNumber_39 (by cases hF; rfl)
  · refine ww_aload_n (pc := 7) X (j := 0) dX9_tapeNumber_7 rfl rfl ?_
    refine ww_get (pc := 8) X (ref := "PictureBlock") (T := TX9) (j := 0) dX9_tapeNumber_8 inX9_tapeNumber_RX9 shzC_0 clzC_9 (by decide) rfl (List.mem_of_getElem? (i := 1) rfl) rfl ?_
    refine ww_aload_n (pc := 11) X (j := 0) dX9_tapeNumber_11 rfl rfl ?_
    refine ww_get (pc := 12) X (ref := "PictureBlock") (T := TX9) (j := 1) dX9_tapeNumber_12 inX9_tapeNumber_RX9 shzC_0 clzC_9 (by decide) rfl (List.mem_of_getElem? (i := 2) rfl) rfl ?_
    refine ww_iload_n (pc := 15) X (j := 1) dX9_tapeNumber_15 rfl rfl ?_
    refine ww_iload_n (pc := 16) X (j := 2) dX9_tapeNumber_16 rfl rfl ?_
    refine ww_iushr (pc := 17) X dX9_tapeNumber_17 ?_
    refine ww_sipush (pc := 18) X (v := 255) dX9_tapeNumber_18 (by decide) ?_
    refine ww_iand (pc := 21) X dX9_tapeNumber_21 ?_
    refine ww_iast (pc := 22) X dX9_tapeNumber_22 shzC_1 rfl hF (fun σ3 eσ3 bσ3 hF => ?_)
    refine ww_aload_n (pc := 23) X (j := 0) dX9_tapeNumber_23 rfl rfl ?_
    refine ww_dup (pc := 24) X dX9_tapeNumber_24 rfl ?_
    refine ww_get (pc := 25) X (ref := "PictureBlock") (T := TX9) (j := 1) dX9_tapeNumber_25 inX9_tapeNumber_RX9 shzC_0 clzC_9 (by decide) rfl (List.mem_of_getElem? (i := 2) rfl) rfl ?_
    refine ww_iconst (pc := 28) X (v := 1) dX9_tapeNumber_28 (by decide) ?_
    refine ww_iadd (pc := 29) X dX9_tapeNumber_29 ?_
    refine ww_putI (pc := 30) X (ref := "PictureBlock") (T := TX9) (j := 1) dX9_tapeNumber_30 inX9_tapeNumber_RX9 tyX9 tyX9_ok nmX9 shzC_0 clzC_9 (by decide) rfl (List.mem_of_getElem? (i := 2) rfl) rfl rfl (by decide +kernel) hF (fun σ4 eσ4 hF => ?_)
    refine ww_iinc (pc := 33) X (j := 2) (v := (-8)) (lv' := [(0, .ref (G.2.1 0)), (1, .int c3_1)]) dX9_tapeNumber_33 rfl rfl (by decide) rfl hF (fun x5 ex5 hF => ?_)
    refine ww_goto (pc := 36) X (tgt := 3) dX9_tapeNumber_36 (by decide) ?_
    exact ww_sub [1, 2, 0] rfl (ih3 x5 σ4 hF)
set_option maxRecDepth 100000 in
set_option maxHeartbeats 4000000 in
theorem wX9_tapeNumber {M : gM} {G : gG} {out : gS} (X : gX M G zC cX9_tapeNumber RX9 3 wsX9_tapeNumber rmX9_tapeNumber none) {ex : gEx} (hZ : ∀ s : State, G.2.2.2 s → kC ex (gA G zC.1) s) (σ : gS) (p1 : Int32) (hF : fX9_tapeNumber σ p1 = some out) : WW M (gQv M G zC out) G zC 3 σ 0 [(0, .ref (G.2.1 0)), (1, .int p1)] [] := by
  unfold fX9_tapeNumber at hF
  refine ww_bipush (pc := 0) X (v := 24) dX9_tapeNumber_0 (by decide) ?_
  refine ww_istore_n (pc := 2) X (lv' := [(0, .ref (G.2.1 0)), (1, .int p1)]) dX9_tapeNumber_2 rfl (by decide) rfl hF (fun x1 ex1 hF => ?_)
  exact ww_sub [1, 2, 0] rfl (lpc_ind (P := (fun (s : Int32 × gS) => WW M (gQv M G zC out) G zC 3 s.2 3 [(0, .ref (G.2.1 0)), (1, .int p1), (2, .int s.1)] [])) (fun rec s ih hF => wbX9_tapeNumber_3 X hZ σ p1 (fun a2 σ1 => rec (a2, σ1)) (fun a2 σ1 h => ih (a2, σ1) h) s.1 s.2 hF) K9 (x1, σ) hF)
set_option maxRecDepth 100000 in
set_option maxHeartbeats 4000000 in
theorem kX9_tapeNumber (l : Launch) (G : gG) {ex : gEx} (hZ : ∀ s : State, G.2.2.2 s → kC ex (gA G zC.1) s) (hG : gOK G zC.1) (hT : G.2.2.1.map (fun q => q.2) = zC.2.1) (σ : gS) (p1 : Int32) (out : gS) (hF : fX9_tapeNumber σ p1 = some out) : gCv l yX9_tapeNumber wsX9_tapeNumber rmX9_tapeNumber G zC [.ref (G.2.1 0), .int p1] σ out :=
  gEnter (by decide) rfl ⟨rfl, rfl⟩ hG hT (Nat.le_of_ble_eq_true rfl) rfl (fun M X hl => wX9_tapeNumber X hZ σ p1 hF)
noncomputable def fX9_feed (σ : gS) (p1 : Int32) (p2 : Int32) (p3 : Int32) (p4 : Int32) (p5 : Int32) : Option (Int32 × gS) :=
  if ((σ.1 0 1) + 20) ≤ 1600 then bd (fX9_tapeNumber σ p1) fun σ3 => bd (fX9_tapeNumber σ3 p2) fun σ5 => bd (fX9_tapeNumber σ5 p3) fun σ7 => bd (fX9_tapeNumber σ7 p4) fun σ9 => bd (fX9_tapeNumber σ9 p5) fun σ11 => some (σ11.1 0 1, σ11) else some ((-1), σ)
noncomputable abbrev rmX9_feed : Room := { frames := 1, cells := 0, slots := 0, locals := 22 }
set_option maxRecDepth 100000 in
set_option maxHeartbeats 4000000 in
theorem wX9_feed {M : gM} {G : gG} {out : Int32 × gS} (X : gX M G zC cX9_feed RX9 6 wsX9_feed rmX9_feed (some .int)) {ex : gEx} (hZ : ∀ s : State, G.2.2.2 s → kC ex (gA G zC.1) s) (σ : gS) (p1 : Int32) (p2 : Int32) (p3 : Int32) (p4 : Int32) (p5 : Int32) (hF : fX9_feed σ p1 p2 p3 p4 p5 = some out) : WW M (gQi M G zC out.1 out.2) G zC 6 σ 0 [(0, .ref (G.2.1 0)), (1, .int p1), (2, .int p2), (3, .int p3), (4, .int p4), (5, .int p5)] [] := by
  unfold fX9_feed at hF
  refine ww_aload_n (pc := 0) X (j := 0) dX9_feed_0 rfl rfl ?_
  refine ww_get (pc := 1) X (ref := "PictureBlock") (T := TX9) (j := 1) dX9_feed_1 inX9_feed_RX9 shzC_0 clzC_9 (by decide) rfl (List.mem_of_getElem? (i := 1) rfl) rfl ?_
  refine ww_bipush (pc := 4) X (v := 20) dX9_feed_4 (by decide) ?_
  refine ww_iadd (pc := 6) X dX9_feed_6 ?_
  refine ww_sipush (pc := 7) X (v := 1600) dX9_feed_7 (by decide) ?_
  refine ww_icmp_le (pc := 10) (tgt := 15) X dX9_feed_10 (by decide) hF (fun h1 hF => ?_) (fun h1 hF => ?_)
  · refine ww_aload_n (pc := 15) X (j := 0) dX9_feed_15 rfl rfl ?_
    refine ww_iload_n (pc := 16) X (j := 1) dX9_feed_16 rfl rfl ?_
    obtain ⟨σ3, h2, hF⟩ := bd_some hF
    refine ww_callVv (pc := 17) X (As := [.int p1]) (rest := []) dX9_feed_17 (kX9_tapeNumber (mL M) G hZ X.2.2.2.2.2.2.1 X.2.2.2.2.2.2.2.1 σ p1 σ3 h2) rfl shzC_0 clzC_9 gX9_feed_X9_tapeNumber hyX9_tapeNumber ⟨rfl, rfl⟩ ⟨Nat.le_of_ble_eq_true rfl, Nat.le_of_ble_eq_true rfl⟩ rfl rfl (Nat.le_of_ble_eq_true rfl) ?_
    refine ww_aload_n (pc := 20) X (j := 0) dX9_feed_20 rfl rfl ?_
    refine ww_iload_n (pc := 21) X (j := 2) dX9_feed_21 rfl rfl ?_
    obtain ⟨σ5, h4, hF⟩ := bd_some hF
    refine ww_callVv (pc := 22) X (As := [.int p2]) (rest := []) dX9_feed_22 (kX9_tapeNumber (mL M) G hZ X.2.2.2.2.2.2.1 X.2.2.2.2.2.2.2.1 σ3 p2 σ5 h4) rfl shzC_0 clzC_9 gX9_feed_X9_tapeNumber hyX9_tapeNumber ⟨rfl, rfl⟩ ⟨Nat.le_of_ble_eq_true rfl, Nat.le_of_ble_eq_true rfl⟩ rfl rfl (Nat.le_of_ble_eq_true rfl) ?_
    refine ww_aload_n (pc := 25) X (j := 0) dX9_feed_25 rfl rfl ?_
    refine ww_iload_n (pc := 26) X (j := 3) dX9_feed_26 rfl rfl ?_
    obtain ⟨σ7, h6, hF⟩ := bd_some hF
    refine ww_callVv (pc := 27) X (As := [.int p3]) (rest := []) dX9_feed_27 (kX9_tapeNumber (mL M) G hZ X.2.2.2.2.2.2.1 X.2.2.2.2.2.2.2.1 σ5 p3 σ7 h6) rfl shzC_0 clzC_9 gX9_feed_X9_tapeNumber hyX9_tapeNumber ⟨rfl, rfl⟩ ⟨Nat.le_of_ble_eq_true rfl, Nat.le_of_ble_eq_true rfl⟩ rfl rfl (Nat.le_of_ble_eq_true rfl) ?_
    refine ww_aload_n (pc := 30) X (j := 0) dX9_feed_30 rfl rfl ?_
    refine ww_iload (pc := 31) X (j := 4) dX9_feed_31 rfl ?_
    obtain ⟨σ9, h8, hF⟩ := bd_some hF
    refine ww_callVv (pc := 33) X (As := [.int p4]) (rest := []) dX9_feed_33 (kX9_tapeNumber (mL M) G hZ X.2.2.2.2.2.2.1 X.2.2.2.2.2.2.2.1 σ7 p4 σ9 h8) rfl shzC_0 clzC_9 gX9_feed_X9_tapeNumber hyX9_tapeNumber ⟨rfl, rfl⟩ ⟨Nat.le_of_ble_eq_true rfl, Nat.le_of_ble_eq_true rfl⟩ rfl rfl (Nat.le_of_ble_eq_true rfl) ?_
    refine ww_aload_n (pc := 36) X (j := 0) dX9_feed_36 rfl rfl ?_
    refine ww_iload (pc := 37) X (j := 5) dX9_feed_37 rfl ?_
    obtain ⟨σ11, h10, hF⟩ := bd_some hF
    refine ww_callVv (pc := 39) X (As := [.int p5]) (rest := []) dX9_feed_39 (kX9_tapeNumber (mL M) G hZ X.2.2.2.2.2.2.1 X.2.2.2.2.2.2.2.1 σ9 p5 σ11 h10) rfl shzC_0 clzC_9 gX9_feed_X9_tapeNumber hyX9_tapeNumber ⟨rfl, rfl⟩ ⟨Nat.le_of_ble_eq_true rfl, Nat.le_of_ble_eq_true rfl⟩ rfl rfl (Nat.le_of_ble_eq_true rfl) ?_
    refine ww_aload_n (pc := 42) X (j := 0) dX9_feed_42 rfl rfl ?_
    refine ww_get (pc := 43) X (ref := "PictureBlock") (T := TX9) (j := 1) dX9_feed_43 inX9_feed_RX9 shzC_0 clzC_9 (by decide) rfl (List.mem_of_getElem? (i := 1) rfl) rfl ?_
    exact ww_iret (pc := 46) X dX9_feed_46 (fst_of hF) (snd_of hF)
  · refine ww_iconst (pc := 13) X (v := (-1)) dX9_feed_13 (by decide) ?_
    exact ww_iret (pc := 14) X dX9_feed_14 (fst_of hF) (snd_of hF)
set_option maxRecDepth 100000 in
set_option maxHeartbeats 4000000 in
theorem kX9_feed (l : Launch) (G : gG) {ex : gEx} (hZ : ∀ s : State, G.2.2.2 s → kC ex (gA G zC.1) s) (hG : gOK G zC.1) (hT : G.2.2.1.map (fun q => q.2) = zC.2.1) (σ : gS) (p1 : Int32) (p2 : Int32) (p3 : Int32) (p4 : Int32) (p5 : Int32) (out : Int32 × gS) (hF : fX9_feed σ p1 p2 p3 p4 p5 = some out) : gCi l yX9_feed wsX9_feed rmX9_feed G zC [.ref (G.2.1 0), .int p1, .int p2, .int p3, .int p4, .int p5] σ out.1 out.2 :=
  gEnter (by decide) rfl ⟨rfl, rfl⟩ hG hT (Nat.le_of_ble_eq_true rfl) rfl (fun M X hl => wX9_feed X hZ σ p1 p2 p3 p4 p5 hF)
noncomputable def fX9_end (σ : gS) (p1 : Int32) : Option (Int32 × gS) :=
  if p1 < 0 then some (0, σ) else if p1 ≤ (σ.1 0 1) then nm (gsI σ 0 1 p1) fun σ3 => some (1, σ3) else some (0, σ)
noncomputable abbrev rmX9_end : Room := { frames := 0, cells := 0, slots := 0, locals := 0 }
set_option maxRecDepth 100000 in
set_option maxHeartbeats 4000000 in
theorem wX9_end {M : gM} {G : gG} {out : Int32 × gS} (X : gX M G zC cX9_end RX9 2 wsX9_end rmX9_end (some .boolean)) {ex : gEx} (hZ : ∀ s : State, G.2.2.2 s → kC ex (gA G zC.1) s) (σ : gS) (p1 : Int32) (hF : fX9_end σ p1 = some out) : WW M (gQi M G zC out.1 out.2) G zC 2 σ 0 [(0, .ref (G.2.1 0)), (1, .int p1)] [] := by
  unfold fX9_end at hF
  refine ww_iload_n (pc := 0) X (j := 1) dX9_end_0 rfl rfl ?_
  refine ww_if_lt (pc := 1) (tgt := 12) X dX9_end_1 (by decide) hF (fun h1 hF => ?_) (fun h1 hF => ?_)
  · refine ww_iconst (pc := 12) X (v := 0) dX9_end_12 (by decide) ?_
    exact ww_zret (pc := 13) X dX9_end_13 (by cases hF; rfl) (by cases hF; rfl)
  · refine ww_iload_n (pc := 4) X (j := 1) dX9_end_4 rfl rfl ?_
    refine ww_aload_n (pc := 5) X (j := 0) dX9_end_5 rfl rfl ?_
    refine ww_get (pc := 6) X (ref := "PictureBlock") (T := TX9) (j := 1) dX9_end_6 inX9_end_RX9 shzC_0 clzC_9 (by decide) rfl (List.mem_of_getElem? (i := 1) rfl) rfl ?_
    refine ww_icmp_le (pc := 9) (tgt := 14) X dX9_end_9 (by decide) hF (fun h2 hF => ?_) (fun h2 hF => ?_)
    · refine ww_aload_n (pc := 14) X (j := 0) dX9_end_14 rfl rfl ?_
      refine ww_iload_n (pc := 15) X (j := 1) dX9_end_15 rfl rfl ?_
      refine ww_putI (pc := 16) X (ref := "PictureBlock") (T := TX9) (j := 1) dX9_end_16 inX9_end_RX9 tyX9 tyX9_ok nmX9 shzC_0 clzC_9 (by decide) rfl (List.mem_of_getElem? (i := 1) rfl) rfl rfl (by decide +kernel) hF (fun σ3 eσ3 hF => ?_)
      refine ww_iconst (pc := 19) X (v := 1) dX9_end_19 (by decide) ?_
      exact ww_zret (pc := 20) X dX9_end_20 (by cases hF; rfl) (by cases hF; rfl)
    · refine ww_iconst (pc := 12) X (v := 0) dX9_end_12 (by decide) ?_
      exact ww_zret (pc := 13) X dX9_end_13 (by cases hF; rfl) (by cases hF; rfl)
set_option maxRecDepth 100000 in
set_option maxHeartbeats 4000000 in
theorem kX9_end (l : Launch) (G : gG) {ex : gEx} (hZ : ∀ s : State, G.2.2.2 s → kC ex (gA G zC.1) s) (hG : gOK G zC.1) (hT : G.2.2.1.map (fun q => q.2) = zC.2.1) (σ : gS) (p1 : Int32) (out : Int32 × gS) (hF : fX9_end σ p1 = some out) : gCi l yX9_end wsX9_end rmX9_end G zC [.ref (G.2.1 0), .int p1] σ out.1 out.2 :=
  gEnter (by decide) rfl ⟨rfl, rfl⟩ hG hT (Nat.le_of_ble_eq_true rfl) rfl (fun M X hl => wX9_end X hZ σ p1 hF)
noncomputable def bJ7_fill_53178_5 (σ : gS) (c5_0 : Nat) (c5_1 : Int32) (c5_3 : Int32) (rec5 : Int32 → gS → Option (gS)) (a2 : Int32) (σ1 : gS) : Option (gS) :=
  if c5_3 ≤ a2 then some σ1 else gd (gb a2 (gsz zC.1 0 0 c5_0)) <| nm (gsI σ1 c5_0 a2.toNatClampNeg c5_1) fun σ5 => nm (a2 + 1 : Int32) fun x6 => rec5 x6 σ5
noncomputable def fJ7_fill_53178 (σ : gS) (p0 : Nat) (p1 : Int32) : Option (gS) :=
  nm (0 : Int32) fun x1 => gd (gis zC.1 0 0 p0) <| nm (Int32.ofNat (gsz zC.1 0 0 p0) : Int32) fun x3 => lpc (S := Int32 × gS) K9 (fun rec s => bJ7_fill_53178_5 σ p0 p1 x3 (fun a2 σ1 => rec (a2, σ1)) s.1 s.2) (x1, σ)
noncomputable abbrev rmJ7_fill_53178 : Room := { frames := 0, cells := 0, slots := 0, locals := 0 }
set_option maxRecDepth 100000 in
set_option maxHeartbeats 4000000 in
theorem wbJ7_fill_53178_5 {M : gM} {G : gG} {out : gS} (X : gX M G zC cJ7_fill_53178 RJ7 4 wsJ7_fill_53178 rmJ7_fill_53178 none) {ex : gEx} (hZ : ∀ s : State, G.2.2.2 s → kC ex (gA G zC.1) s) (σ : gS) (c5_0 : Nat) (c5_1 : Int32) (c5_3 : Int32) (rec5 : Int32 → gS → Option (gS)) (ih5 : ∀ (a2 : Int32) (σ1 : gS), rec5 a2 σ1 = some out → WW M (gQv M G zC out) G zC 4 σ1 5 [(0, .ref (G.2.1 c5_0)), (1, .int c5_1), (2, .int a2), (3, .int c5_3)] []) (a2 : Int32) (σ1 : gS) (hF : bJ7_fill_53178_5 σ c5_0 c5_1 c5_3 rec5 a2 σ1 = some out) : WW M (gQv M G zC out) G zC 4 σ1 5 [(0, .ref (G.2.1 c5_0)), (1, .int c5_1), (2, .int a2), (3, .int c5_3)] [] := by
  unfold bJ7_fill_53178_5 at hF
  refine ww_iload_n (pc := 5) X (j := 2) dJ7_fill_53178_5 rfl rfl ?_
  refine ww_iload_n (pc := 6) X (j := 3) dJ7_fill_53178_6 rfl rfl ?_
  refine ww_icmp_ge (pc := 7) (tgt := 20) X dJ7_fill_53178_7 (by decide) hF (fun h4 hF => ?_) (fun h4 hF => ?_)
  · exact ww_vret (pc := 20) X dJ7_fill_53178_20 (by cases hF; rfl)
  · refine ww_aload_n (pc := 10) X (j := 0) dJ7_fill_53178_10 rfl rfl ?_
    refine ww_iload_n (pc := 11) X (j := 2) dJ7_fill_53178_11 rfl rfl ?_
    refine ww_iload_n (pc := 12) X (j := 1) dJ7_fill_53178_12 rfl rfl ?_
    refine ww_iastS (pc := 13) X dJ7_fill_53178_13  (t := 0) rfl hF (fun σ5 eσ5 bσ5 hF => ?_)
    refine ww_iinc (pc := 14) X (j := 2) (v := 1) (lv' := [(0, .ref (G.2.1 c5_0)), (1, .int c5_1), (3, .int c5_3)]) dJ7_fill_53178_14 rfl rfl (by decide) rfl hF (fun x6 ex6 hF => ?_)
    refine ww_goto (pc := 17) X (tgt := 5) dJ7_fill_53178_17 (by decide) ?_
    exact ww_sub [1, 2, 0, 3] rfl (ih5 x6 σ5 hF)
set_option maxRecDepth 100000 in
set_option maxHeartbeats 4000000 in
theorem wJ7_fill_53178 {M : gM} {G : gG} {out : gS} (X : gX M G zC cJ7_fill_53178 RJ7 4 wsJ7_fill_53178 rmJ7_fill_53178 none) {ex : gEx} (hZ : ∀ s : State, G.2.2.2 s → kC ex (gA G zC.1) s) (σ : gS) (p0 : Nat) (p1 : Int32) (hF : fJ7_fill_53178 σ p0 p1 = some out) : WW M (gQv M G zC out) G zC 4 σ 0 [(0, .ref (G.2.1 p0)), (1, .int p1)] [] := by
  unfold fJ7_fill_53178 at hF
  refine ww_iconst (pc := 0) X (v := 0) dJ7_fill_53178_0 (by decide) ?_
  refine ww_istore_n (pc := 1) X (lv' := [(0, .ref (G.2.1 p0)), (1, .int p1)]) dJ7_fill_53178_1 rfl (by decide) rfl hF (fun x1 ex1 hF => ?_)
  refine ww_aload_n (pc := 2) X (j := 1) dJ7_fill_53178_2 rfl rfl ?_
  refine ww_alenS (pc := 3) X (by decide) dJ7_fill_53178_3 (t := 0) rfl hF (fun h2 hF => ?_)
  refine ww_istore_n (pc := 4) X (lv' := [(2, .int x1), (0, .ref (G.2.1 p0)), (1, .int p1)]) dJ7_fill_53178_4 rfl (by decide) rfl hF (fun x3 ex3 hF => ?_)
  exact ww_sub [2, 3, 1, 0] rfl (lpc_ind (P := (fun (s : Int32 × gS) => WW M (gQv M G zC out) G zC 4 s.2 5 [(0, .ref (G.2.1 p0)), (1, .int p1), (2, .int s.1), (3, .int x3)] [])) (fun rec s ih hF => wbJ7_fill_53178_5 X hZ σ p0 p1 x3 (fun a2 σ1 => rec (a2, σ1)) (fun a2 σ1 h => ih (a2, σ1) h) s.1 s.2 hF) K9 (x1, σ) hF)
set_option maxRecDepth 100000 in
set_option maxHeartbeats 4000000 in
theorem kJ7_fill_53178 (l : Launch) (G : gG) {ex : gEx} (hZ : ∀ s : State, G.2.2.2 s → kC ex (gA G zC.1) s) (hG : gOK G zC.1) (hT : G.2.2.1.map (fun q => q.2) = zC.2.1) (σ : gS) (p0 : Nat) (p1 : Int32) (out : gS) (hF : fJ7_fill_53178 σ p0 p1 = some out) : gCv l yJ7_fill_53178 wsJ7_fill_53178 rmJ7_fill_53178 G zC [.ref (G.2.1 p0), .int p1] σ out :=
  gEnter (by decide) rfl ⟨rfl, rfl⟩ hG hT (Nat.le_of_ble_eq_true rfl) rfl (fun M X hl => wJ7_fill_53178 X hZ σ p0 p1 hF)
noncomputable def fX8_clear_24 (σ : gS) : Option (gS) :=
  bd (fJ7_fill_53178 σ 25 0) fun σ2 => bd (fJ7_fill_53178 σ2 38 0) fun σ4 => bd (fJ7_fill_53178 σ4 42 0) fun σ6 => some σ6
noncomputable abbrev rmX8_clear : Room := { frames := 1, cells := 0, slots := 0, locals := 23 }
set_option maxRecDepth 100000 in
set_option maxHeartbeats 4000000 in
theorem wX8_clear_24 {M : gM} {G : gG} {out : gS} (X : gX M G zC cX8_clear RX8 1 wsX8_clear rmX8_clear none) {ex : gEx} (hZ : ∀ s : State, G.2.2.2 s → kC ex (gA G zC.1) s) (σ : gS) (hF : fX8_clear_24 σ = some out) : WW M (gQv M G zC out) G zC 1 σ 0 [(0, .ref (G.2.1 24))] [] := by
  unfold fX8_clear_24 at hF
  refine ww_aload_n (pc := 0) X (j := 0) dX8_clear_0 rfl rfl ?_
  refine ww_get (pc := 1) X (ref := "PictureBlock$Told") (T := TX8) (j := 0) dX8_clear_1 inX8_clear_RX8 shzC_24 clzC_8 (by decide) rfl (List.mem_of_getElem? (i := 1) rfl) rfl ?_
  refine ww_iconst (pc := 4) X (v := 0) dX8_clear_4 (by decide) ?_
  obtain ⟨σ2, h1, hF⟩ := bd_some hF
  refine ww_callSv (pc := 5) X (As := [.ref (G.2.1 25), .int 0]) (rest := []) dX8_clear_5 (kJ7_fill_53178 (mL M) G hZ X.2.2.2.2.2.2.1 X.2.2.2.2.2.2.2.1 σ 25 0 σ2 h1) rfl gX8_clear_J7_fill_53178 hyJ7_fill_53178 ⟨rfl, rfl⟩ ⟨Nat.le_of_ble_eq_true rfl, Nat.le_of_ble_eq_true rfl⟩ rfl rfl (Nat.le_of_ble_eq_true rfl) ?_
  refine ww_aload_n (pc := 8) X (j := 0) dX8_clear_8 rfl rfl ?_
  refine ww_get (pc := 9) X (ref := "PictureBlock$Told") (T := TX8) (j := 8) dX8_clear_9 inX8_clear_RX8 shzC_24 clzC_8 (by decide) rfl (List.mem_of_getElem? (i := 2) rfl) rfl ?_
  refine ww_iconst (pc := 12) X (v := 0) dX8_clear_12 (by decide) ?_
  obtain ⟨σ4, h3, hF⟩ := bd_some hF
  refine ww_callSv (pc := 13) X (As := [.ref (G.2.1 38), .int 0]) (rest := []) dX8_clear_13 (kJ7_fill_53178 (mL M) G hZ X.2.2.2.2.2.2.1 X.2.2.2.2.2.2.2.1 σ2 38 0 σ4 h3) rfl gX8_clear_J7_fill_53178 hyJ7_fill_53178 ⟨rfl, rfl⟩ ⟨Nat.le_of_ble_eq_true rfl, Nat.le_of_ble_eq_true rfl⟩ rfl rfl (Nat.le_of_ble_eq_true rfl) ?_
  refine ww_aload_n (pc := 16) X (j := 0) dX8_clear_16 rfl rfl ?_
  refine ww_get (pc := 17) X (ref := "PictureBlock$Told") (T := TX8) (j := 10) dX8_clear_17 inX8_clear_RX8 shzC_24 clzC_8 (by decide) rfl (List.mem_of_getElem? (i := 3) rfl) rfl ?_
  refine ww_iconst (pc := 20) X (v := 0) dX8_clear_20 (by decide) ?_
  obtain ⟨σ6, h5, hF⟩ := bd_some hF
  refine ww_callSv (pc := 21) X (As := [.ref (G.2.1 42), .int 0]) (rest := []) dX8_clear_21 (kJ7_fill_53178 (mL M) G hZ X.2.2.2.2.2.2.1 X.2.2.2.2.2.2.2.1 σ4 42 0 σ6 h5) rfl gX8_clear_J7_fill_53178 hyJ7_fill_53178 ⟨rfl, rfl⟩ ⟨Nat.le_of_ble_eq_true rfl, Nat.le_of_ble_eq_true rfl⟩ rfl rfl (Nat.le_of_ble_eq_true rfl) ?_
  exact ww_vret (pc := 24) X dX8_clear_24 (by cases hF; rfl)
set_option maxRecDepth 100000 in
set_option maxHeartbeats 4000000 in
theorem kX8_clear_24 (l : Launch) (G : gG) {ex : gEx} (hZ : ∀ s : State, G.2.2.2 s → kC ex (gA G zC.1) s) (hG : gOK G zC.1) (hT : G.2.2.1.map (fun q => q.2) = zC.2.1) (σ : gS) (out : gS) (hF : fX8_clear_24 σ = some out) : gCv l yX8_clear wsX8_clear rmX8_clear G zC [.ref (G.2.1 24)] σ out :=
  gEnter (by decide) rfl ⟨rfl, rfl⟩ hG hT (Nat.le_of_ble_eq_true rfl) rfl (fun M X hl => wX8_clear_24 X hZ σ hF)
noncomputable def jX3_skipBlanks_39 (σ : gS) (rec0 : gS → Option (gS)) : Option (gS) :=
  nm (gsI σ 46 5 ((σ.1 46 5) + 1)) fun σ4 => rec0 σ4
noncomputable def bX3_skipBlanks_0 (σ : gS) (rec0 : gS → Option (gS)) (σ1 : gS) : Option (gS) :=
  if (σ1.1 46 4) ≤ (σ1.1 46 5) then some σ1 else gd (gb (σ1.1 46 5) 1600) <| nm (σ1.1 1 (σ1.1 46 5).toNatClampNeg) fun v2 => (if v2 = 10 then jX3_skipBlanks_39 σ1 rec0 else gd (gb (σ1.1 46 5) 1600) <| nm (σ1.1 1 (σ1.1 46 5).toNatClampNeg) fun v5 => (if v5 = 32 then jX3_skipBlanks_39 σ1 rec0 else some σ1))
noncomputable def fX3_skipBlanks (σ : gS) : Option (gS) :=
  lpc (S := gS) K9 (fun rec s => bX3_skipBlanks_0 σ (fun σ1 => rec (σ1)) s) (σ)
noncomputable abbrev rmX3_skipBlanks : Room := { frames := 0, cells := 0, slots := 0, locals := 0 }
set_option maxRecDepth 100000 in
set_option maxHeartbeats 4000000 in
theorem wjX3_skipBlanks_39 {M : gM} {G : gG} {out : gS} (X : gX M G zC cX3_skipBlanks RX3 1 wsX3_skipBlanks rmX3_skipBlanks none) {ex : gEx} (hZ : ∀ s : State, G.2.2.2 s → kC ex (gA G zC.1) s) (σ : gS) (rec0 : gS → Option (gS)) (ih0 : ∀ (σ1 : gS), rec0 σ1 = some out → WW M (gQv M G zC out) G zC 1 σ1 0 [(0, .ref (G.2.1 46))] []) (hF : jX3_skipBlanks_39 σ rec0 = some out) : WW M (gQv M G zC out) G zC 1 σ 39 [(0, .ref (G.2.1 46))] [] := by
  unfold jX3_skipBlanks_39 at hF
  refine ww_aload_n (pc := 39) X (j := 0) dX3_skipBlanks_39 rfl rfl ?_
  refine ww_dup (pc := 40) X dX3_skipBlanks_40 rfl ?_
  refine ww_get (pc := 41) X (ref := "PictureBlock$Reader") (T := TX3) (j := 5) dX3_skipBlanks_41 inX3_skipBlanks_RX3 shzC_46 clzC_3 (by decide) rfl (List.mem_of_getElem? (i := 1) rfl) rfl ?_
  refine ww_iconst (pc := 44) X (v := 1) dX3_skipBlanks_44 (by decide) ?_
  refine ww_iadd (pc := 45) X dX3_skipBlanks_45 ?_
  refine ww_putI (pc := 46) X (ref := "PictureBlock$Reader") (T := TX3) (j := 5) dX3_skipBlanks_46 inX3_skipBlanks_RX3 tyX3 tyX3_ok nmX3 shzC_46 clzC_3 (by decide) rfl (List.mem_of_getElem? (i := 1) rfl) rfl rfl (by decide +kernel) hF (fun σ4 eσ4 hF => ?_)
  refine ww_goto (pc := 49) X (tgt := 0) dX3_skipBlanks_49 (by decide) ?_
  exact ww_sub [0] rfl (ih0  σ4 hF)
set_option maxRecDepth 100000 in
set_option maxHeartbeats 4000000 in
theorem wbX3_skipBlanks_0 {M : gM} {G : gG} {out : gS} (X : gX M G zC cX3_skipBlanks RX3 1 wsX3_skipBlanks rmX3_skipBlanks none) {ex : gEx} (hZ : ∀ s : State, G.2.2.2 s → kC ex (gA G zC.1) s) (σ : gS) (rec0 : gS → Option (gS)) (ih0 : ∀ (σ1 : gS), rec0 σ1 = some out → WW M (gQv M G zC out) G zC 1 σ1 0 [(0, .ref (G.2.1 46))] []) (σ1 : gS) (hF : bX3_skipBlanks_0 σ rec0 σ1 = some out) : WW M (gQv M G zC out) G zC 1 σ1 0 [(0, .ref (G.2.1 46))] [] := by
  unfold bX3_skipBlanks_0 at hF
  refine ww_aload_n (pc := 0) X (j := 0) dX3_skipBlanks_0 rfl rfl ?_
  refine ww_get (pc := 1) X (ref := "PictureBlock$Reader") (T := TX3) (j := 5) dX3_skipBlanks_1 inX3_skipBlanks_RX3 shzC_46 clzC_3 (by decide) rfl (List.mem_of_getElem? (i := 1) rfl) rfl ?_
  refine ww_aload_n (pc := 4) X (j := 0) dX3_skipBlanks_4 rfl rfl ?_
  refine ww_get (pc := 5) X (ref := "PictureBlock$Reader") (T := TX3) (j := 4) dX3_skipBlanks_5 inX3_skipBlanks_RX3 shzC_46 clzC_3 (by decide) rfl (List.mem_of_getElem? (i := 2) rfl) rfl ?_
  refine ww_icmp_ge (pc := 8) (tgt := 52) X dX3_skipBlanks_8 (by decide) hF (fun h1 hF => ?_) (fun h1 hF => ?_)
  · exact ww_vret (pc := 52) X dX3_skipBlanks_52 (by cases hF; rfl)
  · refine ww_aload_n (pc := 11) X (j := 0) dX3_skipBlanks_11 rfl rfl ?_
    refine ww_get (pc := 12) X (ref := "PictureBlock$Reader") (T := TX3) (j := 0) dX3_skipBlanks_12 inX3_skipBlanks_RX3 shzC_46 clzC_3 (by decide) rfl (List.mem_of_getElem? (i := 3) rfl) rfl ?_
    refine ww_aload_n (pc := 15) X (j := 0) dX3_skipBlanks_15 rfl rfl ?_
    refine ww_get (pc := 16) X (ref := "PictureBlock$Reader") (T := TX3) (j := 5) dX3_skipBlanks_16 inX3_skipBlanks_RX3 shzC_46 clzC_3 (by decide) rfl (List.mem_of_getElem? (i := 1) rfl) rfl ?_
    refine ww_iald (pc := 19) X dX3_skipBlanks_19 shzC_1 rfl hF (fun v2 ev2 bv2 hF => ?_)
    refine ww_bipush (pc := 20) X (v := 10) dX3_skipBlanks_20 (by decide) ?_
    refine ww_icmp_eq (pc := 22) (tgt := 39) X dX3_skipBlanks_22 (by decide) hF (fun h3 hF => ?_) (fun h3 hF => ?_)
    · exact ww_sub [0] rfl (wjX3_skipBlanks_39 X hZ σ1 rec0 ih0 hF)
    · refine ww_aload_n (pc := 25) X (j := 0) dX3_skipBlanks_25 rfl rfl ?_
      refine ww_get (pc := 26) X (ref := "PictureBlock$Reader") (T := TX3) (j := 0) dX3_skipBlanks_26 inX3_skipBlanks_RX3 shzC_46 clzC_3 (by decide) rfl (List.mem_of_getElem? (i := 3) rfl) rfl ?_
      refine ww_aload_n (pc := 29) X (j := 0) dX3_skipBlanks_29 rfl rfl ?_
      refine ww_get (pc := 30) X (ref := "PictureBlock$Reader") (T := TX3) (j := 5) dX3_skipBlanks_30 inX3_skipBlanks_RX3 shzC_46 clzC_3 (by decide) rfl (List.mem_of_getElem? (i := 1) rfl) rfl ?_
      refine ww_iald (pc := 33) X dX3_skipBlanks_33 shzC_1 rfl hF (fun v5 ev5 bv5 hF => ?_)
      refine ww_bipush (pc := 34) X (v := 32) dX3_skipBlanks_34 (by decide) ?_
      refine ww_icmp_ne (pc := 36) (tgt := 52) X dX3_skipBlanks_36 (by decide) hF (fun h6 hF => ?_) (fun h6 hF => ?_)
      · exact ww_vret (pc := 52) X dX3_skipBlanks_52 (by cases hF; rfl)
      · exact ww_sub [0] rfl (wjX3_skipBlanks_39 X hZ σ1 rec0 ih0 hF)
set_option maxRecDepth 100000 in
set_option maxHeartbeats 4000000 in
theorem wX3_skipBlanks {M : gM} {G : gG} {out : gS} (X : gX M G zC cX3_skipBlanks RX3 1 wsX3_skipBlanks rmX3_skipBlanks none) {ex : gEx} (hZ : ∀ s : State, G.2.2.2 s → kC ex (gA G zC.1) s) (σ : gS) (hF : fX3_skipBlanks σ = some out) : WW M (gQv M G zC out) G zC 1 σ 0 [(0, .ref (G.2.1 46))] [] := by
  unfold fX3_skipBlanks at hF
  exact ww_sub [0] rfl (lpc_ind (P := (fun (s : gS) => WW M (gQv M G zC out) G zC 1 s 0 [(0, .ref (G.2.1 46))] [])) (fun rec s ih hF => wbX3_skipBlanks_0 X hZ σ (fun σ1 => rec (σ1)) (fun σ1 h => ih (σ1) h) s hF) K9 (σ) hF)
set_option maxRecDepth 100000 in
set_option maxHeartbeats 4000000 in
theorem kX3_skipBlanks (l : Launch) (G : gG) {ex : gEx} (hZ : ∀ s : State, G.2.2.2 s → kC ex (gA G zC.1) s) (hG : gOK G zC.1) (hT : G.2.2.1.map (fun q => q.2) = zC.2.1) (σ : gS) (out : gS) (hF : fX3_skipBlanks σ = some out) : gCv l yX3_skipBlanks wsX3_skipBlanks rmX3_skipBlanks G zC [.ref (G.2.1 46)] σ out :=
  gEnter (by decide) rfl ⟨rfl, rfl⟩ hG hT (Nat.le_of_ble_eq_true rfl) rfl (fun M X hl => wX3_skipBlanks X hZ σ hF)
noncomputable def bX3_markRun_20 (σ : gS) (c20_1 : Int32) (c20_2 : Int32) (rec20 : gS → Option (gS)) (σ1 : gS) : Option (gS) :=
  if (σ1.1 46 4) ≤ (σ1.1 46 7) then some σ1 else gd (gb (σ1.1 46 7) 1600) <| nm (σ1.1 1 (σ1.1 46 7).toNatClampNeg) fun v6 => (if v6 < c20_1 then some σ1 else gd (gb (σ1.1 46 7) 1600) <| nm (σ1.1 1 (σ1.1 46 7).toNatClampNeg) fun v8 => (if c20_2 < v8 then some σ1 else nm (gsI σ1 46 7 ((σ1.1 46 7) + 1)) fun σ10 => rec20 σ10))
noncomputable def fX3_markRun (σ : gS) (p1 : Int32) (p2 : Int32) : Option (gS) :=
  bd (fX3_skipBlanks σ) fun σ2 => nm (gsI σ2 46 6 (σ2.1 46 5)) fun σ3 => nm (gsI σ3 46 7 (σ3.1 46 5)) fun σ4 => lpc (S := gS) K9 (fun rec s => bX3_markRun_20 σ4 p1 p2 (fun σ1 => rec (σ1)) s) (σ4)
noncomputable abbrev rmX3_markRun : Room := { frames := 1, cells := 0, slots := 0, locals := 20 }
set_option maxRecDepth 100000 in
set_option maxHeartbeats 4000000 in
theorem wbX3_markRun_20 {M : gM} {G : gG} {out : gS} (X : gX M G zC cX3_markRun RX3 3 wsX3_markRun rmX3_markRun none) {ex : gEx} (hZ : ∀ s : State, G.2.2.2 s → kC ex (gA G zC.1) s) (σ : gS) (c20_1 : Int32) (c20_2 : Int32) (rec20 : gS → Option (gS)) (ih20 : ∀ (σ1 : gS), rec20 σ1 = some out → WW M (gQv M G zC out) G zC 3 σ1 20 [(0, .ref (G.2.1 46)), (1, .int c20_1), (2, .int c20_2)] []) (σ1 : gS) (hF : bX3_markRun_20 σ c20_1 c20_2 rec20 σ1 = some out) : WW M (gQv M G zC out) G zC 3 σ1 20 [(0, .ref (G.2.1 46)), (1, .int c20_1), (2, .int c20_2)] [] := by
  unfold bX3_markRun_20 at hF
  refine ww_aload_n (pc := 20) X (j := 0) dX3_markRun_20 rfl rfl ?_
  refine ww_get (pc := 21) X (ref := "PictureBlock$Reader") (T := TX3) (j := 7) dX3_markRun_21 inX3_markRun_RX3 shzC_46 clzC_3 (by decide) rfl (List.mem_of_getElem? (i := 3) rfl) rfl ?_
  refine ww_aload_n (pc := 24) X (j := 0) dX3_markRun_24 rfl rfl ?_
  refine ww_get (pc := 25) X (ref := "PictureBlock$Reader") (T := TX3) (j := 4) dX3_markRun_25 inX3_markRun_RX3 shzC_46 clzC_3 (by decide) rfl (List.mem_of_getElem? (i := 4) rfl) rfl ?_
  refine ww_icmp_ge (pc := 28) (tgt := 70) X dX3_markRun_28 (by decide) hF (fun h5 hF => ?_) (fun h5 hF => ?_)
  · exact ww_vret (pc := 70) X dX3_markRun_70 (by cases hF; rfl)
  · refine ww_aload_n (pc := 31) X (j := 0) dX3_markRun_31 rfl rfl ?_
    refine ww_get (pc := 32) X (ref := "PictureBlock$Reader") (T := TX3) (j := 0) dX3_markRun_32 inX3_markRun_RX3 shzC_46 clzC_3 (by decide) rfl (List.mem_of_getElem? (i := 5) rfl) rfl ?_
    refine ww_aload_n (pc := 35) X (j := 0) dX3_markRun_35 rfl rfl ?_
    refine ww_get (pc := 36) X (ref := "PictureBlock$Reader") (T := TX3) (j := 7) dX3_markRun_36 inX3_markRun_RX3 shzC_46 clzC_3 (by decide) rfl (List.mem_of_getElem? (i := 3) rfl) rfl ?_
    refine ww_iald (pc := 39) X dX3_markRun_39 shzC_1 rfl hF (fun v6 ev6 bv6 hF => ?_)
    refine ww_iload_n (pc := 40) X (j := 1) dX3_markRun_40 rfl rfl ?_
    refine ww_icmp_lt (pc := 41) (tgt := 70) X dX3_markRun_41 (by decide) hF (fun h7 hF => ?_) (fun h7 hF => ?_)
    · exact ww_vret (pc := 70) X dX3_markRun_70 (by cases hF; rfl)
    · refine ww_aload_n (pc := 44) X (j := 0) dX3_markRun_44 rfl rfl ?_
      refine ww_get (pc := 45) X (ref := "PictureBlock$Reader") (T := TX3) (j := 0) dX3_markRun_45 inX3_markRun_RX3 shzC_46 clzC_3 (by decide) rfl (List.mem_of_getElem? (i := 5) rfl) rfl ?_
      refine ww_aload_n (pc := 48) X (j := 0) dX3_markRun_48 rfl rfl ?_
      refine ww_get (pc := 49) X (ref := "PictureBlock$Reader") (T := TX3) (j := 7) dX3_markRun_49 inX3_markRun_RX3 shzC_46 clzC_3 (by decide) rfl (List.mem_of_getElem? (i := 3) rfl) rfl ?_
      refine ww_iald (pc := 52) X dX3_markRun_52 shzC_1 rfl hF (fun v8 ev8 bv8 hF => ?_)
      refine ww_iload_n (pc := 53) X (j := 2) dX3_markRun_53 rfl rfl ?_
      refine ww_icmp_gt (pc := 54) (tgt := 70) X dX3_markRun_54 (by decide) hF (fun h9 hF => ?_) (fun h9 hF => ?_)
      · exact ww_vret (pc := 70) X dX3_markRun_70 (by cases hF; rfl)
      · refine ww_aload_n (pc := 57) X (j := 0) dX3_markRun_57 rfl rfl ?_
        refine ww_dup (pc := 58) X dX3_markRun_58 rfl ?_
        refine ww_get (pc := 59) X (ref := "PictureBlock$Reader") (T := TX3) (j := 7) dX3_markRun_59 inX3_markRun_RX3 shzC_46 clzC_3 (by decide) rfl (List.mem_of_getElem? (i := 3) rfl) rfl ?_
        refine ww_iconst (pc := 62) X (v := 1) dX3_markRun_62 (by decide) ?_
        refine ww_iadd (pc := 63) X dX3_markRun_63 ?_
        refine ww_putI (pc := 64) X (ref := "PictureBlock$Reader") (T := TX3) (j := 7) dX3_markRun_64 inX3_markRun_RX3 tyX3 tyX3_ok nmX3 shzC_46 clzC_3 (by decide) rfl (List.mem_of_getElem? (i := 3) rfl) rfl rfl (by decide +kernel) hF (fun σ10 eσ10 hF => ?_)
        refine ww_goto (pc := 67) X (tgt := 20) dX3_markRun_67 (by decide) ?_
        exact ww_sub [0, 1, 2] rfl (ih20  σ10 hF)
set_option maxRecDepth 100000 in
set_option maxHeartbeats 4000000 in
theorem wX3_markRun {M : gM} {G : gG} {out : gS} (X : gX M G zC cX3_markRun RX3 3 wsX3_markRun rmX3_markRun none) {ex : gEx} (hZ : ∀ s : State, G.2.2.2 s → kC ex (gA G zC.1) s) (σ : gS) (p1 : Int32) (p2 : Int32) (hF : fX3_markRun σ p1 p2 = some out) : WW M (gQv M G zC out) G zC 3 σ 0 [(0, .ref (G.2.1 46)), (1, .int p1), (2, .int p2)] [] := by
  unfold fX3_markRun at hF
  refine ww_aload_n (pc := 0) X (j := 0) dX3_markRun_0 rfl rfl ?_
  obtain ⟨σ2, h1, hF⟩ := bd_some hF
  refine ww_callVv (pc := 1) X (As := []) (rest := []) dX3_markRun_1 (kX3_skipBlanks (mL M) G hZ X.2.2.2.2.2.2.1 X.2.2.2.2.2.2.2.1 σ σ2 h1) rfl shzC_46 clzC_3 gX3_markRun_X3_skipBlanks hyX3_skipBlanks ⟨rfl, rfl⟩ ⟨Nat.le_of_ble_eq_true rfl, Nat.le_of_ble_eq_true rfl⟩ rfl rfl (Nat.le_of_ble_eq_true rfl) ?_
  refine ww_aload_n (pc := 4) X (j := 0) dX3_markRun_4 rfl rfl ?_
  refine ww_aload_n (pc := 5) X (j := 0) dX3_markRun_5 rfl rfl ?_
  refine ww_get (pc := 6) X (ref := "PictureBlock$Reader") (T := TX3) (j := 5) dX3_markRun_6 inX3_markRun_RX3 shzC_46 clzC_3 (by decide) rfl (List.mem_of_getElem? (i := 1) rfl) rfl ?_
  refine ww_putI (pc := 9) X (ref := "PictureBlock$Reader") (T := TX3) (j := 6) dX3_markRun_9 inX3_markRun_RX3 tyX3 tyX3_ok nmX3 shzC_46 clzC_3 (by decide) rfl (List.mem_of_getElem? (i := 2) rfl) rfl rfl (by decide +kernel) hF (fun σ3 eσ3 hF => ?_)
  refine ww_aload_n (pc := 12) X (j := 0) dX3_markRun_12 rfl rfl ?_
  refine ww_aload_n (pc := 13) X (j := 0) dX3_markRun_13 rfl rfl ?_
  refine ww_get (pc := 14) X (ref := "PictureBlock$Reader") (T := TX3) (j := 5) dX3_markRun_14 inX3_markRun_RX3 shzC_46 clzC_3 (by decide) rfl (List.mem_of_getElem? (i := 1) rfl) rfl ?_
  refine ww_putI (pc := 17) X (ref := "PictureBlock$Reader") (T := TX3) (j := 7) dX3_markRun_17 inX3_markRun_RX3 tyX3 tyX3_ok nmX3 shzC_46 clzC_3 (by decide) rfl (List.mem_of_getElem? (i := 3) rfl) rfl rfl (by decide +kernel) hF (fun σ4 eσ4 hF => ?_)
  exact ww_sub [0, 1, 2] rfl (lpc_ind (P := (fun (s : gS) => WW M (gQv M G zC out) G zC 3 s 20 [(0, .ref (G.2.1 46)), (1, .int p1), (2, .int p2)] [])) (fun rec s ih hF => wbX3_markRun_20 X hZ σ4 p1 p2 (fun σ1 => rec (σ1)) (fun σ1 h => ih (σ1) h) s hF) K9 (σ4) hF)
set_option maxRecDepth 100000 in
set_option maxHeartbeats 4000000 in
theorem kX3_markRun (l : Launch) (G : gG) {ex : gEx} (hZ : ∀ s : State, G.2.2.2 s → kC ex (gA G zC.1) s) (hG : gOK G zC.1) (hT : G.2.2.1.map (fun q => q.2) = zC.2.1) (σ : gS) (p1 : Int32) (p2 : Int32) (out : gS) (hF : fX3_markRun σ p1 p2 = some out) : gCv l yX3_markRun wsX3_markRun rmX3_markRun G zC [.ref (G.2.1 46), .int p1, .int p2] σ out :=
  gEnter (by decide) rfl ⟨rfl, rfl⟩ hG hT (Nat.le_of_ble_eq_true rfl) rfl (fun M X hl => wX3_markRun X hZ σ p1 p2 hF)
noncomputable def fJ0_coder_7d493_K0 (σ : gS) : Option (Int32) :=
  if (1 : Int32) = 0 then none else some (vp_nar .byte (0 : Int32))
noncomputable abbrev rmJ0_coder_7d493 : Room := { frames := 0, cells := 0, slots := 0, locals := 0 }
set_option maxRecDepth 100000 in
set_option maxHeartbeats 4000000 in
theorem wJ0_coder_7d493_K0 {M : gM} {G : gG} {out : Int32} (X : gX M G zC cJ0_coder_7d493 RJ0 1 wsJ0_coder_7d493 rmJ0_coder_7d493 (some .byte)) {ex : gEx} (hZ : ∀ s : State, G.2.2.2 s → kC ex (gA G zC.1) s) (σ : gS) (hF : fJ0_coder_7d493_K0 σ = some out) : WW M (gQi M G zC out σ) G zC 1 σ 0 [(0, .ref (ex.1 0))] [] := by
  unfold fJ0_coder_7d493_K0 at hF
  refine ww_getsE (pc := 0) X (v := .int 1) dJ0_coder_7d493_0 (eC_compact (hZ _ (gXk X))) (List.mem_of_getElem? (i := 1) rfl) rfl ?_
  refine ww_if_eq (pc := 3) (tgt := 13) X dJ0_coder_7d493_3 (by decide) hF (fun h1 hF => ?_) (fun h1 hF => ?_)
  · cases hF
  · refine ww_aload_n (pc := 6) X (j := 0) dJ0_coder_7d493_6 rfl rfl ?_
    refine ww_getE (pc := 7) X dJ0_coder_7d493_7 (eC_coder (hZ _ (gXk X)) 0 (by decide)) (List.mem_of_getElem? (i := 2) rfl) rfl ?_
    refine ww_goto (pc := 10) X (tgt := 14) dJ0_coder_7d493_10 (by decide) ?_
    exact ww_nret (pc := 14) X dJ0_coder_7d493_14 rfl (Option.some.inj hF) rfl
set_option maxRecDepth 100000 in
set_option maxHeartbeats 4000000 in
theorem kJ0_coder_7d493_K0 (l : Launch) (G : gG) {ex : gEx} (hZ : ∀ s : State, G.2.2.2 s → kC ex (gA G zC.1) s) (hG : gOK G zC.1) (hT : G.2.2.1.map (fun q => q.2) = zC.2.1) (σ : gS) (out : Int32) (hF : fJ0_coder_7d493_K0 σ = some out) : gCi l yJ0_coder_7d493 wsJ0_coder_7d493 rmJ0_coder_7d493 G zC [.ref (ex.1 0)] σ out σ :=
  gEnter (by decide) rfl ⟨rfl, rfl⟩ hG hT (Nat.le_of_ble_eq_true rfl) rfl (fun M X hl => wJ0_coder_7d493_K0 X hZ σ hF)
noncomputable def fJ0_length_8abf5_K0 (σ : gS) : Option (Int32) :=
  bd (fJ0_coder_7d493_K0 σ) fun r2 => some (5 >>> (r2 &&& 31))
noncomputable abbrev rmJ0_length_8abf5 : Room := { frames := 1, cells := 0, slots := 0, locals := 20 }
set_option maxRecDepth 100000 in
set_option maxHeartbeats 4000000 in
theorem wJ0_length_8abf5_K0 {M : gM} {G : gG} {out : Int32} (X : gX M G zC cJ0_length_8abf5 RJ0 1 wsJ0_length_8abf5 rmJ0_length_8abf5 (some .int)) {ex : gEx} (hZ : ∀ s : State, G.2.2.2 s → kC ex (gA G zC.1) s) (σ : gS) (hF : fJ0_length_8abf5_K0 σ = some out) : WW M (gQi M G zC out σ) G zC 1 σ 0 [(0, .ref (ex.1 0))] [] := by
  unfold fJ0_length_8abf5_K0 at hF
  refine ww_aload_n (pc := 0) X (j := 0) dJ0_length_8abf5_0 rfl rfl ?_
  refine ww_getE (pc := 1) X dJ0_length_8abf5_1 (eC_value (hZ _ (gXk X)) 0 (by decide)) (List.mem_of_getElem? (i := 1) rfl) rfl ?_
  refine ww_lenE (pc := 4) X (N := 5) (v := 5) dJ0_length_8abf5_4 (eC_bytes (hZ _ (gXk X)) 0 (by decide)) (by decide) ?_
  refine ww_aload_n (pc := 5) X (j := 0) dJ0_length_8abf5_5 rfl rfl ?_
  obtain ⟨r2, h1, hF⟩ := bd_some hF
  refine ww_callXi (pc := 6) X (As := []) (rest := [.int 5]) dJ0_length_8abf5_6 (kJ0_coder_7d493_K0 (mL M) G hZ X.2.2.2.2.2.2.1 X.2.2.2.2.2.2.2.1 σ r2 h1) rfl ((hZ _ (gXk X)).1.1 0 (by decide)).1 gJ0_length_8abf5_J0_coder_7d493 hyJ0_coder_7d493 ⟨rfl, rfl⟩ ⟨Nat.le_of_ble_eq_true rfl, Nat.le_of_ble_eq_true rfl⟩ rfl rfl (Nat.le_of_ble_eq_true rfl) ?_
  refine ww_ishr (pc := 9) X dJ0_length_8abf5_9 ?_
  exact ww_iret (pc := 10) X dJ0_length_8abf5_10 (Option.some.inj hF) rfl
set_option maxRecDepth 100000 in
set_option maxHeartbeats 4000000 in
theorem kJ0_length_8abf5_K0 (l : Launch) (G : gG) {ex : gEx} (hZ : ∀ s : State, G.2.2.2 s → kC ex (gA G zC.1) s) (hG : gOK G zC.1) (hT : G.2.2.1.map (fun q => q.2) = zC.2.1) (σ : gS) (out : Int32) (hF : fJ0_length_8abf5_K0 σ = some out) : gCi l yJ0_length_8abf5 wsJ0_length_8abf5 rmJ0_length_8abf5 G zC [.ref (ex.1 0)] σ out σ :=
  gEnter (by decide) rfl ⟨rfl, rfl⟩ hG hT (Nat.le_of_ble_eq_true rfl) rfl (fun M X hl => wJ0_length_8abf5_K0 X hZ σ hF)
noncomputable def fJ0_isLatin1_aae02_K0 (σ : gS) : Option (Int32) :=
  if (1 : Int32) = 0 then none else if (0 : Int32) = 0 then some 1 else none
noncomputable abbrev rmJ0_isLatin1_aae02 : Room := { frames := 0, cells := 0, slots := 0, locals := 0 }
set_option maxRecDepth 100000 in
set_option maxHeartbeats 4000000 in
theorem wJ0_isLatin1_aae02_K0 {M : gM} {G : gG} {out : Int32} (X : gX M G zC cJ0_isLatin1_aae02 RJ0 1 wsJ0_isLatin1_aae02 rmJ0_isLatin1_aae02 (some .boolean)) {ex : gEx} (hZ : ∀ s : State, G.2.2.2 s → kC ex (gA G zC.1) s) (σ : gS) (hF : fJ0_isLatin1_aae02_K0 σ = some out) : WW M (gQi M G zC out σ) G zC 1 σ 0 [(0, .ref (ex.1 0))] [] := by
  unfold fJ0_isLatin1_aae02_K0 at hF
  refine ww_getsE (pc := 0) X (v := .int 1) dJ0_isLatin1_aae02_0 (eC_compact (hZ _ (gXk X))) (List.mem_of_getElem? (i := 1) rfl) rfl ?_
  refine ww_if_eq (pc := 3) (tgt := 17) X dJ0_isLatin1_aae02_3 (by decide) hF (fun h1 hF => ?_) (fun h1 hF => ?_)
  · cases hF
  · refine ww_aload_n (pc := 6) X (j := 0) dJ0_isLatin1_aae02_6 rfl rfl ?_
    refine ww_getE (pc := 7) X dJ0_isLatin1_aae02_7 (eC_coder (hZ _ (gXk X)) 0 (by decide)) (List.mem_of_getElem? (i := 2) rfl) rfl ?_
    refine ww_if_ne (pc := 10) (tgt := 17) X dJ0_isLatin1_aae02_10 (by decide) hF (fun h2 hF => ?_) (fun h2 hF => ?_)
    · cases hF
    · refine ww_iconst (pc := 13) X (v := 1) dJ0_isLatin1_aae02_13 (by decide) ?_
      refine ww_goto (pc := 14) X (tgt := 18) dJ0_isLatin1_aae02_14 (by decide) ?_
      exact ww_zret (pc := 18) X dJ0_isLatin1_aae02_18 (by cases hF; rfl) rfl
set_option maxRecDepth 100000 in
set_option maxHeartbeats 4000000 in
theorem kJ0_isLatin1_aae02_K0 (l : Launch) (G : gG) {ex : gEx} (hZ : ∀ s : State, G.2.2.2 s → kC ex (gA G zC.1) s) (hG : gOK G zC.1) (hT : G.2.2.1.map (fun q => q.2) = zC.2.1) (σ : gS) (out : Int32) (hF : fJ0_isLatin1_aae02_K0 σ = some out) : gCi l yJ0_isLatin1_aae02 wsJ0_isLatin1_aae02 rmJ0_isLatin1_aae02 G zC [.ref (ex.1 0)] σ out σ :=
  gEnter (by decide) rfl ⟨rfl, rfl⟩ hG hT (Nat.le_of_ble_eq_true rfl) rfl (fun M X hl => wJ0_isLatin1_aae02_K0 X hZ σ hF)
noncomputable def jJ3_checkIndex_8e157_O0_9 (σ : gS) (a0 : Int32) (a1 : Int32) : Option (Int32) :=
  none
noncomputable def fJ3_checkIndex_8e157_O0 (σ : gS) (p0 : Int32) (p1 : Int32) : Option (Int32) :=
  if p0 < 0 then jJ3_checkIndex_8e157_O0_9 σ p0 p1 else if p0 < p1 then some p0 else jJ3_checkIndex_8e157_O0_9 σ p0 p1
noncomputable abbrev rmJ3_checkIndex_8e157 : Room := { frames := 0, cells := 0, slots := 0, locals := 0 }
set_option maxRecDepth 100000 in
set_option maxHeartbeats 4000000 in
theorem wjJ3_checkIndex_8e157_O0_9 {M : gM} {G : gG} {out : Int32} (X : gX M G zC cJ3_checkIndex_8e157 RJ3 3 wsJ3_checkIndex_8e157 rmJ3_checkIndex_8e157 (some .int)) {ex : gEx} (hZ : ∀ s : State, G.2.2.2 s → kC ex (gA G zC.1) s) (σ : gS) (a0 : Int32) (a1 : Int32) (hF : jJ3_checkIndex_8e157_O0_9 σ a0 a1 = some out) : WW M (gQi M G zC out σ) G zC 3 σ 9 [(0, .int a0), (1, .int a1), (2, (gOv ex))] [] := by
  unfold jJ3_checkIndex_8e157_O0_9 at hF
  cases hF
set_option maxRecDepth 100000 in
set_option maxHeartbeats 4000000 in
theorem wJ3_checkIndex_8e157_O0 {M : gM} {G : gG} {out : Int32} (X : gX M G zC cJ3_checkIndex_8e157 RJ3 3 wsJ3_checkIndex_8e157 rmJ3_checkIndex_8e157 (some .int)) {ex : gEx} (hZ : ∀ s : State, G.2.2.2 s → kC ex (gA G zC.1) s) (σ : gS) (p0 : Int32) (p1 : Int32) (hF : fJ3_checkIndex_8e157_O0 σ p0 p1 = some out) : WW M (gQi M G zC out σ) G zC 3 σ 0 [(0, .int p0), (1, .int p1), (2, (gOv ex))] [] := by
  unfold fJ3_checkIndex_8e157_O0 at hF
  refine ww_iload_n (pc := 0) X (j := 0) dJ3_checkIndex_8e157_0 rfl rfl ?_
  refine ww_if_lt (pc := 1) (tgt := 9) X dJ3_checkIndex_8e157_1 (by decide) hF (fun h1 hF => ?_) (fun h1 hF => ?_)
  · exact ww_sub [0, 1, 2] rfl (wjJ3_checkIndex_8e157_O0_9 X hZ σ p0 p1 hF)
  · refine ww_iload_n (pc := 4) X (j := 0) dJ3_checkIndex_8e157_4 rfl rfl ?_
    refine ww_iload_n (pc := 5) X (j := 1) dJ3_checkIndex_8e157_5 rfl rfl ?_
    refine ww_icmp_lt (pc := 6) (tgt := 16) X dJ3_checkIndex_8e157_6 (by decide) hF (fun h2 hF => ?_) (fun h2 hF => ?_)
    · refine ww_iload_n (pc := 16) X (j := 0) dJ3_checkIndex_8e157_16 rfl rfl ?_
      exact ww_iret (pc := 17) X dJ3_checkIndex_8e157_17 (Option.some.inj hF) rfl
    · exact ww_sub [0, 1, 2] rfl (wjJ3_checkIndex_8e157_O0_9 X hZ σ p0 p1 hF)
set_option maxRecDepth 100000 in
set_option maxHeartbeats 4000000 in
theorem kJ3_checkIndex_8e157_O0 (l : Launch) (G : gG) {ex : gEx} (hZ : ∀ s : State, G.2.2.2 s → kC ex (gA G zC.1) s) (hG : gOK G zC.1) (hT : G.2.2.1.map (fun q => q.2) = zC.2.1) (σ : gS) (p0 : Int32) (p1 : Int32) (out : Int32) (hF : fJ3_checkIndex_8e157_O0 σ p0 p1 = some out) : gCi l yJ3_checkIndex_8e157 wsJ3_checkIndex_8e157 rmJ3_checkIndex_8e157 G zC [.int p0, .int p1, (gOv ex)] σ out σ :=
  gEnter (by decide) rfl ⟨rfl, rfl⟩ hG hT (by unfold gOv; cases ex.2.2 0 <;> exact Nat.le_of_ble_eq_true rfl) rfl (fun M X hl => wJ3_checkIndex_8e157_O0 X hZ σ p0 p1 hF)
noncomputable def fJ0_checkIndex_df160 (σ : gS) (p0 : Int32) (p1 : Int32) : Option (Unit) :=
  bd (fJ3_checkIndex_8e157_O0 σ p0 p1) fun r2 => some ()
noncomputable abbrev rmJ0_checkIndex_df160 : Room := { frames := 1, cells := 0, slots := 0, locals := 22 }
set_option maxRecDepth 100000 in
set_option maxHeartbeats 4000000 in
theorem wJ0_checkIndex_df160 {M : gM} {G : gG} {out : Unit} (X : gX M G zC cJ0_checkIndex_df160 RJ0 2 wsJ0_checkIndex_df160 rmJ0_checkIndex_df160 none) {ex : gEx} (hZ : ∀ s : State, G.2.2.2 s → kC ex (gA G zC.1) s) (σ : gS) (p0 : Int32) (p1 : Int32) (hF : fJ0_checkIndex_df160 σ p0 p1 = some out) : WW M (gQv M G zC σ) G zC 2 σ 0 [(0, .int p0), (1, .int p1)] [] := by
  unfold fJ0_checkIndex_df160 at hF
  refine ww_iload_n (pc := 0) X (j := 0) dJ0_checkIndex_df160_0 rfl rfl ?_
  refine ww_iload_n (pc := 1) X (j := 1) dJ0_checkIndex_df160_1 rfl rfl ?_
  refine ww_getsE (pc := 2) X (v := gOv ex) dJ0_checkIndex_df160_2 (eC_fmt (hZ _ (gXk X))) (List.mem_of_getElem? (i := 1) rfl) rfl ?_
  obtain ⟨r2, h1, hF⟩ := bd_some hF
  refine ww_callSi (pc := 5) X (As := [.int p0, .int p1, (gOv ex)]) (rest := []) dJ0_checkIndex_df160_5 (kJ3_checkIndex_8e157_O0 (mL M) G hZ X.2.2.2.2.2.2.1 X.2.2.2.2.2.2.2.1 σ p0 p1 r2 h1) rfl gJ0_checkIndex_df160_J3_checkIndex_8e157 hyJ3_checkIndex_8e157 ⟨rfl, rfl⟩ ⟨Nat.le_of_ble_eq_true rfl, Nat.le_of_ble_eq_true rfl⟩ rfl rfl (Nat.le_of_ble_eq_true rfl) ?_
  refine ww_pop (pc := 8) X dJ0_checkIndex_df160_8 rfl ?_
  exact ww_vret (pc := 9) X dJ0_checkIndex_df160_9 rfl
set_option maxRecDepth 100000 in
set_option maxHeartbeats 4000000 in
theorem kJ0_checkIndex_df160 (l : Launch) (G : gG) {ex : gEx} (hZ : ∀ s : State, G.2.2.2 s → kC ex (gA G zC.1) s) (hG : gOK G zC.1) (hT : G.2.2.1.map (fun q => q.2) = zC.2.1) (σ : gS) (p0 : Int32) (p1 : Int32) (hF : fJ0_checkIndex_df160 σ p0 p1 = some ()) : gCv l yJ0_checkIndex_df160 wsJ0_checkIndex_df160 rmJ0_checkIndex_df160 G zC [.int p0, .int p1] σ σ :=
  gEnter (by decide) rfl ⟨rfl, rfl⟩ hG hT (Nat.le_of_ble_eq_true rfl) rfl (fun M X hl => wJ0_checkIndex_df160 X hZ σ p0 p1 hF)
noncomputable def fJ1_charAt_3b067_V0 (σ : gS) (p1 : Int32) : Option (Int32) :=
  bd (fJ0_checkIndex_df160 σ p1 5) fun u2 => gd (gb p1 5) <| nm ((bytC 0) p1.toNatClampNeg) fun v3 => some (vp_nar .char (((v3 &&& 255).toUInt32 % 65536).toInt32))
noncomputable abbrev rmJ1_charAt_3b067 : Room := { frames := 2, cells := 0, slots := 0, locals := 43 }
set_option maxRecDepth 100000 in
set_option maxHeartbeats 4000000 in
theorem wJ1_charAt_3b067_V0 {M : gM} {G : gG} {out : Int32} (X : gX M G zC cJ1_charAt_3b067 RJ1 2 wsJ1_charAt_3b067 rmJ1_charAt_3b067 (some .char)) {ex : gEx} (hZ : ∀ s : State, G.2.2.2 s → kC ex (gA G zC.1) s) (σ : gS) (p1 : Int32) (hF : fJ1_charAt_3b067_V0 σ p1 = some out) : WW M (gQi M G zC out σ) G zC 2 σ 0 [(0, .ref (ex.2.1 0)), (1, .int p1)] [] := by
  unfold fJ1_charAt_3b067_V0 at hF
  refine ww_iload_n (pc := 0) X (j := 1) dJ1_charAt_3b067_0 rfl rfl ?_
  refine ww_aload_n (pc := 1) X (j := 0) dJ1_charAt_3b067_1 rfl rfl ?_
  refine ww_lenE (pc := 2) X (N := 5) (v := 5) dJ1_charAt_3b067_2 (eC_bytes (hZ _ (gXk X)) 0 (by decide)) (by decide) ?_
  obtain ⟨u2, h1, hF⟩ := bd_some hF
  refine ww_callSv (pc := 3) X (As := [.int p1, .int 5]) (rest := []) dJ1_charAt_3b067_3 (kJ0_checkIndex_df160 (mL M) G hZ X.2.2.2.2.2.2.1 X.2.2.2.2.2.2.2.1 σ p1 5 h1) rfl gJ1_charAt_3b067_J0_checkIndex_df160 hyJ0_checkIndex_df160 ⟨rfl, rfl⟩ ⟨Nat.le_of_ble_eq_true rfl, Nat.le_of_ble_eq_true rfl⟩ rfl rfl (Nat.le_of_ble_eq_true rfl) ?_
  refine ww_aload_n (pc := 6) X (j := 0) dJ1_charAt_3b067_6 rfl rfl ?_
  refine ww_iload_n (pc := 7) X (j := 1) dJ1_charAt_3b067_7 rfl rfl ?_
  refine ww_tbE (pc := 8) X (N := 5) (g := (bytC 0)) dJ1_charAt_3b067_8 (eC_bytes (hZ _ (gXk X)) 0 (by decide)) hF (fun v3 ev3 bv3 hF => ?_)
  refine ww_sipush (pc := 9) X (v := 255) dJ1_charAt_3b067_9 (by decide) ?_
  refine ww_iand (pc := 12) X dJ1_charAt_3b067_12 ?_
  refine ww_i2c (pc := 13) X dJ1_charAt_3b067_13 ?_
  exact ww_nret (pc := 14) X dJ1_charAt_3b067_14 rfl (Option.some.inj hF) rfl
set_option maxRecDepth 100000 in
set_option maxHeartbeats 4000000 in
theorem kJ1_charAt_3b067_V0 (l : Launch) (G : gG) {ex : gEx} (hZ : ∀ s : State, G.2.2.2 s → kC ex (gA G zC.1) s) (hG : gOK G zC.1) (hT : G.2.2.1.map (fun q => q.2) = zC.2.1) (σ : gS) (p1 : Int32) (out : Int32) (hF : fJ1_charAt_3b067_V0 σ p1 = some out) : gCi l yJ1_charAt_3b067 wsJ1_charAt_3b067 rmJ1_charAt_3b067 G zC [.ref (ex.2.1 0), .int p1] σ out σ :=
  gEnter (by decide) rfl ⟨rfl, rfl⟩ hG hT (Nat.le_of_ble_eq_true rfl) rfl (fun M X hl => wJ1_charAt_3b067_V0 X hZ σ p1 hF)
noncomputable def fJ0_charAt_5068e_K0 (σ : gS) (p1 : Int32) : Option (Int32) :=
  bd (fJ0_isLatin1_aae02_K0 σ) fun r2 => (if r2 = 0 then none else bd (fJ1_charAt_3b067_V0 σ p1) fun r5 => some (vp_nar .char r5))
noncomputable abbrev rmJ0_charAt_5068e : Room := { frames := 3, cells := 0, slots := 0, locals := 64 }
set_option maxRecDepth 100000 in
set_option maxHeartbeats 4000000 in
theorem wJ0_charAt_5068e_K0 {M : gM} {G : gG} {out : Int32} (X : gX M G zC cJ0_charAt_5068e RJ0 2 wsJ0_charAt_5068e rmJ0_charAt_5068e (some .char)) {ex : gEx} (hZ : ∀ s : State, G.2.2.2 s → kC ex (gA G zC.1) s) (σ : gS) (p1 : Int32) (hF : fJ0_charAt_5068e_K0 σ p1 = some out) : WW M (gQi M G zC out σ) G zC 2 σ 0 [(0, .ref (ex.1 0)), (1, .int p1)] [] := by
  unfold fJ0_charAt_5068e_K0 at hF
  refine ww_aload_n (pc := 0) X (j := 0) dJ0_charAt_5068e_0 rfl rfl ?_
  obtain ⟨r2, h1, hF⟩ := bd_some hF
  refine ww_callXi (pc := 1) X (As := []) (rest := []) dJ0_charAt_5068e_1 (kJ0_isLatin1_aae02_K0 (mL M) G hZ X.2.2.2.2.2.2.1 X.2.2.2.2.2.2.2.1 σ r2 h1) rfl ((hZ _ (gXk X)).1.1 0 (by decide)).1 gJ0_charAt_5068e_J0_isLatin1_aae02 hyJ0_isLatin1_aae02 ⟨rfl, rfl⟩ ⟨Nat.le_of_ble_eq_true rfl, Nat.le_of_ble_eq_true rfl⟩ rfl rfl (Nat.le_of_ble_eq_true rfl) ?_
  refine ww_if_eq (pc := 4) (tgt := 16) X dJ0_charAt_5068e_4 (by decide) hF (fun h3 hF => ?_) (fun h3 hF => ?_)
  · refine ww_aload_n (pc := 16) X (j := 0) dJ0_charAt_5068e_16 rfl rfl ?_
    refine ww_getE (pc := 17) X dJ0_charAt_5068e_17 (eC_value (hZ _ (gXk X)) 0 (by decide)) (List.mem_of_getElem? (i := 1) rfl) rfl ?_
    refine ww_iload_n (pc := 20) X (j := 1) dJ0_charAt_5068e_20 rfl rfl ?_
    cases hF
  · refine ww_aload_n (pc := 7) X (j := 0) dJ0_charAt_5068e_7 rfl rfl ?_
    refine ww_getE (pc := 8) X dJ0_charAt_5068e_8 (eC_value (hZ _ (gXk X)) 0 (by decide)) (List.mem_of_getElem? (i := 1) rfl) rfl ?_
    refine ww_iload_n (pc := 11) X (j := 1) dJ0_charAt_5068e_11 rfl rfl ?_
    obtain ⟨r5, h4, hF⟩ := bd_some hF
    refine ww_callSi (pc := 12) X (As := [.ref (ex.2.1 0), .int p1]) (rest := []) dJ0_charAt_5068e_12 (kJ1_charAt_3b067_V0 (mL M) G hZ X.2.2.2.2.2.2.1 X.2.2.2.2.2.2.2.1 σ p1 r5 h4) rfl gJ0_charAt_5068e_J1_charAt_3b067 hyJ1_charAt_3b067 ⟨rfl, rfl⟩ ⟨Nat.le_of_ble_eq_true rfl, Nat.le_of_ble_eq_true rfl⟩ rfl rfl (Nat.le_of_ble_eq_true rfl) ?_
    exact ww_nret (pc := 15) X dJ0_charAt_5068e_15 rfl (Option.some.inj hF) rfl
set_option maxRecDepth 100000 in
set_option maxHeartbeats 4000000 in
theorem kJ0_charAt_5068e_K0 (l : Launch) (G : gG) {ex : gEx} (hZ : ∀ s : State, G.2.2.2 s → kC ex (gA G zC.1) s) (hG : gOK G zC.1) (hT : G.2.2.1.map (fun q => q.2) = zC.2.1) (σ : gS) (p1 : Int32) (out : Int32) (hF : fJ0_charAt_5068e_K0 σ p1 = some out) : gCi l yJ0_charAt_5068e wsJ0_charAt_5068e rmJ0_charAt_5068e G zC [.ref (ex.1 0), .int p1] σ out σ :=
  gEnter (by decide) rfl ⟨rfl, rfl⟩ hG hT (Nat.le_of_ble_eq_true rfl) rfl (fun M X hl => wJ0_charAt_5068e_K0 X hZ σ p1 hF)
noncomputable def bX3_isWord_K0_20 (σ : gS) (rec20 : Int32 → Option (Int32)) (a2 : Int32) : Option (Int32) :=
  bd (fJ0_length_8abf5_K0 σ) fun r6 => (if r6 ≤ a2 then some 1 else gd (gb ((σ.1 46 6) + a2) 1600) <| nm (σ.1 1 ((σ.1 46 6) + a2).toNatClampNeg) fun v8 => bd (fJ0_charAt_5068e_K0 σ a2) fun r10 => (if v8 = r10 then nm (a2 + 1 : Int32) fun x12 => rec20 x12 else some 0))
noncomputable def fX3_isWord_K0 (σ : gS) : Option (Int32) :=
  bd (fJ0_length_8abf5_K0 σ) fun r2 => (if ((σ.1 46 7) - (σ.1 46 6)) = r2 then nm (0 : Int32) fun x4 => lpc (S := Int32) K9 (fun rec s => bX3_isWord_K0_20 σ (fun a2 => rec (a2)) s) (x4) else some 0)
noncomputable abbrev rmX3_isWord : Room := { frames := 4, cells := 0, slots := 0, locals := 85 }
set_option maxRecDepth 100000 in
set_option maxHeartbeats 4000000 in
theorem wbX3_isWord_K0_20 {M : gM} {G : gG} {out : Int32} (X : gX M G zC cX3_isWord RX3 3 wsX3_isWord rmX3_isWord (some .boolean)) {ex : gEx} (hZ : ∀ s : State, G.2.2.2 s → kC ex (gA G zC.1) s) (σ : gS) (rec20 : Int32 → Option (Int32)) (ih20 : ∀ (a2 : Int32), rec20 a2 = some out → WW M (gQi M G zC out σ) G zC 3 σ 20 [(0, .ref (G.2.1 46)), (1, .ref (ex.1 0)), (2, .int a2)] []) (a2 : Int32) (hF : bX3_isWord_K0_20 σ rec20 a2 = some out) : WW M (gQi M G zC out σ) G zC 3 σ 20 [(0, .ref (G.2.1 46)), (1, .ref (ex.1 0)), (2, .int a2)] [] := by
  unfold bX3_isWord_K0_20 at hF
  refine ww_iload_n (pc := 20) X (j := 2) dX3_isWord_20 rfl rfl ?_
  refine ww_aload_n (pc := 21) X (j := 1) dX3_isWord_21 rfl rfl ?_
  obtain ⟨r6, h5, hF⟩ := bd_some hF
  refine ww_callXi (pc := 22) X (As := []) (rest := [.int a2]) dX3_isWord_22 (kJ0_length_8abf5_K0 (mL M) G hZ X.2.2.2.2.2.2.1 X.2.2.2.2.2.2.2.1 σ r6 h5) rfl ((hZ _ (gXk X)).1.1 0 (by decide)).1 gX3_isWord_J0_length_8abf5 hyJ0_length_8abf5 ⟨rfl, rfl⟩ ⟨Nat.le_of_ble_eq_true rfl, Nat.le_of_ble_eq_true rfl⟩ rfl rfl (Nat.le_of_ble_eq_true rfl) ?_
  refine ww_icmp_ge (pc := 25) (tgt := 55) X dX3_isWord_25 (by decide) hF (fun h7 hF => ?_) (fun h7 hF => ?_)
  · refine ww_iconst (pc := 55) X (v := 1) dX3_isWord_55 (by decide) ?_
    exact ww_zret (pc := 56) X dX3_isWord_56 (by cases hF; rfl) rfl
  · refine ww_aload_n (pc := 28) X (j := 0) dX3_isWord_28 rfl rfl ?_
    refine ww_get (pc := 29) X (ref := "PictureBlock$Reader") (T := TX3) (j := 0) dX3_isWord_29 inX3_isWord_RX3 shzC_46 clzC_3 (by decide) rfl (List.mem_of_getElem? (i := 3) rfl) rfl ?_
    refine ww_aload_n (pc := 32) X (j := 0) dX3_isWord_32 rfl rfl ?_
    refine ww_get (pc := 33) X (ref := "PictureBlock$Reader") (T := TX3) (j := 6) dX3_isWord_33 inX3_isWord_RX3 shzC_46 clzC_3 (by decide) rfl (List.mem_of_getElem? (i := 2) rfl) rfl ?_
    refine ww_iload_n (pc := 36) X (j := 2) dX3_isWord_36 rfl rfl ?_
    refine ww_iadd (pc := 37) X dX3_isWord_37 ?_
    refine ww_iald (pc := 38) X dX3_isWord_38 shzC_1 rfl hF (fun v8 ev8 bv8 hF => ?_)
    refine ww_aload_n (pc := 39) X (j := 1) dX3_isWord_39 rfl rfl ?_
    refine ww_iload_n (pc := 40) X (j := 2) dX3_isWord_40 rfl rfl ?_
    obtain ⟨r10, h9, hF⟩ := bd_some hF
    refine ww_callXi (pc := 41) X (As := [.int a2]) (rest := [.int v8]) dX3_isWord_41 (kJ0_charAt_5068e_K0 (mL M) G hZ X.2.2.2.2.2.2.1 X.2.2.2.2.2.2.2.1 σ a2 r10 h9) rfl ((hZ _ (gXk X)).1.1 0 (by decide)).1 gX3_isWord_J0_charAt_5068e hyJ0_charAt_5068e ⟨rfl, rfl⟩ ⟨Nat.le_of_ble_eq_true rfl, Nat.le_of_ble_eq_true rfl⟩ rfl rfl (Nat.le_of_ble_eq_true rfl) ?_
    refine ww_icmp_eq (pc := 44) (tgt := 49) X dX3_isWord_44 (by decide) hF (fun h11 hF => ?_) (fun h11 hF => ?_)
    · refine ww_iinc (pc := 49) X (j := 2) (v := 1) (lv' := [(0, .ref (G.2.1 46)), (1, .ref (ex.1 0))]) dX3_isWord_49 rfl rfl (by decide) rfl hF (fun x12 ex12 hF => ?_)
      refine ww_goto (pc := 52) X (tgt := 20) dX3_isWord_52 (by decide) ?_
      exact ww_sub [1, 2, 0] rfl (ih20 x12 hF)
    · refine ww_iconst (pc := 47) X (v := 0) dX3_isWord_47 (by decide) ?_
      exact ww_zret (pc := 48) X dX3_isWord_48 (by cases hF; rfl) rfl
set_option maxRecDepth 100000 in
set_option maxHeartbeats 4000000 in
theorem wX3_isWord_K0 {M : gM} {G : gG} {out : Int32} (X : gX M G zC cX3_isWord RX3 3 wsX3_isWord rmX3_isWord (some .boolean)) {ex : gEx} (hZ : ∀ s : State, G.2.2.2 s → kC ex (gA G zC.1) s) (σ : gS) (hF : fX3_isWord_K0 σ = some out) : WW M (gQi M G zC out σ) G zC 3 σ 0 [(0, .ref (G.2.1 46)), (1, .ref (ex.1 0))] [] := by
  unfold fX3_isWord_K0 at hF
  refine ww_aload_n (pc := 0) X (j := 0) dX3_isWord_0 rfl rfl ?_
  refine ww_get (pc := 1) X (ref := "PictureBlock$Reader") (T := TX3) (j := 7) dX3_isWord_1 inX3_isWord_RX3 shzC_46 clzC_3 (by decide) rfl (List.mem_of_getElem? (i := 1) rfl) rfl ?_
  refine ww_aload_n (pc := 4) X (j := 0) dX3_isWord_4 rfl rfl ?_
  refine ww_get (pc := 5) X (ref := "PictureBlock$Reader") (T := TX3) (j := 6) dX3_isWord_5 inX3_isWord_RX3 shzC_46 clzC_3 (by decide) rfl (List.mem_of_getElem? (i := 2) rfl) rfl ?_
  refine ww_isub (pc := 8) X dX3_isWord_8 ?_
  refine ww_aload_n (pc := 9) X (j := 1) dX3_isWord_9 rfl rfl ?_
  obtain ⟨r2, h1, hF⟩ := bd_some hF
  refine ww_callXi (pc := 10) X (As := []) (rest := [.int ((σ.1 46 7) - (σ.1 46 6))]) dX3_isWord_10 (kJ0_length_8abf5_K0 (mL M) G hZ X.2.2.2.2.2.2.1 X.2.2.2.2.2.2.2.1 σ r2 h1) rfl ((hZ _ (gXk X)).1.1 0 (by decide)).1 gX3_isWord_J0_length_8abf5 hyJ0_length_8abf5 ⟨rfl, rfl⟩ ⟨Nat.le_of_ble_eq_true rfl, Nat.le_of_ble_eq_true rfl⟩ rfl rfl (Nat.le_of_ble_eq_true rfl) ?_
  refine ww_icmp_eq (pc := 13) (tgt := 18) X dX3_isWord_13 (by decide) hF (fun h3 hF => ?_) (fun h3 hF => ?_)
  · refine ww_iconst (pc := 18) X (v := 0) dX3_isWord_18 (by decide) ?_
    refine ww_istore_n (pc := 19) X (lv' := [(0, .ref (G.2.1 46)), (1, .ref (ex.1 0))]) dX3_isWord_19 rfl (by decide) rfl hF (fun x4 ex4 hF => ?_)
    exact ww_sub [1, 2, 0] rfl (lpc_ind (P := (fun (s : Int32) => WW M (gQi M G zC out σ) G zC 3 σ 20 [(0, .ref (G.2.1 46)), (1, .ref (ex.1 0)), (2, .int s)] [])) (fun rec s ih hF => wbX3_isWord_K0_20 X hZ σ (fun a2 => rec (a2)) (fun a2 h => ih (a2) h) s hF) K9 (x4) hF)
  · refine ww_iconst (pc := 16) X (v := 0) dX3_isWord_16 (by decide) ?_
    exact ww_zret (pc := 17) X dX3_isWord_17 (by cases hF; rfl) rfl
set_option maxRecDepth 100000 in
set_option maxHeartbeats 4000000 in
theorem kX3_isWord_K0 (l : Launch) (G : gG) {ex : gEx} (hZ : ∀ s : State, G.2.2.2 s → kC ex (gA G zC.1) s) (hG : gOK G zC.1) (hT : G.2.2.1.map (fun q => q.2) = zC.2.1) (σ : gS) (out : Int32) (hF : fX3_isWord_K0 σ = some out) : gCi l yX3_isWord wsX3_isWord rmX3_isWord G zC [.ref (G.2.1 46), .ref (ex.1 0)] σ out σ :=
  gEnter (by decide) rfl ⟨rfl, rfl⟩ hG hT (Nat.le_of_ble_eq_true rfl) rfl (fun M X hl => wX3_isWord_K0 X hZ σ hF)
noncomputable def fJ0_coder_7d493_K1 (σ : gS) : Option (Int32) :=
  if (1 : Int32) = 0 then none else some (vp_nar .byte (0 : Int32))
set_option maxRecDepth 100000 in
set_option maxHeartbeats 4000000 in
theorem wJ0_coder_7d493_K1 {M : gM} {G : gG} {out : Int32} (X : gX M G zC cJ0_coder_7d493 RJ0 1 wsJ0_coder_7d493 rmJ0_coder_7d493 (some .byte)) {ex : gEx} (hZ : ∀ s : State, G.2.2.2 s → kC ex (gA G zC.1) s) (σ : gS) (hF : fJ0_coder_7d493_K1 σ = some out) : WW M (gQi M G zC out σ) G zC 1 σ 0 [(0, .ref (ex.1 1))] [] := by
  unfold fJ0_coder_7d493_K1 at hF
  refine ww_getsE (pc := 0) X (v := .int 1) dJ0_coder_7d493_0 (eC_compact (hZ _ (gXk X))) (List.mem_of_getElem? (i := 1) rfl) rfl ?_
  refine ww_if_eq (pc := 3) (tgt := 13) X dJ0_coder_7d493_3 (by decide) hF (fun h1 hF => ?_) (fun h1 hF => ?_)
  · cases hF
  · refine ww_aload_n (pc := 6) X (j := 0) dJ0_coder_7d493_6 rfl rfl ?_
    refine ww_getE (pc := 7) X dJ0_coder_7d493_7 (eC_coder (hZ _ (gXk X)) 1 (by decide)) (List.mem_of_getElem? (i := 2) rfl) rfl ?_
    refine ww_goto (pc := 10) X (tgt := 14) dJ0_coder_7d493_10 (by decide) ?_
    exact ww_nret (pc := 14) X dJ0_coder_7d493_14 rfl (Option.some.inj hF) rfl
set_option maxRecDepth 100000 in
set_option maxHeartbeats 4000000 in
theorem kJ0_coder_7d493_K1 (l : Launch) (G : gG) {ex : gEx} (hZ : ∀ s : State, G.2.2.2 s → kC ex (gA G zC.1) s) (hG : gOK G zC.1) (hT : G.2.2.1.map (fun q => q.2) = zC.2.1) (σ : gS) (out : Int32) (hF : fJ0_coder_7d493_K1 σ = some out) : gCi l yJ0_coder_7d493 wsJ0_coder_7d493 rmJ0_coder_7d493 G zC [.ref (ex.1 1)] σ out σ :=
  gEnter (by decide) rfl ⟨rfl, rfl⟩ hG hT (Nat.le_of_ble_eq_true rfl) rfl (fun M X hl => wJ0_coder_7d493_K1 X hZ σ hF)
noncomputable def fJ0_length_8abf5_K1 (σ : gS) : Option (Int32) :=
  bd (fJ0_coder_7d493_K1 σ) fun r2 => some (7 >>> (r2 &&& 31))
set_option maxRecDepth 100000 in
set_option maxHeartbeats 4000000 in
theorem wJ0_length_8abf5_K1 {M : gM} {G : gG} {out : Int32} (X : gX M G zC cJ0_length_8abf5 RJ0 1 wsJ0_length_8abf5 rmJ0_length_8abf5 (some .int)) {ex : gEx} (hZ : ∀ s : State, G.2.2.2 s → kC ex (gA G zC.1) s) (σ : gS) (hF : fJ0_length_8abf5_K1 σ = some out) : WW M (gQi M G zC out σ) G zC 1 σ 0 [(0, .ref (ex.1 1))] [] := by
  unfold fJ0_length_8abf5_K1 at hF
  refine ww_aload_n (pc := 0) X (j := 0) dJ0_length_8abf5_0 rfl rfl ?_
  refine ww_getE (pc := 1) X dJ0_length_8abf5_1 (eC_value (hZ _ (gXk X)) 1 (by decide)) (List.mem_of_getElem? (i := 1) rfl) rfl ?_
  refine ww_lenE (pc := 4) X (N := 7) (v := 7) dJ0_length_8abf5_4 (eC_bytes (hZ _ (gXk X)) 1 (by decide)) (by decide) ?_
  refine ww_aload_n (pc := 5) X (j := 0) dJ0_length_8abf5_5 rfl rfl ?_
  obtain ⟨r2, h1, hF⟩ := bd_some hF
  refine ww_callXi (pc := 6) X (As := []) (rest := [.int 7]) dJ0_length_8abf5_6 (kJ0_coder_7d493_K1 (mL M) G hZ X.2.2.2.2.2.2.1 X.2.2.2.2.2.2.2.1 σ r2 h1) rfl ((hZ _ (gXk X)).1.1 1 (by decide)).1 gJ0_length_8abf5_J0_coder_7d493 hyJ0_coder_7d493 ⟨rfl, rfl⟩ ⟨Nat.le_of_ble_eq_true rfl, Nat.le_of_ble_eq_true rfl⟩ rfl rfl (Nat.le_of_ble_eq_true rfl) ?_
  refine ww_ishr (pc := 9) X dJ0_length_8abf5_9 ?_
  exact ww_iret (pc := 10) X dJ0_length_8abf5_10 (Option.some.inj hF) rfl
set_option maxRecDepth 100000 in
set_option maxHeartbeats 4000000 in
theorem kJ0_length_8abf5_K1 (l : Launch) (G : gG) {ex : gEx} (hZ : ∀ s : State, G.2.2.2 s → kC ex (gA G zC.1) s) (hG : gOK G zC.1) (hT : G.2.2.1.map (fun q => q.2) = zC.2.1) (σ : gS) (out : Int32) (hF : fJ0_length_8abf5_K1 σ = some out) : gCi l yJ0_length_8abf5 wsJ0_length_8abf5 rmJ0_length_8abf5 G zC [.ref (ex.1 1)] σ out σ :=
  gEnter (by decide) rfl ⟨rfl, rfl⟩ hG hT (Nat.le_of_ble_eq_true rfl) rfl (fun M X hl => wJ0_length_8abf5_K1 X hZ σ hF)
noncomputable def fJ0_isLatin1_aae02_K1 (σ : gS) : Option (Int32) :=
  if (1 : Int32) = 0 then none else if (0 : Int32) = 0 then some 1 else none
set_option maxRecDepth 100000 in
set_option maxHeartbeats 4000000 in
theorem wJ0_isLatin1_aae02_K1 {M : gM} {G : gG} {out : Int32} (X : gX M G zC cJ0_isLatin1_aae02 RJ0 1 wsJ0_isLatin1_aae02 rmJ0_isLatin1_aae02 (some .boolean)) {ex : gEx} (hZ : ∀ s : State, G.2.2.2 s → kC ex (gA G zC.1) s) (σ : gS) (hF : fJ0_isLatin1_aae02_K1 σ = some out) : WW M (gQi M G zC out σ) G zC 1 σ 0 [(0, .ref (ex.1 1))] [] := by
  unfold fJ0_isLatin1_aae02_K1 at hF
  refine ww_getsE (pc := 0) X (v := .int 1) dJ0_isLatin1_aae02_0 (eC_compact (hZ _ (gXk X))) (List.mem_of_getElem? (i := 1) rfl) rfl ?_
  refine ww_if_eq (pc := 3) (tgt := 17) X dJ0_isLatin1_aae02_3 (by decide) hF (fun h1 hF => ?_) (fun h1 hF => ?_)
  · cases hF
  · refine ww_aload_n (pc := 6) X (j := 0) dJ0_isLatin1_aae02_6 rfl rfl ?_
    refine ww_getE (pc := 7) X dJ0_isLatin1_aae02_7 (eC_coder (hZ _ (gXk X)) 1 (by decide)) (List.mem_of_getElem? (i := 2) rfl) rfl ?_
    refine ww_if_ne (pc := 10) (tgt := 17) X dJ0_isLatin1_aae02_10 (by decide) hF (fun h2 hF => ?_) (fun h2 hF => ?_)
    · cases hF
    · refine ww_iconst (pc := 13) X (v := 1) dJ0_isLatin1_aae02_13 (by decide) ?_
      refine ww_goto (pc := 14) X (tgt := 18) dJ0_isLatin1_aae02_14 (by decide) ?_
      exact ww_zret (pc := 18) X dJ0_isLatin1_aae02_18 (by cases hF; rfl) rfl
set_option maxRecDepth 100000 in
set_option maxHeartbeats 4000000 in
theorem kJ0_isLatin1_aae02_K1 (l : Launch) (G : gG) {ex : gEx} (hZ : ∀ s : State, G.2.2.2 s → kC ex (gA G zC.1) s) (hG : gOK G zC.1) (hT : G.2.2.1.map (fun q => q.2) = zC.2.1) (σ : gS) (out : Int32) (hF : fJ0_isLatin1_aae02_K1 σ = some out) : gCi l yJ0_isLatin1_aae02 wsJ0_isLatin1_aae02 rmJ0_isLatin1_aae02 G zC [.ref (ex.1 1)] σ out σ :=
  gEnter (by decide) rfl ⟨rfl, rfl⟩ hG hT (Nat.le_of_ble_eq_true rfl) rfl (fun M X hl => wJ0_isLatin1_aae02_K1 X hZ σ hF)
noncomputable def fJ1_charAt_3b067_V1 (σ : gS) (p1 : Int32) : Option (Int32) :=
  bd (fJ0_checkIndex_df160 σ p1 7) fun u2 => gd (gb p1 7) <| nm ((bytC 1) p1.toNatClampNeg) fun v3 => some (vp_nar .char (((v3 &&& 255).toUInt32 % 65536).toInt32))
set_option maxRecDepth 100000 in
set_option maxHeartbeats 4000000 in
theorem wJ1_charAt_3b067_V1 {M : gM} {G : gG} {out : Int32} (X : gX M G zC cJ1_charAt_3b067 RJ1 2 wsJ1_charAt_3b067 rmJ1_charAt_3b067 (some .char)) {ex : gEx} (hZ : ∀ s : State, G.2.2.2 s → kC ex (gA G zC.1) s) (σ : gS) (p1 : Int32) (hF : fJ1_charAt_3b067_V1 σ p1 = some out) : WW M (gQi M G zC out σ) G zC 2 σ 0 [(0, .ref (ex.2.1 1)), (1, .int p1)] [] := by
  unfold fJ1_charAt_3b067_V1 at hF
  refine ww_iload_n (pc := 0) X (j := 1) dJ1_charAt_3b067_0 rfl rfl ?_
  refine ww_aload_n (pc := 1) X (j := 0) dJ1_charAt_3b067_1 rfl rfl ?_
  refine ww_lenE (pc := 2) X (N := 7) (v := 7) dJ1_charAt_3b067_2 (eC_bytes (hZ _ (gXk X)) 1 (by decide)) (by decide) ?_
  obtain ⟨u2, h1, hF⟩ := bd_some hF
  refine ww_callSv (pc := 3) X (As := [.int p1, .int 7]) (rest := []) dJ1_charAt_3b067_3 (kJ0_checkIndex_df160 (mL M) G hZ X.2.2.2.2.2.2.1 X.2.2.2.2.2.2.2.1 σ p1 7 h1) rfl gJ1_charAt_3b067_J0_checkIndex_df160 hyJ0_checkIndex_df160 ⟨rfl, rfl⟩ ⟨Nat.le_of_ble_eq_true rfl, Nat.le_of_ble_eq_true rfl⟩ rfl rfl (Nat.le_of_ble_eq_true rfl) ?_
  refine ww_aload_n (pc := 6) X (j := 0) dJ1_charAt_3b067_6 rfl rfl ?_
  refine ww_iload_n (pc := 7) X (j := 1) dJ1_charAt_3b067_7 rfl rfl ?_
  refine ww_tbE (pc := 8) X (N := 7) (g := (bytC 1)) dJ1_charAt_3b067_8 (eC_bytes (hZ _ (gXk X)) 1 (by decide)) hF (fun v3 ev3 bv3 hF => ?_)
  refine ww_sipush (pc := 9) X (v := 255) dJ1_charAt_3b067_9 (by decide) ?_
  refine ww_iand (pc := 12) X dJ1_charAt_3b067_12 ?_
  refine ww_i2c (pc := 13) X dJ1_charAt_3b067_13 ?_
  exact ww_nret (pc := 14) X dJ1_charAt_3b067_14 rfl (Option.some.inj hF) rfl
set_option maxRecDepth 100000 in
set_option maxHeartbeats 4000000 in
theorem kJ1_charAt_3b067_V1 (l : Launch) (G : gG) {ex : gEx} (hZ : ∀ s : State, G.2.2.2 s → kC ex (gA G zC.1) s) (hG : gOK G zC.1) (hT : G.2.2.1.map (fun q => q.2) = zC.2.1) (σ : gS) (p1 : Int32) (out : Int32) (hF : fJ1_charAt_3b067_V1 σ p1 = some out) : gCi l yJ1_charAt_3b067 wsJ1_charAt_3b067 rmJ1_charAt_3b067 G zC [.ref (ex.2.1 1), .int p1] σ out σ :=
  gEnter (by decide) rfl ⟨rfl, rfl⟩ hG hT (Nat.le_of_ble_eq_true rfl) rfl (fun M X hl => wJ1_charAt_3b067_V1 X hZ σ p1 hF)
noncomputable def fJ0_charAt_5068e_K1 (σ : gS) (p1 : Int32) : Option (Int32) :=
  bd (fJ0_isLatin1_aae02_K1 σ) fun r2 => (if r2 = 0 then none else bd (fJ1_charAt_3b067_V1 σ p1) fun r5 => some (vp_nar .char r5))
set_option maxRecDepth 100000 in
set_option maxHeartbeats 4000000 in
theorem wJ0_charAt_5068e_K1 {M : gM} {G : gG} {out : Int32} (X : gX M G zC cJ0_charAt_5068e RJ0 2 wsJ0_charAt_5068e rmJ0_charAt_5068e (some .char)) {ex : gEx} (hZ : ∀ s : State, G.2.2.2 s → kC ex (gA G zC.1) s) (σ : gS) (p1 : Int32) (hF : fJ0_charAt_5068e_K1 σ p1 = some out) : WW M (gQi M G zC out σ) G zC 2 σ 0 [(0, .ref (ex.1 1)), (1, .int p1)] [] := by
  unfold fJ0_charAt_5068e_K1 at hF
  refine ww_aload_n (pc := 0) X (j := 0) dJ0_charAt_5068e_0 rfl rfl ?_
  obtain ⟨r2, h1, hF⟩ := bd_some hF
  refine ww_callXi (pc := 1) X (As := []) (rest := []) dJ0_charAt_5068e_1 (kJ0_isLatin1_aae02_K1 (mL M) G hZ X.2.2.2.2.2.2.1 X.2.2.2.2.2.2.2.1 σ r2 h1) rfl ((hZ _ (gXk X)).1.1 1 (by decide)).1 gJ0_charAt_5068e_J0_isLatin1_aae02 hyJ0_isLatin1_aae02 ⟨rfl, rfl⟩ ⟨Nat.le_of_ble_eq_true rfl, Nat.le_of_ble_eq_true rfl⟩ rfl rfl (Nat.le_of_ble_eq_true rfl) ?_
  refine ww_if_eq (pc := 4) (tgt := 16) X dJ0_charAt_5068e_4 (by decide) hF (fun h3 hF => ?_) (fun h3 hF => ?_)
  · refine ww_aload_n (pc := 16) X (j := 0) dJ0_charAt_5068e_16 rfl rfl ?_
    refine ww_getE (pc := 17) X dJ0_charAt_5068e_17 (eC_value (hZ _ (gXk X)) 1 (by decide)) (List.mem_of_getElem? (i := 1) rfl) rfl ?_
    refine ww_iload_n (pc := 20) X (j := 1) dJ0_charAt_5068e_20 rfl rfl ?_
    cases hF
  · refine ww_aload_n (pc := 7) X (j := 0) dJ0_charAt_5068e_7 rfl rfl ?_
    refine ww_getE (pc := 8) X dJ0_charAt_5068e_8 (eC_value (hZ _ (gXk X)) 1 (by decide)) (List.mem_of_getElem? (i := 1) rfl) rfl ?_
    refine ww_iload_n (pc := 11) X (j := 1) dJ0_charAt_5068e_11 rfl rfl ?_
    obtain ⟨r5, h4, hF⟩ := bd_some hF
    refine ww_callSi (pc := 12) X (As := [.ref (ex.2.1 1), .int p1]) (rest := []) dJ0_charAt_5068e_12 (kJ1_charAt_3b067_V1 (mL M) G hZ X.2.2.2.2.2.2.1 X.2.2.2.2.2.2.2.1 σ p1 r5 h4) rfl gJ0_charAt_5068e_J1_charAt_3b067 hyJ1_charAt_3b067 ⟨rfl, rfl⟩ ⟨Nat.le_of_ble_eq_true rfl, Nat.le_of_ble_eq_true rfl⟩ rfl rfl (Nat.le_of_ble_eq_true rfl) ?_
    exact ww_nret (pc := 15) X dJ0_charAt_5068e_15 rfl (Option.some.inj hF) rfl
set_option maxRecDepth 100000 in
set_option maxHeartbeats 4000000 in
theorem kJ0_charAt_5068e_K1 (l : Launch) (G : gG) {ex : gEx} (hZ : ∀ s : State, G.2.2.2 s → kC ex (gA G zC.1) s) (hG : gOK G zC.1) (hT : G.2.2.1.map (fun q => q.2) = zC.2.1) (σ : gS) (p1 : Int32) (out : Int32) (hF : fJ0_charAt_5068e_K1 σ p1 = some out) : gCi l yJ0_charAt_5068e wsJ0_charAt_5068e rmJ0_charAt_5068e G zC [.ref (ex.1 1), .int p1] σ out σ :=
  gEnter (by decide) rfl ⟨rfl, rfl⟩ hG hT (Nat.le_of_ble_eq_true rfl) rfl (fun M X hl => wJ0_charAt_5068e_K1 X hZ σ p1 hF)
noncomputable def bX3_isWord_K1_20 (σ : gS) (rec20 : Int32 → Option (Int32)) (a2 : Int32) : Option (Int32) :=
  bd (fJ0_length_8abf5_K1 σ) fun r6 => (if r6 ≤ a2 then some 1 else gd (gb ((σ.1 46 6) + a2) 1600) <| nm (σ.1 1 ((σ.1 46 6) + a2).toNatClampNeg) fun v8 => bd (fJ0_charAt_5068e_K1 σ a2) fun r10 => (if v8 = r10 then nm (a2 + 1 : Int32) fun x12 => rec20 x12 else some 0))
noncomputable def fX3_isWord_K1 (σ : gS) : Option (Int32) :=
  bd (fJ0_length_8abf5_K1 σ) fun r2 => (if ((σ.1 46 7) - (σ.1 46 6)) = r2 then nm (0 : Int32) fun x4 => lpc (S := Int32) K9 (fun rec s => bX3_isWord_K1_20 σ (fun a2 => rec (a2)) s) (x4) else some 0)
set_option maxRecDepth 100000 in
set_option maxHeartbeats 4000000 in
theorem wbX3_isWord_K1_20 {M : gM} {G : gG} {out : Int32} (X : gX M G zC cX3_isWord RX3 3 wsX3_isWord rmX3_isWord (some .boolean)) {ex : gEx} (hZ : ∀ s : State, G.2.2.2 s → kC ex (gA G zC.1) s) (σ : gS) (rec20 : Int32 → Option (Int32)) (ih20 : ∀ (a2 : Int32), rec20 a2 = some out → WW M (gQi M G zC out σ) G zC 3 σ 20 [(0, .ref (G.2.1 46)), (1, .ref (ex.1 1)), (2, .int a2)] []) (a2 : Int32) (hF : bX3_isWord_K1_20 σ rec20 a2 = some out) : WW M (gQi M G zC out σ) G zC 3 σ 20 [(0, .ref (G.2.1 46)), (1, .ref (ex.1 1)), (2, .int a2)] [] := by
  unfold bX3_isWord_K1_20 at hF
  refine ww_iload_n (pc := 20) X (j := 2) dX3_isWord_20 rfl rfl ?_
  refine ww_aload_n (pc := 21) X (j := 1) dX3_isWord_21 rfl rfl ?_
  obtain ⟨r6, h5, hF⟩ := bd_some hF
  refine ww_callXi (pc := 22) X (As := []) (rest := [.int a2]) dX3_isWord_22 (kJ0_length_8abf5_K1 (mL M) G hZ X.2.2.2.2.2.2.1 X.2.2.2.2.2.2.2.1 σ r6 h5) rfl ((hZ _ (gXk X)).1.1 1 (by decide)).1 gX3_isWord_J0_length_8abf5 hyJ0_length_8abf5 ⟨rfl, rfl⟩ ⟨Nat.le_of_ble_eq_true rfl, Nat.le_of_ble_eq_true rfl⟩ rfl rfl (Nat.le_of_ble_eq_true rfl) ?_
  refine ww_icmp_ge (pc := 25) (tgt := 55) X dX3_isWord_25 (by decide) hF (fun h7 hF => ?_) (fun h7 hF => ?_)
  · refine ww_iconst (pc := 55) X (v := 1) dX3_isWord_55 (by decide) ?_
    exact ww_zret (pc := 56) X dX3_isWord_56 (by cases hF; rfl) rfl
  · refine ww_aload_n (pc := 28) X (j := 0) dX3_isWord_28 rfl rfl ?_
    refine ww_get (pc := 29) X (ref := "PictureBlock$Reader") (T := TX3) (j := 0) dX3_isWord_29 inX3_isWord_RX3 shzC_46 clzC_3 (by decide) rfl (List.mem_of_getElem? (i := 3) rfl) rfl ?_
    refine ww_aload_n (pc := 32) X (j := 0) dX3_isWord_32 rfl rfl ?_
    refine ww_get (pc := 33) X (ref := "PictureBlock$Reader") (T := TX3) (j := 6) dX3_isWord_33 inX3_isWord_RX3 shzC_46 clzC_3 (by decide) rfl (List.mem_of_getElem? (i := 2) rfl) rfl ?_
    refine ww_iload_n (pc := 36) X (j := 2) dX3_isWord_36 rfl rfl ?_
    refine ww_iadd (pc := 37) X dX3_isWord_37 ?_
    refine ww_iald (pc := 38) X dX3_isWord_38 shzC_1 rfl hF (fun v8 ev8 bv8 hF => ?_)
    refine ww_aload_n (pc := 39) X (j := 1) dX3_isWord_39 rfl rfl ?_
    refine ww_iload_n (pc := 40) X (j := 2) dX3_isWord_40 rfl rfl ?_
    obtain ⟨r10, h9, hF⟩ := bd_some hF
    refine ww_callXi (pc := 41) X (As := [.int a2]) (rest := [.int v8]) dX3_isWord_41 (kJ0_charAt_5068e_K1 (mL M) G hZ X.2.2.2.2.2.2.1 X.2.2.2.2.2.2.2.1 σ a2 r10 h9) rfl ((hZ _ (gXk X)).1.1 1 (by decide)).1 gX3_isWord_J0_charAt_5068e hyJ0_charAt_5068e ⟨rfl, rfl⟩ ⟨Nat.le_of_ble_eq_true rfl, Nat.le_of_ble_eq_true rfl⟩ rfl rfl (Nat.le_of_ble_eq_true rfl) ?_
    refine ww_icmp_eq (pc := 44) (tgt := 49) X dX3_isWord_44 (by decide) hF (fun h11 hF => ?_) (fun h11 hF => ?_)
    · refine ww_iinc (pc := 49) X (j := 2) (v := 1) (lv' := [(0, .ref (G.2.1 46)), (1, .ref (ex.1 1))]) dX3_isWord_49 rfl rfl (by decide) rfl hF (fun x12 ex12 hF => ?_)
      refine ww_goto (pc := 52) X (tgt := 20) dX3_isWord_52 (by decide) ?_
      exact ww_sub [1, 2, 0] rfl (ih20 x12 hF)
    · refine ww_iconst (pc := 47) X (v := 0) dX3_isWord_47 (by decide) ?_
      exact ww_zret (pc := 48) X dX3_isWord_48 (by cases hF; rfl) rfl
set_option maxRecDepth 100000 in
set_option maxHeartbeats 4000000 in
theorem wX3_isWord_K1 {M : gM} {G : gG} {out : Int32} (X : gX M G zC cX3_isWord RX3 3 wsX3_isWord rmX3_isWord (some .boolean)) {ex : gEx} (hZ : ∀ s : State, G.2.2.2 s → kC ex (gA G zC.1) s) (σ : gS) (hF : fX3_isWord_K1 σ = some out) : WW M (gQi M G zC out σ) G zC 3 σ 0 [(0, .ref (G.2.1 46)), (1, .ref (ex.1 1))] [] := by
  unfold fX3_isWord_K1 at hF
  refine ww_aload_n (pc := 0) X (j := 0) dX3_isWord_0 rfl rfl ?_
  refine ww_get (pc := 1) X (ref := "PictureBlock$Reader") (T := TX3) (j := 7) dX3_isWord_1 inX3_isWord_RX3 shzC_46 clzC_3 (by decide) rfl (List.mem_of_getElem? (i := 1) rfl) rfl ?_
  refine ww_aload_n (pc := 4) X (j := 0) dX3_isWord_4 rfl rfl ?_
  refine ww_get (pc := 5) X (ref := "PictureBlock$Reader") (T := TX3) (j := 6) dX3_isWord_5 inX3_isWord_RX3 shzC_46 clzC_3 (by decide) rfl (List.mem_of_getElem? (i := 2) rfl) rfl ?_
  refine ww_isub (pc := 8) X dX3_isWord_8 ?_
  refine ww_aload_n (pc := 9) X (j := 1) dX3_isWord_9 rfl rfl ?_
  obtain ⟨r2, h1, hF⟩ := bd_some hF
  refine ww_callXi (pc := 10) X (As := []) (rest := [.int ((σ.1 46 7) - (σ.1 46 6))]) dX3_isWord_10 (kJ0_length_8abf5_K1 (mL M) G hZ X.2.2.2.2.2.2.1 X.2.2.2.2.2.2.2.1 σ r2 h1) rfl ((hZ _ (gXk X)).1.1 1 (by decide)).1 gX3_isWord_J0_length_8abf5 hyJ0_length_8abf5 ⟨rfl, rfl⟩ ⟨Nat.le_of_ble_eq_true rfl, Nat.le_of_ble_eq_true rfl⟩ rfl rfl (Nat.le_of_ble_eq_true rfl) ?_
  refine ww_icmp_eq (pc := 13) (tgt := 18) X dX3_isWord_13 (by decide) hF (fun h3 hF => ?_) (fun h3 hF => ?_)
  · refine ww_iconst (pc := 18) X (v := 0) dX3_isWord_18 (by decide) ?_
    refine ww_istore_n (pc := 19) X (lv' := [(0, .ref (G.2.1 46)), (1, .ref (ex.1 1))]) dX3_isWord_19 rfl (by decide) rfl hF (fun x4 ex4 hF => ?_)
    exact ww_sub [1, 2, 0] rfl (lpc_ind (P := (fun (s : Int32) => WW M (gQi M G zC out σ) G zC 3 σ 20 [(0, .ref (G.2.1 46)), (1, .ref (ex.1 1)), (2, .int s)] [])) (fun rec s ih hF => wbX3_isWord_K1_20 X hZ σ (fun a2 => rec (a2)) (fun a2 h => ih (a2) h) s hF) K9 (x4) hF)
  · refine ww_iconst (pc := 16) X (v := 0) dX3_isWord_16 (by decide) ?_
    exact ww_zret (pc := 17) X dX3_isWord_17 (by cases hF; rfl) rfl
set_option maxRecDepth 100000 in
set_option maxHeartbeats 4000000 in
theorem kX3_isWord_K1 (l : Launch) (G : gG) {ex : gEx} (hZ : ∀ s : State, G.2.2.2 s → kC ex (gA G zC.1) s) (hG : gOK G zC.1) (hT : G.2.2.1.map (fun q => q.2) = zC.2.1) (σ : gS) (out : Int32) (hF : fX3_isWord_K1 σ = some out) : gCi l yX3_isWord wsX3_isWord rmX3_isWord G zC [.ref (G.2.1 46), .ref (ex.1 1)] σ out σ :=
  gEnter (by decide) rfl ⟨rfl, rfl⟩ hG hT (Nat.le_of_ble_eq_true rfl) rfl (fun M X hl => wX3_isWord_K1 X hZ σ hF)
noncomputable def fJ0_coder_7d493_K2 (σ : gS) : Option (Int32) :=
  if (1 : Int32) = 0 then none else some (vp_nar .byte (0 : Int32))
set_option maxRecDepth 100000 in
set_option maxHeartbeats 4000000 in
theorem wJ0_coder_7d493_K2 {M : gM} {G : gG} {out : Int32} (X : gX M G zC cJ0_coder_7d493 RJ0 1 wsJ0_coder_7d493 rmJ0_coder_7d493 (some .byte)) {ex : gEx} (hZ : ∀ s : State, G.2.2.2 s → kC ex (gA G zC.1) s) (σ : gS) (hF : fJ0_coder_7d493_K2 σ = some out) : WW M (gQi M G zC out σ) G zC 1 σ 0 [(0, .ref (ex.1 2))] [] := by
  unfold fJ0_coder_7d493_K2 at hF
  refine ww_getsE (pc := 0) X (v := .int 1) dJ0_coder_7d493_0 (eC_compact (hZ _ (gXk X))) (List.mem_of_getElem? (i := 1) rfl) rfl ?_
  refine ww_if_eq (pc := 3) (tgt := 13) X dJ0_coder_7d493_3 (by decide) hF (fun h1 hF => ?_) (fun h1 hF => ?_)
  · cases hF
  · refine ww_aload_n (pc := 6) X (j := 0) dJ0_coder_7d493_6 rfl rfl ?_
    refine ww_getE (pc := 7) X dJ0_coder_7d493_7 (eC_coder (hZ _ (gXk X)) 2 (by decide)) (List.mem_of_getElem? (i := 2) rfl) rfl ?_
    refine ww_goto (pc := 10) X (tgt := 14) dJ0_coder_7d493_10 (by decide) ?_
    exact ww_nret (pc := 14) X dJ0_coder_7d493_14 rfl (Option.some.inj hF) rfl
set_option maxRecDepth 100000 in
set_option maxHeartbeats 4000000 in
theorem kJ0_coder_7d493_K2 (l : Launch) (G : gG) {ex : gEx} (hZ : ∀ s : State, G.2.2.2 s → kC ex (gA G zC.1) s) (hG : gOK G zC.1) (hT : G.2.2.1.map (fun q => q.2) = zC.2.1) (σ : gS) (out : Int32) (hF : fJ0_coder_7d493_K2 σ = some out) : gCi l yJ0_coder_7d493 wsJ0_coder_7d493 rmJ0_coder_7d493 G zC [.ref (ex.1 2)] σ out σ :=
  gEnter (by decide) rfl ⟨rfl, rfl⟩ hG hT (Nat.le_of_ble_eq_true rfl) rfl (fun M X hl => wJ0_coder_7d493_K2 X hZ σ hF)
noncomputable def fJ0_length_8abf5_K2 (σ : gS) : Option (Int32) :=
  bd (fJ0_coder_7d493_K2 σ) fun r2 => some (5 >>> (r2 &&& 31))
set_option maxRecDepth 100000 in
set_option maxHeartbeats 4000000 in
theorem wJ0_length_8abf5_K2 {M : gM} {G : gG} {out : Int32} (X : gX M G zC cJ0_length_8abf5 RJ0 1 wsJ0_length_8abf5 rmJ0_length_8abf5 (some .int)) {ex : gEx} (hZ : ∀ s : State, G.2.2.2 s → kC ex (gA G zC.1) s) (σ : gS) (hF : fJ0_length_8abf5_K2 σ = some out) : WW M (gQi M G zC out σ) G zC 1 σ 0 [(0, .ref (ex.1 2))] [] := by
  unfold fJ0_length_8abf5_K2 at hF
  refine ww_aload_n (pc := 0) X (j := 0) dJ0_length_8abf5_0 rfl rfl ?_
  refine ww_getE (pc := 1) X dJ0_length_8abf5_1 (eC_value (hZ _ (gXk X)) 2 (by decide)) (List.mem_of_getElem? (i := 1) rfl) rfl ?_
  refine ww_lenE (pc := 4) X (N := 5) (v := 5) dJ0_length_8abf5_4 (eC_bytes (hZ _ (gXk X)) 2 (by decide)) (by decide) ?_
  refine ww_aload_n (pc := 5) X (j := 0) dJ0_length_8abf5_5 rfl rfl ?_
  obtain ⟨r2, h1, hF⟩ := bd_some hF
  refine ww_callXi (pc := 6) X (As := []) (rest := [.int 5]) dJ0_length_8abf5_6 (kJ0_coder_7d493_K2 (mL M) G hZ X.2.2.2.2.2.2.1 X.2.2.2.2.2.2.2.1 σ r2 h1) rfl ((hZ _ (gXk X)).1.1 2 (by decide)).1 gJ0_length_8abf5_J0_coder_7d493 hyJ0_coder_7d493 ⟨rfl, rfl⟩ ⟨Nat.le_of_ble_eq_true rfl, Nat.le_of_ble_eq_true rfl⟩ rfl rfl (Nat.le_of_ble_eq_true rfl) ?_
  refine ww_ishr (pc := 9) X dJ0_length_8abf5_9 ?_
  exact ww_iret (pc := 10) X dJ0_length_8abf5_10 (Option.some.inj hF) rfl
set_option maxRecDepth 100000 in
set_option maxHeartbeats 4000000 in
theorem kJ0_length_8abf5_K2 (l : Launch) (G : gG) {ex : gEx} (hZ : ∀ s : State, G.2.2.2 s → kC ex (gA G zC.1) s) (hG : gOK G zC.1) (hT : G.2.2.1.map (fun q => q.2) = zC.2.1) (σ : gS) (out : Int32) (hF : fJ0_length_8abf5_K2 σ = some out) : gCi l yJ0_length_8abf5 wsJ0_length_8abf5 rmJ0_length_8abf5 G zC [.ref (ex.1 2)] σ out σ :=
  gEnter (by decide) rfl ⟨rfl, rfl⟩ hG hT (Nat.le_of_ble_eq_true rfl) rfl (fun M X hl => wJ0_length_8abf5_K2 X hZ σ hF)
noncomputable def fJ0_isLatin1_aae02_K2 (σ : gS) : Option (Int32) :=
  if (1 : Int32) = 0 then none else if (0 : Int32) = 0 then some 1 else none
set_option maxRecDepth 100000 in
set_option maxHeartbeats 4000000 in
theorem wJ0_isLatin1_aae02_K2 {M : gM} {G : gG} {out : Int32} (X : gX M G zC cJ0_isLatin1_aae02 RJ0 1 wsJ0_isLatin1_aae02 rmJ0_isLatin1_aae02 (some .boolean)) {ex : gEx} (hZ : ∀ s : State, G.2.2.2 s → kC ex (gA G zC.1) s) (σ : gS) (hF : fJ0_isLatin1_aae02_K2 σ = some out) : WW M (gQi M G zC out σ) G zC 1 σ 0 [(0, .ref (ex.1 2))] [] := by
  unfold fJ0_isLatin1_aae02_K2 at hF
  refine ww_getsE (pc := 0) X (v := .int 1) dJ0_isLatin1_aae02_0 (eC_compact (hZ _ (gXk X))) (List.mem_of_getElem? (i := 1) rfl) rfl ?_
  refine ww_if_eq (pc := 3) (tgt := 17) X dJ0_isLatin1_aae02_3 (by decide) hF (fun h1 hF => ?_) (fun h1 hF => ?_)
  · cases hF
  · refine ww_aload_n (pc := 6) X (j := 0) dJ0_isLatin1_aae02_6 rfl rfl ?_
    refine ww_getE (pc := 7) X dJ0_isLatin1_aae02_7 (eC_coder (hZ _ (gXk X)) 2 (by decide)) (List.mem_of_getElem? (i := 2) rfl) rfl ?_
    refine ww_if_ne (pc := 10) (tgt := 17) X dJ0_isLatin1_aae02_10 (by decide) hF (fun h2 hF => ?_) (fun h2 hF => ?_)
    · cases hF
    · refine ww_iconst (pc := 13) X (v := 1) dJ0_isLatin1_aae02_13 (by decide) ?_
      refine ww_goto (pc := 14) X (tgt := 18) dJ0_isLatin1_aae02_14 (by decide) ?_
      exact ww_zret (pc := 18) X dJ0_isLatin1_aae02_18 (by cases hF; rfl) rfl
set_option maxRecDepth 100000 in
set_option maxHeartbeats 4000000 in
theorem kJ0_isLatin1_aae02_K2 (l : Launch) (G : gG) {ex : gEx} (hZ : ∀ s : State, G.2.2.2 s → kC ex (gA G zC.1) s) (hG : gOK G zC.1) (hT : G.2.2.1.map (fun q => q.2) = zC.2.1) (σ : gS) (out : Int32) (hF : fJ0_isLatin1_aae02_K2 σ = some out) : gCi l yJ0_isLatin1_aae02 wsJ0_isLatin1_aae02 rmJ0_isLatin1_aae02 G zC [.ref (ex.1 2)] σ out σ :=
  gEnter (by decide) rfl ⟨rfl, rfl⟩ hG hT (Nat.le_of_ble_eq_true rfl) rfl (fun M X hl => wJ0_isLatin1_aae02_K2 X hZ σ hF)
noncomputable def fJ1_charAt_3b067_V2 (σ : gS) (p1 : Int32) : Option (Int32) :=
  bd (fJ0_checkIndex_df160 σ p1 5) fun u2 => gd (gb p1 5) <| nm ((bytC 2) p1.toNatClampNeg) fun v3 => some (vp_nar .char (((v3 &&& 255).toUInt32 % 65536).toInt32))
set_option maxRecDepth 100000 in
set_option maxHeartbeats 4000000 in
theorem wJ1_charAt_3b067_V2 {M : gM} {G : gG} {out : Int32} (X : gX M G zC cJ1_charAt_3b067 RJ1 2 wsJ1_charAt_3b067 rmJ1_charAt_3b067 (some .char)) {ex : gEx} (hZ : ∀ s : State, G.2.2.2 s → kC ex (gA G zC.1) s) (σ : gS) (p1 : Int32) (hF : fJ1_charAt_3b067_V2 σ p1 = some out) : WW M (gQi M G zC out σ) G zC 2 σ 0 [(0, .ref (ex.2.1 2)), (1, .int p1)] [] := by
  unfold fJ1_charAt_3b067_V2 at hF
  refine ww_iload_n (pc := 0) X (j := 1) dJ1_charAt_3b067_0 rfl rfl ?_
  refine ww_aload_n (pc := 1) X (j := 0) dJ1_charAt_3b067_1 rfl rfl ?_
  refine ww_lenE (pc := 2) X (N := 5) (v := 5) dJ1_charAt_3b067_2 (eC_bytes (hZ _ (gXk X)) 2 (by decide)) (by decide) ?_
  obtain ⟨u2, h1, hF⟩ := bd_some hF
  refine ww_callSv (pc := 3) X (As := [.int p1, .int 5]) (rest := []) dJ1_charAt_3b067_3 (kJ0_checkIndex_df160 (mL M) G hZ X.2.2.2.2.2.2.1 X.2.2.2.2.2.2.2.1 σ p1 5 h1) rfl gJ1_charAt_3b067_J0_checkIndex_df160 hyJ0_checkIndex_df160 ⟨rfl, rfl⟩ ⟨Nat.le_of_ble_eq_true rfl, Nat.le_of_ble_eq_true rfl⟩ rfl rfl (Nat.le_of_ble_eq_true rfl) ?_
  refine ww_aload_n (pc := 6) X (j := 0) dJ1_charAt_3b067_6 rfl rfl ?_
  refine ww_iload_n (pc := 7) X (j := 1) dJ1_charAt_3b067_7 rfl rfl ?_
  refine ww_tbE (pc := 8) X (N := 5) (g := (bytC 2)) dJ1_charAt_3b067_8 (eC_bytes (hZ _ (gXk X)) 2 (by decide)) hF (fun v3 ev3 bv3 hF => ?_)
  refine ww_sipush (pc := 9) X (v := 255) dJ1_charAt_3b067_9 (by decide) ?_
  refine ww_iand (pc := 12) X dJ1_charAt_3b067_12 ?_
  refine ww_i2c (pc := 13) X dJ1_charAt_3b067_13 ?_
  exact ww_nret (pc := 14) X dJ1_charAt_3b067_14 rfl (Option.some.inj hF) rfl
set_option maxRecDepth 100000 in
set_option maxHeartbeats 4000000 in
theorem kJ1_charAt_3b067_V2 (l : Launch) (G : gG) {ex : gEx} (hZ : ∀ s : State, G.2.2.2 s → kC ex (gA G zC.1) s) (hG : gOK G zC.1) (hT : G.2.2.1.map (fun q => q.2) = zC.2.1) (σ : gS) (p1 : Int32) (out : Int32) (hF : fJ1_charAt_3b067_V2 σ p1 = some out) : gCi l yJ1_charAt_3b067 wsJ1_charAt_3b067 rmJ1_charAt_3b067 G zC [.ref (ex.2.1 2), .int p1] σ out σ :=
  gEnter (by decide) rfl ⟨rfl, rfl⟩ hG hT (Nat.le_of_ble_eq_true rfl) rfl (fun M X hl => wJ1_charAt_3b067_V2 X hZ σ p1 hF)
noncomputable def fJ0_charAt_5068e_K2 (σ : gS) (p1 : Int32) : Option (Int32) :=
  bd (fJ0_isLatin1_aae02_K2 σ) fun r2 => (if r2 = 0 then none else bd (fJ1_charAt_3b067_V2 σ p1) fun r5 => some (vp_nar .char r5))
set_option maxRecDepth 100000 in
set_option maxHeartbeats 4000000 in
theorem wJ0_charAt_5068e_K2 {M : gM} {G : gG} {out : Int32} (X : gX M G zC cJ0_charAt_5068e RJ0 2 wsJ0_charAt_5068e rmJ0_charAt_5068e (some .char)) {ex : gEx} (hZ : ∀ s : State, G.2.2.2 s → kC ex (gA G zC.1) s) (σ : gS) (p1 : Int32) (hF : fJ0_charAt_5068e_K2 σ p1 = some out) : WW M (gQi M G zC out σ) G zC 2 σ 0 [(0, .ref (ex.1 2)), (1, .int p1)] [] := by
  unfold fJ0_charAt_5068e_K2 at hF
  refine ww_aload_n (pc := 0) X (j := 0) dJ0_charAt_5068e_0 rfl rfl ?_
  obtain ⟨r2, h1, hF⟩ := bd_some hF
  refine ww_callXi (pc := 1) X (As := []) (rest := []) dJ0_charAt_5068e_1 (kJ0_isLatin1_aae02_K2 (mL M) G hZ X.2.2.2.2.2.2.1 X.2.2.2.2.2.2.2.1 σ r2 h1) rfl ((hZ _ (gXk X)).1.1 2 (by decide)).1 gJ0_charAt_5068e_J0_isLatin1_aae02 hyJ0_isLatin1_aae02 ⟨rfl, rfl⟩ ⟨Nat.le_of_ble_eq_true rfl, Nat.le_of_ble_eq_true rfl⟩ rfl rfl (Nat.le_of_ble_eq_true rfl) ?_
  refine ww_if_eq (pc := 4) (tgt := 16) X dJ0_charAt_5068e_4 (by decide) hF (fun h3 hF => ?_) (fun h3 hF => ?_)
  · refine ww_aload_n (pc := 16) X (j := 0) dJ0_charAt_5068e_16 rfl rfl ?_
    refine ww_getE (pc := 17) X dJ0_charAt_5068e_17 (eC_value (hZ _ (gXk X)) 2 (by decide)) (List.mem_of_getElem? (i := 1) rfl) rfl ?_
    refine ww_iload_n (pc := 20) X (j := 1) dJ0_charAt_5068e_20 rfl rfl ?_
    cases hF
  · refine ww_aload_n (pc := 7) X (j := 0) dJ0_charAt_5068e_7 rfl rfl ?_
    refine ww_getE (pc := 8) X dJ0_charAt_5068e_8 (eC_value (hZ _ (gXk X)) 2 (by decide)) (List.mem_of_getElem? (i := 1) rfl) rfl ?_
    refine ww_iload_n (pc := 11) X (j := 1) dJ0_charAt_5068e_11 rfl rfl ?_
    obtain ⟨r5, h4, hF⟩ := bd_some hF
    refine ww_callSi (pc := 12) X (As := [.ref (ex.2.1 2), .int p1]) (rest := []) dJ0_charAt_5068e_12 (kJ1_charAt_3b067_V2 (mL M) G hZ X.2.2.2.2.2.2.1 X.2.2.2.2.2.2.2.1 σ p1 r5 h4) rfl gJ0_charAt_5068e_J1_charAt_3b067 hyJ1_charAt_3b067 ⟨rfl, rfl⟩ ⟨Nat.le_of_ble_eq_true rfl, Nat.le_of_ble_eq_true rfl⟩ rfl rfl (Nat.le_of_ble_eq_true rfl) ?_
    exact ww_nret (pc := 15) X dJ0_charAt_5068e_15 rfl (Option.some.inj hF) rfl
set_option maxRecDepth 100000 in
set_option maxHeartbeats 4000000 in
theorem kJ0_charAt_5068e_K2 (l : Launch) (G : gG) {ex : gEx} (hZ : ∀ s : State, G.2.2.2 s → kC ex (gA G zC.1) s) (hG : gOK G zC.1) (hT : G.2.2.1.map (fun q => q.2) = zC.2.1) (σ : gS) (p1 : Int32) (out : Int32) (hF : fJ0_charAt_5068e_K2 σ p1 = some out) : gCi l yJ0_charAt_5068e wsJ0_charAt_5068e rmJ0_charAt_5068e G zC [.ref (ex.1 2), .int p1] σ out σ :=
  gEnter (by decide) rfl ⟨rfl, rfl⟩ hG hT (Nat.le_of_ble_eq_true rfl) rfl (fun M X hl => wJ0_charAt_5068e_K2 X hZ σ p1 hF)
noncomputable def bX3_isWord_K2_20 (σ : gS) (rec20 : Int32 → Option (Int32)) (a2 : Int32) : Option (Int32) :=
  bd (fJ0_length_8abf5_K2 σ) fun r6 => (if r6 ≤ a2 then some 1 else gd (gb ((σ.1 46 6) + a2) 1600) <| nm (σ.1 1 ((σ.1 46 6) + a2).toNatClampNeg) fun v8 => bd (fJ0_charAt_5068e_K2 σ a2) fun r10 => (if v8 = r10 then nm (a2 + 1 : Int32) fun x12 => rec20 x12 else some 0))
noncomputable def fX3_isWord_K2 (σ : gS) : Option (Int32) :=
  bd (fJ0_length_8abf5_K2 σ) fun r2 => (if ((σ.1 46 7) - (σ.1 46 6)) = r2 then nm (0 : Int32) fun x4 => lpc (S := Int32) K9 (fun rec s => bX3_isWord_K2_20 σ (fun a2 => rec (a2)) s) (x4) else some 0)
set_option maxRecDepth 100000 in
set_option maxHeartbeats 4000000 in
theorem wbX3_isWord_K2_20 {M : gM} {G : gG} {out : Int32} (X : gX M G zC cX3_isWord RX3 3 wsX3_isWord rmX3_isWord (some .boolean)) {ex : gEx} (hZ : ∀ s : State, G.2.2.2 s → kC ex (gA G zC.1) s) (σ : gS) (rec20 : Int32 → Option (Int32)) (ih20 : ∀ (a2 : Int32), rec20 a2 = some out → WW M (gQi M G zC out σ) G zC 3 σ 20 [(0, .ref (G.2.1 46)), (1, .ref (ex.1 2)), (2, .int a2)] []) (a2 : Int32) (hF : bX3_isWord_K2_20 σ rec20 a2 = some out) : WW M (gQi M G zC out σ) G zC 3 σ 20 [(0, .ref (G.2.1 46)), (1, .ref (ex.1 2)), (2, .int a2)] [] := by
  unfold bX3_isWord_K2_20 at hF
  refine ww_iload_n (pc := 20) X (j := 2) dX3_isWord_20 rfl rfl ?_
  refine ww_aload_n (pc := 21) X (j := 1) dX3_isWord_21 rfl rfl ?_
  obtain ⟨r6, h5, hF⟩ := bd_some hF
  refine ww_callXi (pc := 22) X (As := []) (rest := [.int a2]) dX3_isWord_22 (kJ0_length_8abf5_K2 (mL M) G hZ X.2.2.2.2.2.2.1 X.2.2.2.2.2.2.2.1 σ r6 h5) rfl ((hZ _ (gXk X)).1.1 2 (by decide)).1 gX3_isWord_J0_length_8abf5 hyJ0_length_8abf5 ⟨rfl, rfl⟩ ⟨Nat.le_of_ble_eq_true rfl, Nat.le_of_ble_eq_true rfl⟩ rfl rfl (Nat.le_of_ble_eq_true rfl) ?_
  refine ww_icmp_ge (pc := 25) (tgt := 55) X dX3_isWord_25 (by decide) hF (fun h7 hF => ?_) (fun h7 hF => ?_)
  · refine ww_iconst (pc := 55) X (v := 1) dX3_isWord_55 (by decide) ?_
    exact ww_zret (pc := 56) X dX3_isWord_56 (by cases hF; rfl) rfl
  · refine ww_aload_n (pc := 28) X (j := 0) dX3_isWord_28 rfl rfl ?_
    refine ww_get (pc := 29) X (ref := "PictureBlock$Reader") (T := TX3) (j := 0) dX3_isWord_29 inX3_isWord_RX3 shzC_46 clzC_3 (by decide) rfl (List.mem_of_getElem? (i := 3) rfl) rfl ?_
    refine ww_aload_n (pc := 32) X (j := 0) dX3_isWord_32 rfl rfl ?_
    refine ww_get (pc := 33) X (ref := "PictureBlock$Reader") (T := TX3) (j := 6) dX3_isWord_33 inX3_isWord_RX3 shzC_46 clzC_3 (by decide) rfl (List.mem_of_getElem? (i := 2) rfl) rfl ?_
    refine ww_iload_n (pc := 36) X (j := 2) dX3_isWord_36 rfl rfl ?_
    refine ww_iadd (pc := 37) X dX3_isWord_37 ?_
    refine ww_iald (pc := 38) X dX3_isWord_38 shzC_1 rfl hF (fun v8 ev8 bv8 hF => ?_)
    refine ww_aload_n (pc := 39) X (j := 1) dX3_isWord_39 rfl rfl ?_
    refine ww_iload_n (pc := 40) X (j := 2) dX3_isWord_40 rfl rfl ?_
    obtain ⟨r10, h9, hF⟩ := bd_some hF
    refine ww_callXi (pc := 41) X (As := [.int a2]) (rest := [.int v8]) dX3_isWord_41 (kJ0_charAt_5068e_K2 (mL M) G hZ X.2.2.2.2.2.2.1 X.2.2.2.2.2.2.2.1 σ a2 r10 h9) rfl ((hZ _ (gXk X)).1.1 2 (by decide)).1 gX3_isWord_J0_charAt_5068e hyJ0_charAt_5068e ⟨rfl, rfl⟩ ⟨Nat.le_of_ble_eq_true rfl, Nat.le_of_ble_eq_true rfl⟩ rfl rfl (Nat.le_of_ble_eq_true rfl) ?_
    refine ww_icmp_eq (pc := 44) (tgt := 49) X dX3_isWord_44 (by decide) hF (fun h11 hF => ?_) (fun h11 hF => ?_)
    · refine ww_iinc (pc := 49) X (j := 2) (v := 1) (lv' := [(0, .ref (G.2.1 46)), (1, .ref (ex.1 2))]) dX3_isWord_49 rfl rfl (by decide) rfl hF (fun x12 ex12 hF => ?_)
      refine ww_goto (pc := 52) X (tgt := 20) dX3_isWord_52 (by decide) ?_
      exact ww_sub [1, 2, 0] rfl (ih20 x12 hF)
    · refine ww_iconst (pc := 47) X (v := 0) dX3_isWord_47 (by decide) ?_
      exact ww_zret (pc := 48) X dX3_isWord_48 (by cases hF; rfl) rfl
set_option maxRecDepth 100000 in
set_option maxHeartbeats 4000000 in
theorem wX3_isWord_K2 {M : gM} {G : gG} {out : Int32} (X : gX M G zC cX3_isWord RX3 3 wsX3_isWord rmX3_isWord (some .boolean)) {ex : gEx} (hZ : ∀ s : State, G.2.2.2 s → kC ex (gA G zC.1) s) (σ : gS) (hF : fX3_isWord_K2 σ = some out) : WW M (gQi M G zC out σ) G zC 3 σ 0 [(0, .ref (G.2.1 46)), (1, .ref (ex.1 2))] [] := by
  unfold fX3_isWord_K2 at hF
  refine ww_aload_n (pc := 0) X (j := 0) dX3_isWord_0 rfl rfl ?_
  refine ww_get (pc := 1) X (ref := "PictureBlock$Reader") (T := TX3) (j := 7) dX3_isWord_1 inX3_isWord_RX3 shzC_46 clzC_3 (by decide) rfl (List.mem_of_getElem? (i := 1) rfl) rfl ?_
  refine ww_aload_n (pc := 4) X (j := 0) dX3_isWord_4 rfl rfl ?_
  refine ww_get (pc := 5) X (ref := "PictureBlock$Reader") (T := TX3) (j := 6) dX3_isWord_5 inX3_isWord_RX3 shzC_46 clzC_3 (by decide) rfl (List.mem_of_getElem? (i := 2) rfl) rfl ?_
  refine ww_isub (pc := 8) X dX3_isWord_8 ?_
  refine ww_aload_n (pc := 9) X (j := 1) dX3_isWord_9 rfl rfl ?_
  obtain ⟨r2, h1, hF⟩ := bd_some hF
  refine ww_callXi (pc := 10) X (As := []) (rest := [.int ((σ.1 46 7) - (σ.1 46 6))]) dX3_isWord_10 (kJ0_length_8abf5_K2 (mL M) G hZ X.2.2.2.2.2.2.1 X.2.2.2.2.2.2.2.1 σ r2 h1) rfl ((hZ _ (gXk X)).1.1 2 (by decide)).1 gX3_isWord_J0_length_8abf5 hyJ0_length_8abf5 ⟨rfl, rfl⟩ ⟨Nat.le_of_ble_eq_true rfl, Nat.le_of_ble_eq_true rfl⟩ rfl rfl (Nat.le_of_ble_eq_true rfl) ?_
  refine ww_icmp_eq (pc := 13) (tgt := 18) X dX3_isWord_13 (by decide) hF (fun h3 hF => ?_) (fun h3 hF => ?_)
  · refine ww_iconst (pc := 18) X (v := 0) dX3_isWord_18 (by decide) ?_
    refine ww_istore_n (pc := 19) X (lv' := [(0, .ref (G.2.1 46)), (1, .ref (ex.1 2))]) dX3_isWord_19 rfl (by decide) rfl hF (fun x4 ex4 hF => ?_)
    exact ww_sub [1, 2, 0] rfl (lpc_ind (P := (fun (s : Int32) => WW M (gQi M G zC out σ) G zC 3 σ 20 [(0, .ref (G.2.1 46)), (1, .ref (ex.1 2)), (2, .int s)] [])) (fun rec s ih hF => wbX3_isWord_K2_20 X hZ σ (fun a2 => rec (a2)) (fun a2 h => ih (a2) h) s hF) K9 (x4) hF)
  · refine ww_iconst (pc := 16) X (v := 0) dX3_isWord_16 (by decide) ?_
    exact ww_zret (pc := 17) X dX3_isWord_17 (by cases hF; rfl) rfl
set_option maxRecDepth 100000 in
set_option maxHeartbeats 4000000 in
theorem kX3_isWord_K2 (l : Launch) (G : gG) {ex : gEx} (hZ : ∀ s : State, G.2.2.2 s → kC ex (gA G zC.1) s) (hG : gOK G zC.1) (hT : G.2.2.1.map (fun q => q.2) = zC.2.1) (σ : gS) (out : Int32) (hF : fX3_isWord_K2 σ = some out) : gCi l yX3_isWord wsX3_isWord rmX3_isWord G zC [.ref (G.2.1 46), .ref (ex.1 2)] σ out σ :=
  gEnter (by decide) rfl ⟨rfl, rfl⟩ hG hT (Nat.le_of_ble_eq_true rfl) rfl (fun M X hl => wX3_isWord_K2 X hZ σ hF)
