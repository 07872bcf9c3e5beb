noncomputable def fX9_needs (σ : gS) (p1 : Int32) : Option (Int32 × gS) :=
  bd (fX8_exists_2 σ 3 p1) fun r2 => (if r2 = 0 then some ((-1), σ) else bd (fX5_uses_47 σ p1) fun r5 => (if r5 = 0 then some ((-1), σ) else bd2 (fX2_countLoose σ p1) fun r8 σ9 => bd2 (fX2_countLoose σ9 ((-1))) fun r11 σ12 => some (r8 - r11, σ12)))
noncomputable abbrev rmX9_needs : Room := { frames := 3, cells := 0, slots := 0, locals := 69 }
set_option maxRecDepth 100000 in
set_option maxHeartbeats 4000000 in
theorem wX9_needs {M : gM} {G : gG} {out : Int32 × gS} (X : gX M G zC cX9_needs RX9 2 wsX9_needs rmX9_needs (some .int)) {ex : gEx} (hZ : ∀ s : State, G.2.2.2 s → kC ex (gA G zC.1) s) (σ : gS) (p1 : Int32) (hF : fX9_needs σ p1 = some out) : WW M (gQi M G zC out.1 out.2) G zC 2 σ 0 [(0, .ref (G.2.1 0)), (1, .int p1)] [] := by
  unfold fX9_needs at hF
  refine ww_aload_n (pc := 0) X (j := 0) dX9_needs_0 rfl rfl ?_
  refine ww_get (pc := 1) X (ref := "PictureBlock") (T := TX9) (j := 2) dX9_needs_1 inX9_needs_RX9 shzC_0 clzC_9 (by decide) rfl (List.mem_of_getElem? (i := 1) rfl) rfl ?_
  refine ww_iconst (pc := 4) X (v := 3) dX9_needs_4 (by decide) ?_
  refine ww_iload_n (pc := 5) X (j := 1) dX9_needs_5 rfl rfl ?_
  obtain ⟨r2, h1, hF⟩ := bd_some hF
  refine ww_callVi (pc := 6) X (As := [.int 3, .int p1]) (rest := []) dX9_needs_6 (kX8_exists_2 (mL M) G hZ X.2.2.2.2.2.2.1 X.2.2.2.2.2.2.2.1 σ 3 p1 r2 h1) rfl shzC_2 clzC_8 gX9_needs_X8_exists hyX8_exists ⟨rfl, rfl⟩ ⟨Nat.le_of_ble_eq_true rfl, Nat.le_of_ble_eq_true rfl⟩ rfl rfl (Nat.le_of_ble_eq_true rfl) ?_
  refine ww_if_eq (pc := 9) (tgt := 23) X dX9_needs_9 (by decide) hF (fun h3 hF => ?_) (fun h3 hF => ?_)
  · refine ww_iconst (pc := 23) X (v := (-1)) dX9_needs_23 (by decide) ?_
    exact ww_iret (pc := 24) X dX9_needs_24 (fst_of hF) (snd_of hF)
  · refine ww_aload_n (pc := 12) X (j := 0) dX9_needs_12 rfl rfl ?_
    refine ww_get (pc := 13) X (ref := "PictureBlock") (T := TX9) (j := 5) dX9_needs_13 inX9_needs_RX9 shzC_0 clzC_9 (by decide) rfl (List.mem_of_getElem? (i := 2) rfl) rfl ?_
    refine ww_iload_n (pc := 16) X (j := 1) dX9_needs_16 rfl rfl ?_
    obtain ⟨r5, h4, hF⟩ := bd_some hF
    refine ww_callVi (pc := 17) X (As := [.int p1]) (rest := []) dX9_needs_17 (kX5_uses_47 (mL M) G hZ X.2.2.2.2.2.2.1 X.2.2.2.2.2.2.2.1 σ p1 r5 h4) rfl shzC_47 clzC_5 gX9_needs_X5_uses hyX5_uses ⟨rfl, rfl⟩ ⟨Nat.le_of_ble_eq_true rfl, Nat.le_of_ble_eq_true rfl⟩ rfl rfl (Nat.le_of_ble_eq_true rfl) ?_
    refine ww_if_ne (pc := 20) (tgt := 25) X dX9_needs_20 (by decide) hF (fun h6 hF => ?_) (fun h6 hF => ?_)
    · refine ww_aload_n (pc := 25) X (j := 0) dX9_needs_25 rfl rfl ?_
      refine ww_get (pc := 26) X (ref := "PictureBlock") (T := TX9) (j := 11) dX9_needs_26 inX9_needs_RX9 shzC_0 clzC_9 (by decide) rfl (List.mem_of_getElem? (i := 3) rfl) rfl ?_
      refine ww_iload_n (pc := 29) X (j := 1) dX9_needs_29 rfl rfl ?_
      obtain ⟨r8, σ9, h7, hF⟩ := bd2_some hF
      refine ww_callVi (pc := 30) X (As := [.int p1]) (rest := []) dX9_needs_30 (kX2_countLoose (mL M) G hZ X.2.2.2.2.2.2.1 X.2.2.2.2.2.2.2.1 σ p1 (r8, σ9) h7) rfl shzC_137 clzC_2 gX9_needs_X2_countLoose hyX2_countLoose ⟨rfl, rfl⟩ ⟨Nat.le_of_ble_eq_true rfl, Nat.le_of_ble_eq_true rfl⟩ rfl rfl (Nat.le_of_ble_eq_true rfl) ?_
      refine ww_aload_n (pc := 33) X (j := 0) dX9_needs_33 rfl rfl ?_
      refine ww_get (pc := 34) X (ref := "PictureBlock") (T := TX9) (j := 11) dX9_needs_34 inX9_needs_RX9 shzC_0 clzC_9 (by decide) rfl (List.mem_of_getElem? (i := 3) rfl) rfl ?_
      refine ww_iconst (pc := 37) X (v := (-1)) dX9_needs_37 (by decide) ?_
      obtain ⟨r11, σ12, h10, hF⟩ := bd2_some hF
      refine ww_callVi (pc := 38) X (As := [.int ((-1))]) (rest := [.int r8]) dX9_needs_38 (kX2_countLoose (mL M) G hZ X.2.2.2.2.2.2.1 X.2.2.2.2.2.2.2.1 σ9 ((-1)) (r11, σ12) h10) rfl shzC_137 clzC_2 gX9_needs_X2_countLoose hyX2_countLoose ⟨rfl, rfl⟩ ⟨Nat.le_of_ble_eq_true rfl, Nat.le_of_ble_eq_true rfl⟩ rfl rfl (Nat.le_of_ble_eq_true rfl) ?_
      refine ww_isub (pc := 41) X dX9_needs_41 ?_
      exact ww_iret (pc := 42) X dX9_needs_42 (fst_of hF) (snd_of hF)
    · refine ww_iconst (pc := 23) X (v := (-1)) dX9_needs_23 (by decide) ?_
      exact ww_iret (pc := 24) X dX9_needs_24 (fst_of hF) (snd_of hF)
set_option maxRecDepth 100000 in
set_option maxHeartbeats 4000000 in
theorem kX9_needs (l : Launch) (G : gG) {ex : gEx} (hZ : ∀ s : State, G.2.2.2 s → kC ex (gA G zC.1) s) (hG : gOK G zC.1) (hT : G.2.2.1.map (fun q => q.2) = zC.2.1) (σ : gS) (p1 : Int32) (out : Int32 × gS) (hF : fX9_needs σ p1 = some out) : gCi l yX9_needs wsX9_needs rmX9_needs G zC [.ref (G.2.1 0), .int p1] σ out.1 out.2 :=
  gEnter (by decide) rfl ⟨rfl, rfl⟩ hG hT (Nat.le_of_ble_eq_true rfl) rfl (fun M X hl => wX9_needs X hZ σ p1 hF)
noncomputable def fX9_doubt (σ : gS) (p1 : Int32) : Option (Int64) :=
  bd (fX8_exists_2 σ 3 p1) fun r2 => (if r2 = 0 then some ((-1)) else bd (fX5_doubtOf_47 σ p1) fun r5 => some r5)
noncomputable abbrev rmX9_doubt : Room := { frames := 4, cells := 0, slots := 0, locals := 96 }
set_option maxRecDepth 100000 in
set_option maxHeartbeats 4000000 in
theorem wX9_doubt {M : gM} {G : gG} {out : Int64} (X : gX M G zC cX9_doubt RX9 2 wsX9_doubt rmX9_doubt (some .long)) {ex : gEx} (hZ : ∀ s : State, G.2.2.2 s → kC ex (gA G zC.1) s) (σ : gS) (p1 : Int32) (hF : fX9_doubt σ p1 = some out) : WW M (gQl M G zC out σ) G zC 2 σ 0 [(0, .ref (G.2.1 0)), (1, .int p1)] [] := by
  unfold fX9_doubt at hF
  refine ww_aload_n (pc := 0) X (j := 0) dX9_doubt_0 rfl rfl ?_
  refine ww_get (pc := 1) X (ref := "PictureBlock") (T := TX9) (j := 2) dX9_doubt_1 inX9_doubt_RX9 shzC_0 clzC_9 (by decide) rfl (List.mem_of_getElem? (i := 1) rfl) rfl ?_
  refine ww_iconst (pc := 4) X (v := 3) dX9_doubt_4 (by decide) ?_
  refine ww_iload_n (pc := 5) X (j := 1) dX9_doubt_5 rfl rfl ?_
  obtain ⟨r2, h1, hF⟩ := bd_some hF
  refine ww_callVi (pc := 6) X (As := [.int 3, .int p1]) (rest := []) dX9_doubt_6 (kX8_exists_2 (mL M) G hZ X.2.2.2.2.2.2.1 X.2.2.2.2.2.2.2.1 σ 3 p1 r2 h1) rfl shzC_2 clzC_8 gX9_doubt_X8_exists hyX8_exists ⟨rfl, rfl⟩ ⟨Nat.le_of_ble_eq_true rfl, Nat.le_of_ble_eq_true rfl⟩ rfl rfl (Nat.le_of_ble_eq_true rfl) ?_
  refine ww_if_ne (pc := 9) (tgt := 16) X dX9_doubt_9 (by decide) hF (fun h3 hF => ?_) (fun h3 hF => ?_)
  · refine ww_aload_n (pc := 16) X (j := 0) dX9_doubt_16 rfl rfl ?_
    refine ww_get (pc := 17) X (ref := "PictureBlock") (T := TX9) (j := 5) dX9_doubt_17 inX9_doubt_RX9 shzC_0 clzC_9 (by decide) rfl (List.mem_of_getElem? (i := 3) rfl) rfl ?_
    refine ww_iload_n (pc := 20) X (j := 1) dX9_doubt_20 rfl rfl ?_
    obtain ⟨r5, h4, hF⟩ := bd_some hF
    refine ww_callVl (pc := 21) X (As := [.int p1]) (rest := []) dX9_doubt_21 (kX5_doubtOf_47 (mL M) G hZ X.2.2.2.2.2.2.1 X.2.2.2.2.2.2.2.1 σ p1 r5 h4) rfl shzC_47 clzC_5 gX9_doubt_X5_doubtOf hyX5_doubtOf ⟨rfl, rfl⟩ ⟨Nat.le_of_ble_eq_true rfl, Nat.le_of_ble_eq_true rfl⟩ rfl rfl (Nat.le_of_ble_eq_true rfl) ?_
    exact ww_lret (pc := 24) X dX9_doubt_24 (Option.some.inj hF) rfl
  · refine ww_ldc2 (pc := 12) X (v := (-1)) (List.mem_of_getElem? (i := 2) rfl) dX9_doubt_12 ?_
    exact ww_lret (pc := 15) X dX9_doubt_15 (Option.some.inj hF) rfl
set_option maxRecDepth 100000 in
set_option maxHeartbeats 4000000 in
theorem kX9_doubt (l : Launch) (G : gG) {ex : gEx} (hZ : ∀ s : State, G.2.2.2 s → kC ex (gA G zC.1) s) (hG : gOK G zC.1) (hT : G.2.2.1.map (fun q => q.2) = zC.2.1) (σ : gS) (p1 : Int32) (out : Int64) (hF : fX9_doubt σ p1 = some out) : gCl l yX9_doubt wsX9_doubt rmX9_doubt G zC [.ref (G.2.1 0), .int p1] σ out σ :=
  gEnter (by decide) rfl ⟨rfl, rfl⟩ hG hT (Nat.le_of_ble_eq_true rfl) rfl (fun M X hl => wX9_doubt X hZ σ p1 hF)
noncomputable def bX9_findWorst_9 (σ : gS) (rec9 : Int32 → Int64 → Int32 → gS → Option (Int32 × gS)) (a1 : Int32) (a2 : Int64) (a4 : Int32) (σ1 : gS) : Option (Int32 × gS) :=
  gd (gb 3 6) <| nm (σ1.1 3 ((3 : Int32).toNatClampNeg)) fun v4 => (if v4 ≤ a4 then some (a1, σ1) else bd (fX5_doubtOf_47 σ1 a4) fun r7 => nm (r7 : Int64) fun x8 => (if x8 ≤ a2 then nm (a4 + 1 : Int32) fun x10 => rec9 a1 a2 x10 σ1 else bd2 (fX2_canShow σ1 a4) fun r12 σ13 => (if r12 = 0 then nm (a4 + 1 : Int32) fun x15 => rec9 a1 a2 x15 σ13 else nm (a4 : Int32) fun x16 => nm (x8 : Int64) fun x17 => nm (a4 + 1 : Int32) fun x18 => rec9 x16 x17 x18 σ13)))
noncomputable def fX9_findWorst (σ : gS) : Option (Int32 × gS) :=
  nm ((-1) : Int32) fun x1 => nm ((-1) : Int64) fun x2 => nm (0 : Int32) fun x3 => lpc (S := Int32 × Int64 × Int32 × gS) K9 (fun rec s => bX9_findWorst_9 σ (fun a1 a2 a4 σ1 => rec (a1, a2, a4, σ1)) s.1 s.2.1 s.2.2.1 s.2.2.2) (x1, x2, x3, σ)
noncomputable abbrev rmX9_findWorst : Room := { frames := 4, cells := 0, slots := 0, locals := 96 }
set_option maxRecDepth 100000 in
set_option maxHeartbeats 4000000 in
theorem wbX9_findWorst_9 {M : gM} {G : gG} {out : Int32 × gS} (X : gX M G zC cX9_findWorst RX9 7 wsX9_findWorst rmX9_findWorst (some .int)) {ex : gEx} (hZ : ∀ s : State, G.2.2.2 s → kC ex (gA G zC.1) s) (σ : gS) (rec9 : Int32 → Int64 → Int32 → gS → Option (Int32 × gS)) (ih9 : ∀ (a1 : Int32) (a2 : Int64) (a4 : Int32) (σ1 : gS), rec9 a1 a2 a4 σ1 = some out → WW M (gQi M G zC out.1 out.2) G zC 7 σ1 9 [(0, .ref (G.2.1 0)), (1, .int a1), (2, .long a2), (4, .int a4)] []) (a1 : Int32) (a2 : Int64) (a4 : Int32) (σ1 : gS) (hF : bX9_findWorst_9 σ rec9 a1 a2 a4 σ1 = some out) : WW M (gQi M G zC out.1 out.2) G zC 7 σ1 9 [(0, .ref (G.2.1 0)), (1, .int a1), (2, .long a2), (4, .int a4)] [] := by
  unfold bX9_findWorst_9 at hF
  refine ww_iload (pc := 9) X (j := 3) dX9_findWorst_9 rfl ?_
  refine ww_aload_n (pc := 11) X (j := 0) dX9_findWorst_11 rfl rfl ?_
  refine ww_get (pc := 12) X (ref := "PictureBlock") (T := TX9) (j := 2) dX9_findWorst_12 inX9_findWorst_RX9 shzC_0 clzC_9 (by decide) rfl (List.mem_of_getElem? (i := 2) rfl) rfl ?_
  refine ww_get (pc := 15) X (ref := "PictureBlock$Told") (T := TX8) (j := 0) dX9_findWorst_15 inX9_findWorst_RX8 shzC_2 clzC_8 (by decide) rfl (List.mem_of_getElem? (i := 3) rfl) rfl ?_
  refine ww_iconst (pc := 18) X (v := 3) dX9_findWorst_18 (by decide) ?_
  refine ww_iald (pc := 19) X dX9_findWorst_19 shzC_3 rfl hF (fun v4 ev4 bv4 hF => ?_)
  refine ww_icmp_ge (pc := 20) (tgt := 65) X dX9_findWorst_20 (by decide) hF (fun h5 hF => ?_) (fun h5 hF => ?_)
  · refine ww_iload_n (pc := 65) X (j := 1) dX9_findWorst_65 rfl rfl ?_
    exact ww_iret (pc := 66) X dX9_findWorst_66 (fst_of hF) (snd_of hF)
  · refine ww_aload_n (pc := 23) X (j := 0) dX9_findWorst_23 rfl rfl ?_
    refine ww_get (pc := 24) X (ref := "PictureBlock") (T := TX9) (j := 5) dX9_findWorst_24 inX9_findWorst_RX9 shzC_0 clzC_9 (by decide) rfl (List.mem_of_getElem? (i := 4) rfl) rfl ?_
    refine ww_iload (pc := 27) X (j := 3) dX9_findWorst_27 rfl ?_
    obtain ⟨r7, h6, hF⟩ := bd_some hF
    refine ww_callVl (pc := 29) X (As := [.int a4]) (rest := []) dX9_findWorst_29 (kX5_doubtOf_47 (mL M) G hZ X.2.2.2.2.2.2.1 X.2.2.2.2.2.2.2.1 σ1 a4 r7 h6) rfl shzC_47 clzC_5 gX9_findWorst_X5_doubtOf hyX5_doubtOf ⟨rfl, rfl⟩ ⟨Nat.le_of_ble_eq_true rfl, Nat.le_of_ble_eq_true rfl⟩ rfl rfl (Nat.le_of_ble_eq_true rfl) ?_
    refine ww_lstore (pc := 32) X (lv' := [(0, .ref (G.2.1 0)), (1, .int a1), (2, .long a2), (4, .int a4)]) dX9_findWorst_32 (by decide) rfl hF (fun x8 ex8 hF => ?_)
    refine ww_lload (pc := 34) X (j := 0) dX9_findWorst_34 rfl ?_
    refine ww_lload_n (pc := 36) X (j := 3) dX9_findWorst_36 rfl rfl ?_
    refine ww_lcmp_le (pc := 37) (tgt := 59) X dX9_findWorst_37 dX9_findWorst_38 (by decide) hF (fun h9 hF => ?_) (fun h9 hF => ?_)
    · refine ww_iinc (pc := 59) X (j := 4) (v := 1) (lv' := [(5, .long x8), (0, .ref (G.2.1 0)), (1, .int a1), (2, .long a2)]) dX9_findWorst_59 rfl rfl (by decide) rfl hF (fun x10 ex10 hF => ?_)
      refine ww_goto (pc := 62) X (tgt := 9) dX9_findWorst_62 (by decide) ?_
      exact ww_sub [2, 3, 4, 0] rfl (ih9 a1 a2 x10 σ1 hF)
    · refine ww_aload_n (pc := 41) X (j := 1) dX9_findWorst_41 rfl rfl ?_
      refine ww_get (pc := 42) X (ref := "PictureBlock") (T := TX9) (j := 11) dX9_findWorst_42 inX9_findWorst_RX9 shzC_0 clzC_9 (by decide) rfl (List.mem_of_getElem? (i := 5) rfl) rfl ?_
      refine ww_iload (pc := 45) X (j := 4) dX9_findWorst_45 rfl ?_
      obtain ⟨r12, σ13, h11, hF⟩ := bd2_some hF
      refine ww_callVi (pc := 47) X (As := [.int a4]) (rest := []) dX9_findWorst_47 (kX2_canShow (mL M) G hZ X.2.2.2.2.2.2.1 X.2.2.2.2.2.2.2.1 σ1 a4 (r12, σ13) h11) rfl shzC_137 clzC_2 gX9_findWorst_X2_canShow hyX2_canShow ⟨rfl, rfl⟩ ⟨Nat.le_of_ble_eq_true rfl, Nat.le_of_ble_eq_true rfl⟩ rfl rfl (Nat.le_of_ble_eq_true rfl) ?_
      refine ww_if_eq (pc := 50) (tgt := 59) X dX9_findWorst_50 (by decide) hF (fun h14 hF => ?_) (fun h14 hF => ?_)
      · refine ww_iinc (pc := 59) X (j := 4) (v := 1) (lv' := [(5, .long x8), (0, .ref (G.2.1 0)), (1, .int a1), (2, .long a2)]) dX9_findWorst_59 rfl rfl (by decide) rfl hF (fun x15 ex15 hF => ?_)
        refine ww_goto (pc := 62) X (tgt := 9) dX9_findWorst_62 (by decide) ?_
        exact ww_sub [2, 3, 4, 0] rfl (ih9 a1 a2 x15 σ13 hF)
      · refine ww_iload (pc := 53) X (j := 4) dX9_findWorst_53 rfl ?_
        refine ww_istore_n (pc := 55) X (lv' := [(5, .long x8), (0, .ref (G.2.1 0)), (2, .long a2), (4, .int a4)]) dX9_findWorst_55 rfl (by decide) rfl hF (fun x16 ex16 hF => ?_)
        refine ww_lload (pc := 56) X (j := 1) dX9_findWorst_56 rfl ?_
        refine ww_lstore_n (pc := 58) X (lv' := [(1, .int x16), (5, .long x8), (0, .ref (G.2.1 0)), (4, .int a4)]) dX9_findWorst_58 rfl (by decide) rfl hF (fun x17 ex17 hF => ?_)
        refine ww_iinc (pc := 59) X (j := 4) (v := 1) (lv' := [(2, .long x17), (1, .int x16), (5, .long x8), (0, .ref (G.2.1 0))]) dX9_findWorst_59 rfl rfl (by decide) rfl hF (fun x18 ex18 hF => ?_)
        refine ww_goto (pc := 62) X (tgt := 9) dX9_findWorst_62 (by decide) ?_
        exact ww_sub [4, 2, 1, 0] rfl (ih9 x16 x17 x18 σ13 hF)
set_option maxRecDepth 100000 in
set_option maxHeartbeats 4000000 in
theorem wX9_findWorst {M : gM} {G : gG} {out : Int32 × gS} (X : gX M G zC cX9_findWorst RX9 7 wsX9_findWorst rmX9_findWorst (some .int)) {ex : gEx} (hZ : ∀ s : State, G.2.2.2 s → kC ex (gA G zC.1) s) (σ : gS) (hF : fX9_findWorst σ = some out) : WW M (gQi M G zC out.1 out.2) G zC 7 σ 0 [(0, .ref (G.2.1 0))] [] := by
  unfold fX9_findWorst at hF
  refine ww_iconst (pc := 0) X (v := (-1)) dX9_findWorst_0 (by decide) ?_
  refine ww_istore_n (pc := 1) X (lv' := [(0, .ref (G.2.1 0))]) dX9_findWorst_1 rfl (by decide) rfl hF (fun x1 ex1 hF => ?_)
  refine ww_ldc2 (pc := 2) X (v := (-1)) (List.mem_of_getElem? (i := 1) rfl) dX9_findWorst_2 ?_
  refine ww_lstore_n (pc := 5) X (lv' := [(1, .int x1), (0, .ref (G.2.1 0))]) dX9_findWorst_5 rfl (by decide) rfl hF (fun x2 ex2 hF => ?_)
  refine ww_iconst (pc := 6) X (v := 0) dX9_findWorst_6 (by decide) ?_
  refine ww_istore (pc := 7) X (lv' := [(2, .long x2), (1, .int x1), (0, .ref (G.2.1 0))]) dX9_findWorst_7 (by decide) rfl hF (fun x3 ex3 hF => ?_)
  exact ww_sub [3, 2, 1, 0] rfl (lpc_ind (P := (fun (s : Int32 × Int64 × Int32 × gS) => WW M (gQi M G zC out.1 out.2) G zC 7 s.2.2.2 9 [(0, .ref (G.2.1 0)), (1, .int s.1), (2, .long s.2.1), (4, .int s.2.2.1)] [])) (fun rec s ih hF => wbX9_findWorst_9 X hZ σ (fun a1 a2 a4 σ1 => rec (a1, a2, a4, σ1)) (fun a1 a2 a4 σ1 h => ih (a1, a2, a4, σ1) h) s.1 s.2.1 s.2.2.1 s.2.2.2 hF) K9 (x1, x2, x3, σ) hF)
set_option maxRecDepth 100000 in
set_option maxHeartbeats 4000000 in
theorem kX9_findWorst (l : Launch) (G : gG) {ex : gEx} (hZ : ∀ s : State, G.2.2.2 s → kC ex (gA G zC.1) s) (hG : gOK G zC.1) (hT : G.2.2.1.map (fun q => q.2) = zC.2.1) (σ : gS) (out : Int32 × gS) (hF : fX9_findWorst σ = some out) : gCi l yX9_findWorst wsX9_findWorst rmX9_findWorst G zC [.ref (G.2.1 0)] σ out.1 out.2 :=
  gEnter (by decide) rfl ⟨rfl, rfl⟩ hG hT (Nat.le_of_ble_eq_true rfl) rfl (fun M X hl => wX9_findWorst X hZ σ hF)
noncomputable def fX9_worst (σ : gS) : Option (Int32 × gS) :=
  bd2 (fX9_findWorst σ) fun r2 σ3 => some (r2, σ3)
noncomputable abbrev rmX9_worst : Room := { frames := 5, cells := 0, slots := 0, locals := 122 }
set_option maxRecDepth 100000 in
set_option maxHeartbeats 4000000 in
theorem wX9_worst {M : gM} {G : gG} {out : Int32 × gS} (X : gX M G zC cX9_worst RX9 1 wsX9_worst rmX9_worst (some .int)) {ex : gEx} (hZ : ∀ s : State, G.2.2.2 s → kC ex (gA G zC.1) s) (σ : gS) (hF : fX9_worst σ = some out) : WW M (gQi M G zC out.1 out.2) G zC 1 σ 0 [(0, .ref (G.2.1 0))] [] := by
  unfold fX9_worst at hF
  refine ww_aload_n (pc := 0) X (j := 0) dX9_worst_0 rfl rfl ?_
  obtain ⟨r2, σ3, h1, hF⟩ := bd2_some hF
  refine ww_callVi (pc := 1) X (As := []) (rest := []) dX9_worst_1 (kX9_findWorst (mL M) G hZ X.2.2.2.2.2.2.1 X.2.2.2.2.2.2.2.1 σ (r2, σ3) h1) rfl shzC_0 clzC_9 gX9_worst_X9_findWorst hyX9_findWorst ⟨rfl, rfl⟩ ⟨Nat.le_of_ble_eq_true rfl, Nat.le_of_ble_eq_true rfl⟩ rfl rfl (Nat.le_of_ble_eq_true rfl) ?_
  exact ww_iret (pc := 4) X dX9_worst_4 (fst_of hF) (snd_of hF)
set_option maxRecDepth 100000 in
set_option maxHeartbeats 4000000 in
theorem kX9_worst (l : Launch) (G : gG) {ex : gEx} (hZ : ∀ s : State, G.2.2.2 s → kC ex (gA G zC.1) s) (hG : gOK G zC.1) (hT : G.2.2.1.map (fun q => q.2) = zC.2.1) (σ : gS) (out : Int32 × gS) (hF : fX9_worst σ = some out) : gCi l yX9_worst wsX9_worst rmX9_worst G zC [.ref (G.2.1 0)] σ out.1 out.2 :=
  gEnter (by decide) rfl ⟨rfl, rfl⟩ hG hT (Nat.le_of_ble_eq_true rfl) rfl (fun M X hl => wX9_worst X hZ σ hF)
noncomputable def jX9_drop_9 (σ : gS) (a1 : Int32) (z0 : Int32) : Option (Int32 × gS) :=
  nm (z0 : Int32) fun x2 => bd (fX8_exists_2 σ 3 a1) fun r4 => (if r4 = 0 then some (0, σ) else gd (gb a1 60) <| nm (σ.1 58 a1.toNatClampNeg) fun v6 => (if v6 = x2 then some (0, σ) else gd (gb a1 60) <| nm (gsI σ 58 a1.toNatClampNeg x2) fun σ8 => some (1, σ8)))
noncomputable def fX9_drop (σ : gS) (p1 : Int32) (p2 : Int32) : Option (Int32 × gS) :=
  if p2 = 0 then jX9_drop_9 σ p1 0 else jX9_drop_9 σ p1 1
noncomputable abbrev rmX9_drop : Room := { frames := 1, cells := 0, slots := 0, locals := 22 }
set_option maxRecDepth 100000 in
set_option maxHeartbeats 4000000 in
theorem wjX9_drop_9 {M : gM} {G : gG} {out : Int32 × gS} (X : gX M G zC cX9_drop RX9 4 wsX9_drop rmX9_drop (some .boolean)) {ex : gEx} (hZ : ∀ s : State, G.2.2.2 s → kC ex (gA G zC.1) s) (σ : gS) (a1 : Int32) (z0 : Int32) (hF : jX9_drop_9 σ a1 z0 = some out) : WW M (gQi M G zC out.1 out.2) G zC 4 σ 9 [(0, .ref (G.2.1 0)), (1, .int a1)] [.int z0] := by
  unfold jX9_drop_9 at hF
  refine ww_istore_n (pc := 9) X (lv' := [(0, .ref (G.2.1 0)), (1, .int a1)]) dX9_drop_9 rfl (by decide) rfl hF (fun x2 ex2 hF => ?_)
  refine ww_aload_n (pc := 10) X (j := 1) dX9_drop_10 rfl rfl ?_
  refine ww_get (pc := 11) X (ref := "PictureBlock") (T := TX9) (j := 2) dX9_drop_11 inX9_drop_RX9 shzC_0 clzC_9 (by decide) rfl (List.mem_of_getElem? (i := 1) rfl) rfl ?_
  refine ww_iconst (pc := 14) X (v := 3) dX9_drop_14 (by decide) ?_
  refine ww_iload_n (pc := 15) X (j := 2) dX9_drop_15 rfl rfl ?_
  obtain ⟨r4, h3, hF⟩ := bd_some hF
  refine ww_callVi (pc := 16) X (As := [.int 3, .int a1]) (rest := []) dX9_drop_16 (kX8_exists_2 (mL M) G hZ X.2.2.2.2.2.2.1 X.2.2.2.2.2.2.2.1 σ 3 a1 r4 h3) rfl shzC_2 clzC_8 gX9_drop_X8_exists hyX8_exists ⟨rfl, rfl⟩ ⟨Nat.le_of_ble_eq_true rfl, Nat.le_of_ble_eq_true rfl⟩ rfl rfl (Nat.le_of_ble_eq_true rfl) ?_
  refine ww_if_eq (pc := 19) (tgt := 35) X dX9_drop_19 (by decide) hF (fun h5 hF => ?_) (fun h5 hF => ?_)
  · refine ww_iconst (pc := 35) X (v := 0) dX9_drop_35 (by decide) ?_
    exact ww_zret (pc := 36) X dX9_drop_36 (by cases hF; rfl) (by cases hF; rfl)
  · refine ww_aload_n (pc := 22) X (j := 1) dX9_drop_22 rfl rfl ?_
    refine ww_get (pc := 23) X (ref := "PictureBlock") (T := TX9) (j := 5) dX9_drop_23 inX9_drop_RX9 shzC_0 clzC_9 (by decide) rfl (List.mem_of_getElem? (i := 2) rfl) rfl ?_
    refine ww_get (pc := 26) X (ref := "PictureBlock$Stand") (T := TX5) (j := 6) dX9_drop_26 inX9_drop_RX5 shzC_47 clzC_5 (by decide) rfl (List.mem_of_getElem? (i := 3) rfl) rfl ?_
    refine ww_iload_n (pc := 29) X (j := 2) dX9_drop_29 rfl rfl ?_
    refine ww_iald (pc := 30) X dX9_drop_30 shzC_58 rfl hF (fun v6 ev6 bv6 hF => ?_)
    refine ww_iload_n (pc := 31) X (j := 0) dX9_drop_31 rfl rfl ?_
    refine ww_icmp_ne (pc := 32) (tgt := 37) X dX9_drop_32 (by decide) hF (fun h7 hF => ?_) (fun h7 hF => ?_)
    · refine ww_aload_n (pc := 37) X (j := 1) dX9_drop_37 rfl rfl ?_
      refine ww_get (pc := 38) X (ref := "PictureBlock") (T := TX9) (j := 5) dX9_drop_38 inX9_drop_RX9 shzC_0 clzC_9 (by decide) rfl (List.mem_of_getElem? (i := 2) rfl) rfl ?_
      refine ww_get (pc := 41) X (ref := "PictureBlock$Stand") (T := TX5) (j := 6) dX9_drop_41 inX9_drop_RX5 shzC_47 clzC_5 (by decide) rfl (List.mem_of_getElem? (i := 3) rfl) rfl ?_
      refine ww_iload_n (pc := 44) X (j := 2) dX9_drop_44 rfl rfl ?_
      refine ww_iload_n (pc := 45) X (j := 0) dX9_drop_45 rfl rfl ?_
      refine ww_iast (pc := 46) X dX9_drop_46 shzC_58 rfl hF (fun σ8 eσ8 bσ8 hF => ?_)
      refine ww_iconst (pc := 47) X (v := 1) dX9_drop_47 (by decide) ?_
      exact ww_zret (pc := 48) X dX9_drop_48 (by cases hF; rfl) (by cases hF; rfl)
    · refine ww_iconst (pc := 35) X (v := 0) dX9_drop_35 (by decide) ?_
      exact ww_zret (pc := 36) X dX9_drop_36 (by cases hF; rfl) (by cases hF; rfl)
set_option maxRecDepth 100000 in
set_option maxHeartbeats 4000000 in
theorem wX9_drop {M : gM} {G : gG} {out : Int32 × gS} (X : gX M G zC cX9_drop RX9 4 wsX9_drop rmX9_drop (some .boolean)) {ex : gEx} (hZ : ∀ s : State, G.2.2.2 s → kC ex (gA G zC.1) s) (σ : gS) (p1 : Int32) (p2 : Int32) (hF : fX9_drop σ p1 p2 = some out) : WW M (gQi M G zC out.1 out.2) G zC 4 σ 0 [(0, .ref (G.2.1 0)), (1, .int p1), (2, .int p2)] [] := by
  unfold fX9_drop at hF
  refine ww_iload_n (pc := 0) X (j := 2) dX9_drop_0 rfl rfl ?_
  refine ww_if_eq (pc := 1) (tgt := 8) X dX9_drop_1 (by decide) hF (fun h1 hF => ?_) (fun h1 hF => ?_)
  · refine ww_iconst (pc := 8) X (v := 0) dX9_drop_8 (by decide) ?_
    exact ww_sub [0, 1] rfl (wjX9_drop_9 X hZ σ p1 0 hF)
  · refine ww_iconst (pc := 4) X (v := 1) dX9_drop_4 (by decide) ?_
    refine ww_goto (pc := 5) X (tgt := 9) dX9_drop_5 (by decide) ?_
    exact ww_sub [0, 1] rfl (wjX9_drop_9 X hZ σ p1 1 hF)
set_option maxRecDepth 100000 in
set_option maxHeartbeats 4000000 in
theorem kX9_drop (l : Launch) (G : gG) {ex : gEx} (hZ : ∀ s : State, G.2.2.2 s → kC ex (gA G zC.1) s) (hG : gOK G zC.1) (hT : G.2.2.1.map (fun q => q.2) = zC.2.1) (σ : gS) (p1 : Int32) (p2 : Int32) (out : Int32 × gS) (hF : fX9_drop σ p1 p2 = some out) : gCi l yX9_drop wsX9_drop rmX9_drop G zC [.ref (G.2.1 0), .int p1, .int p2] σ out.1 out.2 :=
  gEnter (by decide) rfl ⟨rfl, rfl⟩ hG hT (Nat.le_of_ble_eq_true rfl) rfl (fun M X hl => wX9_drop X hZ σ p1 p2 hF)
noncomputable def bX9_dropAbove_20 (σ : gS) (c20_1 : Int64) (rec20 : Int32 → gS → Option (Int32 × gS)) (a3 : Int32) (σ1 : gS) : Option (Int32 × gS) :=
  if 20 ≤ a3 then some (20, σ1) else bd2 (fX9_findWorst σ1) fun r9 σ10 => nm (r9 : Int32) fun x11 => (if x11 = ((-1)) then some (a3, σ10) else bd (fX5_doubtOf_47 σ10 x11) fun r14 => (if c20_1 < r14 then gd (gb x11 60) <| nm (gsI σ10 58 x11.toNatClampNeg 1) fun σ16 => gd (gb x11 60) <| nm (gsI σ16 199 x11.toNatClampNeg 1) fun σ17 => bd2 (fX1_settle σ17 50) fun r19 σ20 => nm (a3 + 1 : Int32) fun x21 => rec20 x21 σ20 else some (a3, σ10)))
noncomputable def fX9_dropAbove (σ : gS) (p1 : Int64) : Option (Int32 × gS) :=
  bd (fJ7_fill_53178 σ 199 0) fun σ2 => bd2 (fX1_settle σ2 50) fun r4 σ5 => nm (0 : Int32) fun x6 => lpc (S := Int32 × gS) K9 (fun rec s => bX9_dropAbove_20 σ5 p1 (fun a3 σ1 => rec (a3, σ1)) s.1 s.2) (x6, σ5)
noncomputable abbrev rmX9_dropAbove : Room := { frames := 5, cells := 0, slots := 0, locals := 122 }
set_option maxRecDepth 100000 in
set_option maxHeartbeats 4000000 in
theorem wbX9_dropAbove_20 {M : gM} {G : gG} {out : Int32 × gS} (X : gX M G zC cX9_dropAbove RX9 5 wsX9_dropAbove rmX9_dropAbove (some .int)) {ex : gEx} (hZ : ∀ s : State, G.2.2.2 s → kC ex (gA G zC.1) s) (σ : gS) (c20_1 : Int64) (rec20 : Int32 → gS → Option (Int32 × gS)) (ih20 : ∀ (a3 : Int32) (σ1 : gS), rec20 a3 σ1 = some out → WW M (gQi M G zC out.1 out.2) G zC 5 σ1 20 [(0, .ref (G.2.1 0)), (1, .long c20_1), (3, .int a3)] []) (a3 : Int32) (σ1 : gS) (hF : bX9_dropAbove_20 σ c20_1 rec20 a3 σ1 = some out) : WW M (gQi M G zC out.1 out.2) G zC 5 σ1 20 [(0, .ref (G.2.1 0)), (1, .long c20_1), (3, .int a3)] [] := by
  unfold bX9_dropAbove_20 at hF
  refine ww_iload_n (pc := 20) X (j := 2) dX9_dropAbove_20 rfl rfl ?_
  refine ww_bipush (pc := 21) X (v := 20) dX9_dropAbove_21 (by decide) ?_
  refine ww_icmp_ge (pc := 23) (tgt := 89) X dX9_dropAbove_23 (by decide) hF (fun h7 hF => ?_) (fun h7 hF => ?_)
  · refine ww_bipush (pc := 89) X (v := 20) dX9_dropAbove_89 (by decide) ?_
    exact ww_iret (pc := 91) X dX9_dropAbove_91 (fst_of hF) (snd_of hF)
  · refine ww_aload_n (pc := 26) X (j := 0) dX9_dropAbove_26 rfl rfl ?_
    obtain ⟨r9, σ10, h8, hF⟩ := bd2_some hF
    refine ww_callVi (pc := 27) X (As := []) (rest := []) dX9_dropAbove_27 (kX9_findWorst (mL M) G hZ X.2.2.2.2.2.2.1 X.2.2.2.2.2.2.2.1 σ1 (r9, σ10) h8) rfl shzC_0 clzC_9 gX9_dropAbove_X9_findWorst hyX9_findWorst ⟨rfl, rfl⟩ ⟨Nat.le_of_ble_eq_true rfl, Nat.le_of_ble_eq_true rfl⟩ rfl rfl (Nat.le_of_ble_eq_true rfl) ?_
    refine ww_istore (pc := 30) X (lv' := [(0, .ref (G.2.1 0)), (1, .long c20_1), (3, .int a3)]) dX9_dropAbove_30 (by decide) rfl hF (fun x11 ex11 hF => ?_)
    refine ww_iload (pc := 32) X (j := 0) dX9_dropAbove_32 rfl ?_
    refine ww_iconst (pc := 34) X (v := (-1)) dX9_dropAbove_34 (by decide) ?_
    refine ww_icmp_eq (pc := 35) (tgt := 52) X dX9_dropAbove_35 (by decide) hF (fun h12 hF => ?_) (fun h12 hF => ?_)
    · refine ww_iload_n (pc := 52) X (j := 3) dX9_dropAbove_52 rfl rfl ?_
      exact ww_iret (pc := 53) X dX9_dropAbove_53 (fst_of hF) (snd_of hF)
    · refine ww_aload_n (pc := 38) X (j := 1) dX9_dropAbove_38 rfl rfl ?_
      refine ww_get (pc := 39) X (ref := "PictureBlock") (T := TX9) (j := 5) dX9_dropAbove_39 inX9_dropAbove_RX9 shzC_0 clzC_9 (by decide) rfl (List.mem_of_getElem? (i := 3) rfl) rfl ?_
      refine ww_iload (pc := 42) X (j := 0) dX9_dropAbove_42 rfl ?_
      obtain ⟨r14, h13, hF⟩ := bd_some hF
      refine ww_callVl (pc := 44) X (As := [.int x11]) (rest := []) dX9_dropAbove_44 (kX5_doubtOf_47 (mL M) G hZ X.2.2.2.2.2.2.1 X.2.2.2.2.2.2.2.1 σ10 x11 r14 h13) rfl shzC_47 clzC_5 gX9_dropAbove_X5_doubtOf hyX5_doubtOf ⟨rfl, rfl⟩ ⟨Nat.le_of_ble_eq_true rfl, Nat.le_of_ble_eq_true rfl⟩ rfl rfl (Nat.le_of_ble_eq_true rfl) ?_
      refine ww_lload_n (pc := 47) X (j := 2) dX9_dropAbove_47 rfl rfl ?_
      refine ww_lcmp_gt (pc := 48) (tgt := 54) X dX9_dropAbove_48 dX9_dropAbove_49 (by decide) hF (fun h15 hF => ?_) (fun h15 hF => ?_)
      · refine ww_aload_n (pc := 54) X (j := 1) dX9_dropAbove_54 rfl rfl ?_
        refine ww_get (pc := 55) X (ref := "PictureBlock") (T := TX9) (j := 5) dX9_dropAbove_55 inX9_dropAbove_RX9 shzC_0 clzC_9 (by decide) rfl (List.mem_of_getElem? (i := 3) rfl) rfl ?_
        refine ww_get (pc := 58) X (ref := "PictureBlock$Stand") (T := TX5) (j := 6) dX9_dropAbove_58 inX9_dropAbove_RX5 shzC_47 clzC_5 (by decide) rfl (List.mem_of_getElem? (i := 4) rfl) rfl ?_
        refine ww_iload (pc := 61) X (j := 0) dX9_dropAbove_61 rfl ?_
        refine ww_iconst (pc := 63) X (v := 1) dX9_dropAbove_63 (by decide) ?_
        refine ww_iast (pc := 64) X dX9_dropAbove_64 shzC_58 rfl hF (fun σ16 eσ16 bσ16 hF => ?_)
        refine ww_aload_n (pc := 65) X (j := 1) dX9_dropAbove_65 rfl rfl ?_
        refine ww_get (pc := 66) X (ref := "PictureBlock") (T := TX9) (j := 14) dX9_dropAbove_66 inX9_dropAbove_RX9 shzC_0 clzC_9 (by decide) rfl (List.mem_of_getElem? (i := 1) rfl) rfl ?_
        refine ww_iload (pc := 69) X (j := 0) dX9_dropAbove_69 rfl ?_
        refine ww_iconst (pc := 71) X (v := 1) dX9_dropAbove_71 (by decide) ?_
        refine ww_iast (pc := 72) X dX9_dropAbove_72 shzC_199 rfl hF (fun σ17 eσ17 bσ17 hF => ?_)
        refine ww_aload_n (pc := 73) X (j := 1) dX9_dropAbove_73 rfl rfl ?_
        refine ww_get (pc := 74) X (ref := "PictureBlock") (T := TX9) (j := 9) dX9_dropAbove_74 inX9_dropAbove_RX9 shzC_0 clzC_9 (by decide) rfl (List.mem_of_getElem? (i := 2) rfl) rfl ?_
        refine ww_bipush (pc := 77) X (v := 50) dX9_dropAbove_77 (by decide) ?_
        obtain ⟨r19, σ20, h18, hF⟩ := bd2_some hF
        refine ww_callVi (pc := 79) X (As := [.int 50]) (rest := []) dX9_dropAbove_79 (kX1_settle (mL M) G hZ X.2.2.2.2.2.2.1 X.2.2.2.2.2.2.2.1 σ17 50 (r19, σ20) h18) rfl shzC_90 clzC_1 gX9_dropAbove_X1_settle hyX1_settle ⟨rfl, rfl⟩ ⟨Nat.le_of_ble_eq_true rfl, Nat.le_of_ble_eq_true rfl⟩ rfl rfl (Nat.le_of_ble_eq_true rfl) ?_
        refine ww_pop (pc := 82) X dX9_dropAbove_82 rfl ?_
        refine ww_iinc (pc := 83) X (j := 3) (v := 1) (lv' := [(4, .int x11), (0, .ref (G.2.1 0)), (1, .long c20_1)]) dX9_dropAbove_83 rfl rfl (by decide) rfl hF (fun x21 ex21 hF => ?_)
        refine ww_goto (pc := 86) X (tgt := 20) dX9_dropAbove_86 (by decide) ?_
        exact ww_sub [2, 3, 0] rfl (ih20 x21 σ20 hF)
      · refine ww_iload_n (pc := 52) X (j := 3) dX9_dropAbove_52 rfl rfl ?_
        exact ww_iret (pc := 53) X dX9_dropAbove_53 (fst_of hF) (snd_of hF)
set_option maxRecDepth 100000 in
set_option maxHeartbeats 4000000 in
theorem wX9_dropAbove {M : gM} {G : gG} {out : Int32 × gS} (X : gX M G zC cX9_dropAbove RX9 5 wsX9_dropAbove rmX9_dropAbove (some .int)) {ex : gEx} (hZ : ∀ s : State, G.2.2.2 s → kC ex (gA G zC.1) s) (σ : gS) (p1 : Int64) (hF : fX9_dropAbove σ p1 = some out) : WW M (gQi M G zC out.1 out.2) G zC 5 σ 0 [(0, .ref (G.2.1 0)), (1, .long p1)] [] := by
  unfold fX9_dropAbove at hF
  refine ww_aload_n (pc := 0) X (j := 0) dX9_dropAbove_0 rfl rfl ?_
  refine ww_get (pc := 1) X (ref := "PictureBlock") (T := TX9) (j := 14) dX9_dropAbove_1 inX9_dropAbove_RX9 shzC_0 clzC_9 (by decide) rfl (List.mem_of_getElem? (i := 1) rfl) rfl ?_
  refine ww_iconst (pc := 4) X (v := 0) dX9_dropAbove_4 (by decide) ?_
  obtain ⟨σ2, h1, hF⟩ := bd_some hF
  refine ww_callSv (pc := 5) X (As := [.ref (G.2.1 199), .int 0]) (rest := []) dX9_dropAbove_5 (kJ7_fill_53178 (mL M) G hZ X.2.2.2.2.2.2.1 X.2.2.2.2.2.2.2.1 σ 199 0 σ2 h1) rfl gX9_dropAbove_J7_fill_53178 hyJ7_fill_53178 ⟨rfl, rfl⟩ ⟨Nat.le_of_ble_eq_true rfl, Nat.le_of_ble_eq_true rfl⟩ rfl rfl (Nat.le_of_ble_eq_true rfl) ?_
  refine ww_aload_n (pc := 8) X (j := 0) dX9_dropAbove_8 rfl rfl ?_
  refine ww_get (pc := 9) X (ref := "PictureBlock") (T := TX9) (j := 9) dX9_dropAbove_9 inX9_dropAbove_RX9 shzC_0 clzC_9 (by decide) rfl (List.mem_of_getElem? (i := 2) rfl) rfl ?_
  refine ww_bipush (pc := 12) X (v := 50) dX9_dropAbove_12 (by decide) ?_
  obtain ⟨r4, σ5, h3, hF⟩ := bd2_some hF
  refine ww_callVi (pc := 14) X (As := [.int 50]) (rest := []) dX9_dropAbove_14 (kX1_settle (mL M) G hZ X.2.2.2.2.2.2.1 X.2.2.2.2.2.2.2.1 σ2 50 (r4, σ5) h3) rfl shzC_90 clzC_1 gX9_dropAbove_X1_settle hyX1_settle ⟨rfl, rfl⟩ ⟨Nat.le_of_ble_eq_true rfl, Nat.le_of_ble_eq_true rfl⟩ rfl rfl (Nat.le_of_ble_eq_true rfl) ?_
  refine ww_pop (pc := 17) X dX9_dropAbove_17 rfl ?_
  refine ww_iconst (pc := 18) X (v := 0) dX9_dropAbove_18 (by decide) ?_
  refine ww_istore_n (pc := 19) X (lv' := [(0, .ref (G.2.1 0)), (1, .long p1)]) dX9_dropAbove_19 rfl (by decide) rfl hF (fun x6 ex6 hF => ?_)
  exact ww_sub [1, 2, 0] rfl (lpc_ind (P := (fun (s : Int32 × gS) => WW M (gQi M G zC out.1 out.2) G zC 5 s.2 20 [(0, .ref (G.2.1 0)), (1, .long p1), (3, .int s.1)] [])) (fun rec s ih hF => wbX9_dropAbove_20 X hZ σ5 p1 (fun a3 σ1 => rec (a3, σ1)) (fun a3 σ1 h => ih (a3, σ1) h) s.1 s.2 hF) K9 (x6, σ5) hF)
set_option maxRecDepth 100000 in
set_option maxHeartbeats 4000000 in
theorem kX9_dropAbove (l : Launch) (G : gG) {ex : gEx} (hZ : ∀ s : State, G.2.2.2 s → kC ex (gA G zC.1) s) (hG : gOK G zC.1) (hT : G.2.2.1.map (fun q => q.2) = zC.2.1) (σ : gS) (p1 : Int64) (out : Int32 × gS) (hF : fX9_dropAbove σ p1 = some out) : gCi l yX9_dropAbove wsX9_dropAbove rmX9_dropAbove G zC [.ref (G.2.1 0), .long p1] σ out.1 out.2 :=
  gEnter (by decide) rfl ⟨rfl, rfl⟩ hG hT (Nat.le_of_ble_eq_true rfl) rfl (fun M X hl => wX9_dropAbove X hZ σ p1 hF)
noncomputable def bX9_putBack_5 (σ : gS) (c5_1 : Int64) (rec5 : Int32 → Int32 → gS → Option (Int32 × gS)) (a3 : Int32) (a4 : Int32) (σ1 : gS) : Option (Int32 × gS) :=
  gd (gb 3 6) <| nm (σ1.1 3 ((3 : Int32).toNatClampNeg)) fun v3 => (if v3 ≤ a4 then some (a3, σ1) else gd (gb a4 60) <| nm (σ1.1 199 a4.toNatClampNeg) fun v5 => (if v5 = 1 then bd (fX5_doubtOf_47 σ1 a4) fun r9 => (if c5_1 < r9 then nm (a4 + 1 : Int32) fun x11 => rec5 a3 x11 σ1 else gd (gb a4 60) <| nm (gsI σ1 58 a4.toNatClampNeg 0) fun σ12 => nm (a3 + 1 : Int32) fun x13 => nm (a4 + 1 : Int32) fun x14 => rec5 x13 x14 σ12) else nm (a4 + 1 : Int32) fun x7 => rec5 a3 x7 σ1))
noncomputable def fX9_putBack (σ : gS) (p1 : Int64) : Option (Int32 × gS) :=
  nm (0 : Int32) fun x1 => nm (0 : Int32) fun x2 => lpc (S := Int32 × Int32 × gS) K9 (fun rec s => bX9_putBack_5 σ p1 (fun a3 a4 σ1 => rec (a3, a4, σ1)) s.1 s.2.1 s.2.2) (x1, x2, σ)
noncomputable abbrev rmX9_putBack : Room := { frames := 4, cells := 0, slots := 0, locals := 96 }
set_option maxRecDepth 100000 in
set_option maxHeartbeats 4000000 in
theorem wbX9_putBack_5 {M : gM} {G : gG} {out : Int32 × gS} (X : gX M G zC cX9_putBack RX9 5 wsX9_putBack rmX9_putBack (some .int)) {ex : gEx} (hZ : ∀ s : State, G.2.2.2 s → kC ex (gA G zC.1) s) (σ : gS) (c5_1 : Int64) (rec5 : Int32 → Int32 → gS → Option (Int32 × gS)) (ih5 : ∀ (a3 : Int32) (a4 : Int32) (σ1 : gS), rec5 a3 a4 σ1 = some out → WW M (gQi M G zC out.1 out.2) G zC 5 σ1 5 [(0, .ref (G.2.1 0)), (1, .long c5_1), (3, .int a3), (4, .int a4)] []) (a3 : Int32) (a4 : Int32) (σ1 : gS) (hF : bX9_putBack_5 σ c5_1 rec5 a3 a4 σ1 = some out) : WW M (gQi M G zC out.1 out.2) G zC 5 σ1 5 [(0, .ref (G.2.1 0)), (1, .long c5_1), (3, .int a3), (4, .int a4)] [] := by
  unfold bX9_putBack_5 at hF
  refine ww_iload (pc := 5) X (j := 3) dX9_putBack_5 rfl ?_
  refine ww_aload_n (pc := 7) X (j := 0) dX9_putBack_7 rfl rfl ?_
  refine ww_get (pc := 8) X (ref := "PictureBlock") (T := TX9) (j := 2) dX9_putBack_8 inX9_putBack_RX9 shzC_0 clzC_9 (by decide) rfl (List.mem_of_getElem? (i := 1) rfl) rfl ?_
  refine ww_get (pc := 11) X (ref := "PictureBlock$Told") (T := TX8) (j := 0) dX9_putBack_11 inX9_putBack_RX8 shzC_2 clzC_8 (by decide) rfl (List.mem_of_getElem? (i := 2) rfl) rfl ?_
  refine ww_iconst (pc := 14) X (v := 3) dX9_putBack_14 (by decide) ?_
  refine ww_iald (pc := 15) X dX9_putBack_15 shzC_3 rfl hF (fun v3 ev3 bv3 hF => ?_)
  refine ww_icmp_ge (pc := 16) (tgt := 64) X dX9_putBack_16 (by decide) hF (fun h4 hF => ?_) (fun h4 hF => ?_)
  · refine ww_iload_n (pc := 64) X (j := 2) dX9_putBack_64 rfl rfl ?_
    exact ww_iret (pc := 65) X dX9_putBack_65 (fst_of hF) (snd_of hF)
  · refine ww_aload_n (pc := 19) X (j := 0) dX9_putBack_19 rfl rfl ?_
    refine ww_get (pc := 20) X (ref := "PictureBlock") (T := TX9) (j := 14) dX9_putBack_20 inX9_putBack_RX9 shzC_0 clzC_9 (by decide) rfl (List.mem_of_getElem? (i := 3) rfl) rfl ?_
    refine ww_iload (pc := 23) X (j := 3) dX9_putBack_23 rfl ?_
    refine ww_iald (pc := 25) X dX9_putBack_25 shzC_199 rfl hF (fun v5 ev5 bv5 hF => ?_)
    refine ww_iconst (pc := 26) X (v := 1) dX9_putBack_26 (by decide) ?_
    refine ww_icmp_ne (pc := 27) (tgt := 58) X dX9_putBack_27 (by decide) hF (fun h6 hF => ?_) (fun h6 hF => ?_)
    · refine ww_iinc (pc := 58) X (j := 3) (v := 1) (lv' := [(0, .ref (G.2.1 0)), (1, .long c5_1), (3, .int a3)]) dX9_putBack_58 rfl rfl (by decide) rfl hF (fun x7 ex7 hF => ?_)
      refine ww_goto (pc := 61) X (tgt := 5) dX9_putBack_61 (by decide) ?_
      exact ww_sub [1, 2, 3, 0] rfl (ih5 a3 x7 σ1 hF)
    · refine ww_aload_n (pc := 30) X (j := 0) dX9_putBack_30 rfl rfl ?_
      refine ww_get (pc := 31) X (ref := "PictureBlock") (T := TX9) (j := 5) dX9_putBack_31 inX9_putBack_RX9 shzC_0 clzC_9 (by decide) rfl (List.mem_of_getElem? (i := 4) rfl) rfl ?_
      refine ww_iload (pc := 34) X (j := 3) dX9_putBack_34 rfl ?_
      obtain ⟨r9, h8, hF⟩ := bd_some hF
      refine ww_callVl (pc := 36) X (As := [.int a4]) (rest := []) dX9_putBack_36 (kX5_doubtOf_47 (mL M) G hZ X.2.2.2.2.2.2.1 X.2.2.2.2.2.2.2.1 σ1 a4 r9 h8) rfl shzC_47 clzC_5 gX9_putBack_X5_doubtOf hyX5_doubtOf ⟨rfl, rfl⟩ ⟨Nat.le_of_ble_eq_true rfl, Nat.le_of_ble_eq_true rfl⟩ rfl rfl (Nat.le_of_ble_eq_true rfl) ?_
      refine ww_lload_n (pc := 39) X (j := 1) dX9_putBack_39 rfl rfl ?_
      refine ww_lcmp_gt (pc := 40) (tgt := 58) X dX9_putBack_40 dX9_putBack_41 (by decide) hF (fun h10 hF => ?_) (fun h10 hF => ?_)
      · refine ww_iinc (pc := 58) X (j := 3) (v := 1) (lv' := [(0, .ref (G.2.1 0)), (1, .long c5_1), (3, .int a3)]) dX9_putBack_58 rfl rfl (by decide) rfl hF (fun x11 ex11 hF => ?_)
        refine ww_goto (pc := 61) X (tgt := 5) dX9_putBack_61 (by decide) ?_
        exact ww_sub [1, 2, 3, 0] rfl (ih5 a3 x11 σ1 hF)
      · refine ww_aload_n (pc := 44) X (j := 0) dX9_putBack_44 rfl rfl ?_
        refine ww_get (pc := 45) X (ref := "PictureBlock") (T := TX9) (j := 5) dX9_putBack_45 inX9_putBack_RX9 shzC_0 clzC_9 (by decide) rfl (List.mem_of_getElem? (i := 4) rfl) rfl ?_
        refine ww_get (pc := 48) X (ref := "PictureBlock$Stand") (T := TX5) (j := 6) dX9_putBack_48 inX9_putBack_RX5 shzC_47 clzC_5 (by decide) rfl (List.mem_of_getElem? (i := 5) rfl) rfl ?_
        refine ww_iload (pc := 51) X (j := 3) dX9_putBack_51 rfl ?_
        refine ww_iconst (pc := 53) X (v := 0) dX9_putBack_53 (by decide) ?_
        refine ww_iast (pc := 54) X dX9_putBack_54 shzC_58 rfl hF (fun σ12 eσ12 bσ12 hF => ?_)
        refine ww_iinc (pc := 55) X (j := 2) (v := 1) (lv' := [(0, .ref (G.2.1 0)), (1, .long c5_1), (4, .int a4)]) dX9_putBack_55 rfl rfl (by decide) rfl hF (fun x13 ex13 hF => ?_)
        refine ww_iinc (pc := 58) X (j := 3) (v := 1) (lv' := [(3, .int x13), (0, .ref (G.2.1 0)), (1, .long c5_1)]) dX9_putBack_58 rfl rfl (by decide) rfl hF (fun x14 ex14 hF => ?_)
        refine ww_goto (pc := 61) X (tgt := 5) dX9_putBack_61 (by decide) ?_
        exact ww_sub [2, 3, 1, 0] rfl (ih5 x13 x14 σ12 hF)
set_option maxRecDepth 100000 in
set_option maxHeartbeats 4000000 in
theorem wX9_putBack {M : gM} {G : gG} {out : Int32 × gS} (X : gX M G zC cX9_putBack RX9 5 wsX9_putBack rmX9_putBack (some .int)) {ex : gEx} (hZ : ∀ s : State, G.2.2.2 s → kC ex (gA G zC.1) s) (σ : gS) (p1 : Int64) (hF : fX9_putBack σ p1 = some out) : WW M (gQi M G zC out.1 out.2) G zC 5 σ 0 [(0, .ref (G.2.1 0)), (1, .long p1)] [] := by
  unfold fX9_putBack at hF
  refine ww_iconst (pc := 0) X (v := 0) dX9_putBack_0 (by decide) ?_
  refine ww_istore_n (pc := 1) X (lv' := [(0, .ref (G.2.1 0)), (1, .long p1)]) dX9_putBack_1 rfl (by decide) rfl hF (fun x1 ex1 hF => ?_)
  refine ww_iconst (pc := 2) X (v := 0) dX9_putBack_2 (by decide) ?_
  refine ww_istore (pc := 3) X (lv' := [(3, .int x1), (0, .ref (G.2.1 0)), (1, .long p1)]) dX9_putBack_3 (by decide) rfl hF (fun x2 ex2 hF => ?_)
  exact ww_sub [2, 3, 1, 0] rfl (lpc_ind (P := (fun (s : Int32 × Int32 × gS) => WW M (gQi M G zC out.1 out.2) G zC 5 s.2.2 5 [(0, .ref (G.2.1 0)), (1, .long p1), (3, .int s.1), (4, .int s.2.1)] [])) (fun rec s ih hF => wbX9_putBack_5 X hZ σ p1 (fun a3 a4 σ1 => rec (a3, a4, σ1)) (fun a3 a4 σ1 h => ih (a3, a4, σ1) h) s.1 s.2.1 s.2.2 hF) K9 (x1, x2, σ) hF)
set_option maxRecDepth 100000 in
set_option maxHeartbeats 4000000 in
theorem kX9_putBack (l : Launch) (G : gG) {ex : gEx} (hZ : ∀ s : State, G.2.2.2 s → kC ex (gA G zC.1) s) (hG : gOK G zC.1) (hT : G.2.2.1.map (fun q => q.2) = zC.2.1) (σ : gS) (p1 : Int64) (out : Int32 × gS) (hF : fX9_putBack σ p1 = some out) : gCi l yX9_putBack wsX9_putBack rmX9_putBack G zC [.ref (G.2.1 0), .long p1] σ out.1 out.2 :=
  gEnter (by decide) rfl ⟨rfl, rfl⟩ hG hT (Nat.le_of_ble_eq_true rfl) rfl (fun M X hl => wX9_putBack X hZ σ p1 hF)
noncomputable def fX9_clean (σ : gS) (p1 : Int64) : Option (Int32 × gS) :=
  if 0 ≤ p1 then bd2 (fX9_dropAbove σ p1) fun r3 σ4 => nm (r3 : Int32) fun x5 => bd2 (fX9_putBack σ4 p1) fun r7 σ8 => nm (r7 : Int32) fun x9 => (if x9 ≤ 0 then some (x5 - x9, σ8) else bd2 (fX1_settle σ8 50) fun r12 σ13 => some (x5 - x9, σ13)) else some ((-1), σ)
noncomputable abbrev rmX9_clean : Room := { frames := 6, cells := 0, slots := 0, locals := 146 }
set_option maxRecDepth 100000 in
set_option maxHeartbeats 4000000 in
theorem wX9_clean {M : gM} {G : gG} {out : Int32 × gS} (X : gX M G zC cX9_clean RX9 5 wsX9_clean rmX9_clean (some .int)) {ex : gEx} (hZ : ∀ s : State, G.2.2.2 s → kC ex (gA G zC.1) s) (σ : gS) (p1 : Int64) (hF : fX9_clean σ p1 = some out) : WW M (gQi M G zC out.1 out.2) G zC 5 σ 0 [(0, .ref (G.2.1 0)), (1, .long p1)] [] := by
  unfold fX9_clean at hF
  refine ww_lload_n (pc := 0) X (j := 1) dX9_clean_0 rfl rfl ?_
  refine ww_lconst (pc := 1) X (v := 0) dX9_clean_1 (by decide) ?_
  refine ww_lcmp_ge (pc := 2) (tgt := 8) X dX9_clean_2 dX9_clean_3 (by decide) hF (fun h1 hF => ?_) (fun h1 hF => ?_)
  · refine ww_aload_n (pc := 8) X (j := 0) dX9_clean_8 rfl rfl ?_
    refine ww_lload_n (pc := 9) X (j := 1) dX9_clean_9 rfl rfl ?_
    obtain ⟨r3, σ4, h2, hF⟩ := bd2_some hF
    refine ww_callVi (pc := 10) X (As := [.long p1]) (rest := []) dX9_clean_10 (kX9_dropAbove (mL M) G hZ X.2.2.2.2.2.2.1 X.2.2.2.2.2.2.2.1 σ p1 (r3, σ4) h2) rfl shzC_0 clzC_9 gX9_clean_X9_dropAbove hyX9_dropAbove ⟨rfl, rfl⟩ ⟨Nat.le_of_ble_eq_true rfl, Nat.le_of_ble_eq_true rfl⟩ rfl rfl (Nat.le_of_ble_eq_true rfl) ?_
    refine ww_istore_n (pc := 13) X (lv' := [(0, .ref (G.2.1 0)), (1, .long p1)]) dX9_clean_13 rfl (by decide) rfl hF (fun x5 ex5 hF => ?_)
    refine ww_aload_n (pc := 14) X (j := 1) dX9_clean_14 rfl rfl ?_
    refine ww_lload_n (pc := 15) X (j := 2) dX9_clean_15 rfl rfl ?_
    obtain ⟨r7, σ8, h6, hF⟩ := bd2_some hF
    refine ww_callVi (pc := 16) X (As := [.long p1]) (rest := []) dX9_clean_16 (kX9_putBack (mL M) G hZ X.2.2.2.2.2.2.1 X.2.2.2.2.2.2.2.1 σ4 p1 (r7, σ8) h6) rfl shzC_0 clzC_9 gX9_clean_X9_putBack hyX9_putBack ⟨rfl, rfl⟩ ⟨Nat.le_of_ble_eq_true rfl, Nat.le_of_ble_eq_true rfl⟩ rfl rfl (Nat.le_of_ble_eq_true rfl) ?_
    refine ww_istore (pc := 19) X (lv' := [(3, .int x5), (0, .ref (G.2.1 0)), (1, .long p1)]) dX9_clean_19 (by decide) rfl hF (fun x9 ex9 hF => ?_)
    refine ww_iload (pc := 21) X (j := 0) dX9_clean_21 rfl ?_
    refine ww_if_le (pc := 23) (tgt := 36) X dX9_clean_23 (by decide) hF (fun h10 hF => ?_) (fun h10 hF => ?_)
    · refine ww_iload_n (pc := 36) X (j := 1) dX9_clean_36 rfl rfl ?_
      refine ww_iload (pc := 37) X (j := 0) dX9_clean_37 rfl ?_
      refine ww_isub (pc := 39) X dX9_clean_39 ?_
      exact ww_iret (pc := 40) X dX9_clean_40 (fst_of hF) (snd_of hF)
    · refine ww_aload_n (pc := 26) X (j := 2) dX9_clean_26 rfl rfl ?_
      refine ww_get (pc := 27) X (ref := "PictureBlock") (T := TX9) (j := 9) dX9_clean_27 inX9_clean_RX9 shzC_0 clzC_9 (by decide) rfl (List.mem_of_getElem? (i := 1) rfl) rfl ?_
      refine ww_bipush (pc := 30) X (v := 50) dX9_clean_30 (by decide) ?_
      obtain ⟨r12, σ13, h11, hF⟩ := bd2_some hF
      refine ww_callVi (pc := 32) X (As := [.int 50]) (rest := []) dX9_clean_32 (kX1_settle (mL M) G hZ X.2.2.2.2.2.2.1 X.2.2.2.2.2.2.2.1 σ8 50 (r12, σ13) h11) rfl shzC_90 clzC_1 gX9_clean_X1_settle hyX1_settle ⟨rfl, rfl⟩ ⟨Nat.le_of_ble_eq_true rfl, Nat.le_of_ble_eq_true rfl⟩ rfl rfl (Nat.le_of_ble_eq_true rfl) ?_
      refine ww_pop (pc := 35) X dX9_clean_35 rfl ?_
      refine ww_iload_n (pc := 36) X (j := 1) dX9_clean_36 rfl rfl ?_
      refine ww_iload (pc := 37) X (j := 0) dX9_clean_37 rfl ?_
      refine ww_isub (pc := 39) X dX9_clean_39 ?_
      exact ww_iret (pc := 40) X dX9_clean_40 (fst_of hF) (snd_of hF)
  · refine ww_iconst (pc := 6) X (v := (-1)) dX9_clean_6 (by decide) ?_
    exact ww_iret (pc := 7) X dX9_clean_7 (fst_of hF) (snd_of hF)
set_option maxRecDepth 100000 in
set_option maxHeartbeats 4000000 in
theorem kX9_clean (l : Launch) (G : gG) {ex : gEx} (hZ : ∀ s : State, G.2.2.2 s → kC ex (gA G zC.1) s) (hG : gOK G zC.1) (hT : G.2.2.1.map (fun q => q.2) = zC.2.1) (σ : gS) (p1 : Int64) (out : Int32 × gS) (hF : fX9_clean σ p1 = some out) : gCi l yX9_clean wsX9_clean rmX9_clean G zC [.ref (G.2.1 0), .long p1] σ out.1 out.2 :=
  gEnter (by decide) rfl ⟨rfl, rfl⟩ hG hT (Nat.le_of_ble_eq_true rfl) rfl (fun M X hl => wX9_clean X hZ σ p1 hF)
noncomputable def fX9_areUnlike (σ : gS) (p1 : Int32) (p2 : Int32) : Option (Int32) :=
  if p1 = p2 then some 0 else bd (fX8_exists_2 σ 1 p1) fun r3 => (if r3 = 0 then some 0 else bd (fX8_exists_2 σ 1 p2) fun r6 => (if r6 = 0 then some 0 else some 1))
noncomputable abbrev rmX9_areUnlike : Room := { frames := 1, cells := 0, slots := 0, locals := 22 }
set_option maxRecDepth 100000 in
set_option maxHeartbeats 4000000 in
theorem wX9_areUnlike {M : gM} {G : gG} {out : Int32} (X : gX M G zC cX9_areUnlike RX9 3 wsX9_areUnlike rmX9_areUnlike (some .boolean)) {ex : gEx} (hZ : ∀ s : State, G.2.2.2 s → kC ex (gA G zC.1) s) (σ : gS) (p1 : Int32) (p2 : Int32) (hF : fX9_areUnlike σ p1 p2 = some out) : WW M (gQi M G zC out σ) G zC 3 σ 0 [(0, .ref (G.2.1 0)), (1, .int p1), (2, .int p2)] [] := by
  unfold fX9_areUnlike at hF
  refine ww_iload_n (pc := 0) X (j := 1) dX9_areUnlike_0 rfl rfl ?_
  refine ww_iload_n (pc := 1) X (j := 2) dX9_areUnlike_1 rfl rfl ?_
  refine ww_icmp_eq (pc := 2) (tgt := 33) X dX9_areUnlike_2 (by decide) hF (fun h1 hF => ?_) (fun h1 hF => ?_)
  · refine ww_iconst (pc := 33) X (v := 0) dX9_areUnlike_33 (by decide) ?_
    exact ww_zret (pc := 34) X dX9_areUnlike_34 (by cases hF; rfl) rfl
  · refine ww_aload_n (pc := 5) X (j := 0) dX9_areUnlike_5 rfl rfl ?_
    refine ww_get (pc := 6) X (ref := "PictureBlock") (T := TX9) (j := 2) dX9_areUnlike_6 inX9_areUnlike_RX9 shzC_0 clzC_9 (by decide) rfl (List.mem_of_getElem? (i := 1) rfl) rfl ?_
    refine ww_iconst (pc := 9) X (v := 1) dX9_areUnlike_9 (by decide) ?_
    refine ww_iload_n (pc := 10) X (j := 1) dX9_areUnlike_10 rfl rfl ?_
    obtain ⟨r3, h2, hF⟩ := bd_some hF
    refine ww_callVi (pc := 11) X (As := [.int 1, .int p1]) (rest := []) dX9_areUnlike_11 (kX8_exists_2 (mL M) G hZ X.2.2.2.2.2.2.1 X.2.2.2.2.2.2.2.1 σ 1 p1 r3 h2) rfl shzC_2 clzC_8 gX9_areUnlike_X8_exists hyX8_exists ⟨rfl, rfl⟩ ⟨Nat.le_of_ble_eq_true rfl, Nat.le_of_ble_eq_true rfl⟩ rfl rfl (Nat.le_of_ble_eq_true rfl) ?_
    refine ww_if_eq (pc := 14) (tgt := 33) X dX9_areUnlike_14 (by decide) hF (fun h4 hF => ?_) (fun h4 hF => ?_)
    · refine ww_iconst (pc := 33) X (v := 0) dX9_areUnlike_33 (by decide) ?_
      exact ww_zret (pc := 34) X dX9_areUnlike_34 (by cases hF; rfl) rfl
    · refine ww_aload_n (pc := 17) X (j := 0) dX9_areUnlike_17 rfl rfl ?_
      refine ww_get (pc := 18) X (ref := "PictureBlock") (T := TX9) (j := 2) dX9_areUnlike_18 inX9_areUnlike_RX9 shzC_0 clzC_9 (by decide) rfl (List.mem_of_getElem? (i := 1) rfl) rfl ?_
      refine ww_iconst (pc := 21) X (v := 1) dX9_areUnlike_21 (by decide) ?_
      refine ww_iload_n (pc := 22) X (j := 2) dX9_areUnlike_22 rfl rfl ?_
      obtain ⟨r6, h5, hF⟩ := bd_some hF
      refine ww_callVi (pc := 23) X (As := [.int 1, .int p2]) (rest := []) dX9_areUnlike_23 (kX8_exists_2 (mL M) G hZ X.2.2.2.2.2.2.1 X.2.2.2.2.2.2.2.1 σ 1 p2 r6 h5) rfl shzC_2 clzC_8 gX9_areUnlike_X8_exists hyX8_exists ⟨rfl, rfl⟩ ⟨Nat.le_of_ble_eq_true rfl, Nat.le_of_ble_eq_true rfl⟩ rfl rfl (Nat.le_of_ble_eq_true rfl) ?_
      refine ww_if_eq (pc := 26) (tgt := 33) X dX9_areUnlike_26 (by decide) hF (fun h7 hF => ?_) (fun h7 hF => ?_)
      · refine ww_iconst (pc := 33) X (v := 0) dX9_areUnlike_33 (by decide) ?_
        exact ww_zret (pc := 34) X dX9_areUnlike_34 (by cases hF; rfl) rfl
      · refine ww_iconst (pc := 29) X (v := 1) dX9_areUnlike_29 (by decide) ?_
        refine ww_goto (pc := 30) X (tgt := 34) dX9_areUnlike_30 (by decide) ?_
        exact ww_zret (pc := 34) X dX9_areUnlike_34 (by cases hF; rfl) rfl
set_option maxRecDepth 100000 in
set_option maxHeartbeats 4000000 in
theorem kX9_areUnlike (l : Launch) (G : gG) {ex : gEx} (hZ : ∀ s : State, G.2.2.2 s → kC ex (gA G zC.1) s) (hG : gOK G zC.1) (hT : G.2.2.1.map (fun q => q.2) = zC.2.1) (σ : gS) (p1 : Int32) (p2 : Int32) (out : Int32) (hF : fX9_areUnlike σ p1 p2 = some out) : gCi l yX9_areUnlike wsX9_areUnlike rmX9_areUnlike G zC [.ref (G.2.1 0), .int p1, .int p2] σ out σ :=
  gEnter (by decide) rfl ⟨rfl, rfl⟩ hG hT (Nat.le_of_ble_eq_true rfl) rfl (fun M X hl => wX9_areUnlike X hZ σ p1 p2 hF)
noncomputable def jX7_surveyTie_157 (σ : gS) (a1 : Int32) (a2 : Int32) (a3 : Int32) (a6 : Int64) (z0 : Int32) (z1 : Int32) (z2 : Nat) : Option (gS) :=
  gd (gb z1 (gsz zC.1 0 0 z2)) <| nm (gsI σ z2 z1.toNatClampNeg z0) fun σ13 => gd (gb a1 12) <| (if a3 = 0 then gd (gb a2 12) <| nm (gsI σ13 (181 + a1.toNatClampNeg) a2.toNatClampNeg 0) fun σ19 => some σ19 else bd (fJ9_floorDiv_f86c9 σ13 a6 a3.toInt64) fun r17 => gd (gb a2 12) <| nm (gsI σ13 (181 + a1.toNatClampNeg) a2.toNatClampNeg r17.toInt32) fun σ18 => some σ18)
noncomputable def bX7_surveyTie_11 (σ : gS) (c11_1 : Int32) (c11_2 : Int32) (rec11 : Int32 → Int64 → Int64 → Int32 → Option (gS)) (a3 : Int32) (a4 : Int64) (a6 : Int64) (a8 : Int32) : Option (gS) :=
  gd (gb 2 6) <| nm (σ.1 3 ((2 : Int32).toNatClampNeg)) fun v5 => (if v5 ≤ a8 then gd (gb c11_1 12) <| gd (gb c11_2 12) <| nm (gsI σ (155 + c11_1.toNatClampNeg) c11_2.toNatClampNeg a3) fun σ8 => gd (gb c11_1 12) <| (if a3 = 0 then jX7_surveyTie_157 σ8 c11_1 c11_2 a3 a6 0 c11_2 (168 + c11_1.toNatClampNeg) else bd (fJ9_floorDiv_f86c9 σ8 a4 a3.toInt64) fun r12 => jX7_surveyTie_157 σ8 c11_1 c11_2 a3 a6 r12.toInt32 c11_2 (168 + c11_1.toNatClampNeg)) else gd (gb c11_1 12) <| gd (gb a8 20) <| nm (σ.1 (142 + c11_1.toNatClampNeg) a8.toNatClampNeg) fun v21 => nm (v21 : Int32) fun x22 => gd (gb c11_2 12) <| gd (gb a8 20) <| nm (σ.1 (142 + c11_2.toNatClampNeg) a8.toNatClampNeg) fun v24 => nm (v24 : Int32) fun x25 => (if x22 = ((-1)) then nm (a8 + 1 : Int32) fun x27 => rec11 a3 a4 a6 x27 else if x25 = ((-1)) then nm (a8 + 1 : Int32) fun x41 => rec11 a3 a4 a6 x41 else nm (a3 + 1 : Int32) fun x29 => bd (fX5_turned_47 σ x22 0) fun r31 => bd (fX5_turned_47 σ x25 0) fun r33 => nm (a4 + ((r31 - r33).toInt64) : Int64) fun x34 => bd (fX5_turned_47 σ x22 1) fun r36 => bd (fX5_turned_47 σ x25 1) fun r38 => nm (a6 + ((r36 - r38).toInt64) : Int64) fun x39 => nm (a8 + 1 : Int32) fun x40 => rec11 x29 x34 x39 x40))
noncomputable def fX7_surveyTie (σ : gS) (p1 : Int32) (p2 : Int32) : Option (gS) :=
  nm (0 : Int32) fun x1 => nm (0 : Int64) fun x2 => nm (0 : Int64) fun x3 => nm (0 : Int32) fun x4 => lpc (S := Int32 × Int64 × Int64 × Int32) K9 (fun rec s => bX7_surveyTie_11 σ p1 p2 (fun a3 a4 a6 a8 => rec (a3, a4, a6, a8)) s.1 s.2.1 s.2.2.1 s.2.2.2) (x1, x2, x3, x4)
noncomputable abbrev rmX7_surveyTie : Room := { frames := 2, cells := 0, slots := 0, locals := 48 }
set_option maxRecDepth 100000 in
set_option maxHeartbeats 4000000 in
theorem wjX7_surveyTie_157 {M : gM} {G : gG} {out : gS} (X : gX M G zC cX7_surveyTie RX7 11 wsX7_surveyTie rmX7_surveyTie none) {ex : gEx} (hZ : ∀ s : State, G.2.2.2 s → kC ex (gA G zC.1) s) (σ : gS) (a1 : Int32) (a2 : Int32) (a3 : Int32) (a6 : Int64) (z0 : Int32) (z1 : Int32) (z2 : Nat) (hF : jX7_surveyTie_157 σ a1 a2 a3 a6 z0 z1 z2 = some out) : WW M (gQv M G zC out) G zC 11 σ 157 [(0, .ref (G.2.1 140)), (1, .int a1), (2, .int a2), (3, .int a3), (6, .long a6)] [.int z0, .int z1, .ref (G.2.1 z2)] := by
  unfold jX7_surveyTie_157 at hF
  refine ww_iastS (pc := 157) X dX7_surveyTie_157  (t := 0) rfl hF (fun σ13 eσ13 bσ13 hF => ?_)
  refine ww_aload_n (pc := 158) X (j := 0) dX7_surveyTie_158 rfl rfl ?_
  refine ww_get (pc := 159) X (ref := "PictureBlock$Ties") (T := TX7) (j := 5) dX7_surveyTie_159 inX7_surveyTie_RX7 shzC_140 clzC_7 (by decide) rfl (List.mem_of_getElem? (i := 7) rfl) rfl ?_
  refine ww_iload_n (pc := 162) X (j := 1) dX7_surveyTie_162 rfl rfl ?_
  refine ww_aald (pc := 163) X dX7_surveyTie_163 shzC_180 rfl hF (fun h14 hF => ?_)
  refine ww_iload_n (pc := 164) X (j := 2) dX7_surveyTie_164 rfl rfl ?_
  refine ww_iload_n (pc := 165) X (j := 3) dX7_surveyTie_165 rfl rfl ?_
  refine ww_if_ne (pc := 166) (tgt := 173) X dX7_surveyTie_166 (by decide) hF (fun h15 hF => ?_) (fun h15 hF => ?_)
  · refine ww_lload (pc := 173) X (j := 4) dX7_surveyTie_173 rfl ?_
    refine ww_iload_n (pc := 175) X (j := 3) dX7_surveyTie_175 rfl rfl ?_
    refine ww_i2l (pc := 176) X dX7_surveyTie_176 ?_
    obtain ⟨r17, h16, hF⟩ := bd_some hF
    refine ww_callSl (pc := 177) X (As := [.long a6, .long a3.toInt64]) (rest := [.int a2, .ref (G.2.1 (181 + a1.toNatClampNeg))]) dX7_surveyTie_177 (kJ9_floorDiv_f86c9 (mL M) G hZ X.2.2.2.2.2.2.1 X.2.2.2.2.2.2.2.1 σ13 a6 a3.toInt64 r17 h16) rfl gX7_surveyTie_J9_floorDiv_f86c9 hyJ9_floorDiv_f86c9 ⟨rfl, rfl⟩ ⟨Nat.le_of_ble_eq_true rfl, Nat.le_of_ble_eq_true rfl⟩ rfl rfl (Nat.le_of_ble_eq_true rfl) ?_
    refine ww_l2i (pc := 180) X dX7_surveyTie_180 ?_
    refine ww_iast (pc := 181) X dX7_surveyTie_181 (rwzC_180 _ (gb_lt h14)) rfl hF (fun σ18 eσ18 bσ18 hF => ?_)
    exact ww_vret (pc := 182) X dX7_surveyTie_182 (by cases hF; rfl)
  · refine ww_iconst (pc := 169) X (v := 0) dX7_surveyTie_169 (by decide) ?_
    refine ww_goto (pc := 170) X (tgt := 181) dX7_surveyTie_170 (by decide) ?_
    refine ww_iast (pc := 181) X dX7_surveyTie_181 (rwzC_180 _ (gb_lt h14)) rfl hF (fun σ19 eσ19 bσ19 hF => ?_)
    exact ww_vret (pc := 182) X dX7_surveyTie_182 (by cases hF; rfl)
set_option maxRecDepth 100000 in
set_option maxHeartbeats 4000000 in
theorem wbX7_surveyTie_11 {M : gM} {G : gG} {out : gS} (X : gX M G zC cX7_surveyTie RX7 11 wsX7_surveyTie rmX7_surveyTie none) {ex : gEx} (hZ : ∀ s : State, G.2.2.2 s → kC ex (gA G zC.1) s) (σ : gS) (c11_1 : Int32) (c11_2 : Int32) (rec11 : Int32 → Int64 → Int64 → Int32 → Option (gS)) (ih11 : ∀ (a3 : Int32) (a4 : Int64) (a6 : Int64) (a8 : Int32), rec11 a3 a4 a6 a8 = some out → WW M (gQv M G zC out) G zC 11 σ 11 [(0, .ref (G.2.1 140)), (1, .int c11_1), (2, .int c11_2), (3, .int a3), (4, .long a4), (6, .long a6), (8, .int a8)] []) (a3 : Int32) (a4 : Int64) (a6 : Int64) (a8 : Int32) (hF : bX7_surveyTie_11 σ c11_1 c11_2 rec11 a3 a4 a6 a8 = some out) : WW M (gQv M G zC out) G zC 11 σ 11 [(0, .ref (G.2.1 140)), (1, .int c11_1), (2, .int c11_2), (3, .int a3), (4, .long a4), (6, .long a6), (8, .int a8)] [] := by
  unfold bX7_surveyTie_11 at hF
  refine ww_iload (pc := 11) X (j := 6) dX7_surveyTie_11 rfl ?_
  refine ww_aload_n (pc := 13) X (j := 0) dX7_surveyTie_13 rfl rfl ?_
  refine ww_get (pc := 14) X (ref := "PictureBlock$Ties") (T := TX7) (j := 0) dX7_surveyTie_14 inX7_surveyTie_RX7 shzC_140 clzC_7 (by decide) rfl (List.mem_of_getElem? (i := 1) rfl) rfl ?_
  refine ww_get (pc := 17) X (ref := "PictureBlock$Told") (T := TX8) (j := 0) dX7_surveyTie_17 inX7_surveyTie_RX8 shzC_2 clzC_8 (by decide) rfl (List.mem_of_getElem? (i := 2) rfl) rfl ?_
  refine ww_iconst (pc := 20) X (v := 2) dX7_surveyTie_20 (by decide) ?_
  refine ww_iald (pc := 21) X dX7_surveyTie_21 shzC_3 rfl hF (fun v5 ev5 bv5 hF => ?_)
  refine ww_icmp_ge (pc := 22) (tgt := 125) X dX7_surveyTie_22 (by decide) hF (fun h6 hF => ?_) (fun h6 hF => ?_)
  · refine ww_aload_n (pc := 125) X (j := 0) dX7_surveyTie_125 rfl rfl ?_
    refine ww_get (pc := 126) X (ref := "PictureBlock$Ties") (T := TX7) (j := 3) dX7_surveyTie_126 inX7_surveyTie_RX7 shzC_140 clzC_7 (by decide) rfl (List.mem_of_getElem? (i := 5) rfl) rfl ?_
    refine ww_iload_n (pc := 129) X (j := 1) dX7_surveyTie_129 rfl rfl ?_
    refine ww_aald (pc := 130) X dX7_surveyTie_130 shzC_154 rfl hF (fun h7 hF => ?_)
    refine ww_iload_n (pc := 131) X (j := 2) dX7_surveyTie_131 rfl rfl ?_
    refine ww_iload_n (pc := 132) X (j := 3) dX7_surveyTie_132 rfl rfl ?_
    refine ww_iast (pc := 133) X dX7_surveyTie_133 (rwzC_154 _ (gb_lt h7)) rfl hF (fun σ8 eσ8 bσ8 hF => ?_)
    refine ww_aload_n (pc := 134) X (j := 0) dX7_surveyTie_134 rfl rfl ?_
    refine ww_get (pc := 135) X (ref := "PictureBlock$Ties") (T := TX7) (j := 4) dX7_surveyTie_135 inX7_surveyTie_RX7 shzC_140 clzC_7 (by decide) rfl (List.mem_of_getElem? (i := 6) rfl) rfl ?_
    refine ww_iload_n (pc := 138) X (j := 1) dX7_surveyTie_138 rfl rfl ?_
    refine ww_aald (pc := 139) X dX7_surveyTie_139 shzC_167 rfl hF (fun h9 hF => ?_)
    refine ww_iload_n (pc := 140) X (j := 2) dX7_surveyTie_140 rfl rfl ?_
    refine ww_iload_n (pc := 141) X (j := 3) dX7_surveyTie_141 rfl rfl ?_
    refine ww_if_ne (pc := 142) (tgt := 149) X dX7_surveyTie_142 (by decide) hF (fun h10 hF => ?_) (fun h10 hF => ?_)
    · refine ww_lload (pc := 149) X (j := 4) dX7_surveyTie_149 rfl ?_
      refine ww_iload_n (pc := 151) X (j := 3) dX7_surveyTie_151 rfl rfl ?_
      refine ww_i2l (pc := 152) X dX7_surveyTie_152 ?_
      obtain ⟨r12, h11, hF⟩ := bd_some hF
      refine ww_callSl (pc := 153) X (As := [.long a4, .long a3.toInt64]) (rest := [.int c11_2, .ref (G.2.1 (168 + c11_1.toNatClampNeg))]) dX7_surveyTie_153 (kJ9_floorDiv_f86c9 (mL M) G hZ X.2.2.2.2.2.2.1 X.2.2.2.2.2.2.2.1 σ8 a4 a3.toInt64 r12 h11) rfl gX7_surveyTie_J9_floorDiv_f86c9 hyJ9_floorDiv_f86c9 ⟨rfl, rfl⟩ ⟨Nat.le_of_ble_eq_true rfl, Nat.le_of_ble_eq_true rfl⟩ rfl rfl (Nat.le_of_ble_eq_true rfl) ?_
      refine ww_l2i (pc := 156) X dX7_surveyTie_156 ?_
      exact ww_sub [0, 1, 2, 3, 5] rfl (wjX7_surveyTie_157 X hZ σ8 c11_1 c11_2 a3 a6 r12.toInt32 c11_2 (168 + c11_1.toNatClampNeg) hF)
    · refine ww_iconst (pc := 145) X (v := 0) dX7_surveyTie_145 (by decide) ?_
      refine ww_goto (pc := 146) X (tgt := 157) dX7_surveyTie_146 (by decide) ?_
      exact ww_sub [0, 1, 2, 3, 5] rfl (wjX7_surveyTie_157 X hZ σ8 c11_1 c11_2 a3 a6 0 c11_2 (168 + c11_1.toNatClampNeg) hF)
  · refine ww_aload_n (pc := 25) X (j := 0) dX7_surveyTie_25 rfl rfl ?_
    refine ww_get (pc := 26) X (ref := "PictureBlock$Ties") (T := TX7) (j := 2) dX7_surveyTie_26 inX7_surveyTie_RX7 shzC_140 clzC_7 (by decide) rfl (List.mem_of_getElem? (i := 3) rfl) rfl ?_
    refine ww_iload_n (pc := 29) X (j := 1) dX7_surveyTie_29 rfl rfl ?_
    refine ww_aald (pc := 30) X dX7_surveyTie_30 shzC_141 rfl hF (fun h20 hF => ?_)
    refine ww_iload (pc := 31) X (j := 6) dX7_surveyTie_31 rfl ?_
    refine ww_iald (pc := 33) X dX7_surveyTie_33 (rwzC_141 _ (gb_lt h20)) rfl hF (fun v21 ev21 bv21 hF => ?_)
    refine ww_istore (pc := 34) X (lv' := [(0, .ref (G.2.1 140)), (1, .int c11_1), (2, .int c11_2), (3, .int a3), (4, .long a4), (6, .long a6), (8, .int a8)]) dX7_surveyTie_34 (by decide) rfl hF (fun x22 ex22 hF => ?_)
    refine ww_aload_n (pc := 36) X (j := 1) dX7_surveyTie_36 rfl rfl ?_
    refine ww_get (pc := 37) X (ref := "PictureBlock$Ties") (T := TX7) (j := 2) dX7_surveyTie_37 inX7_surveyTie_RX7 shzC_140 clzC_7 (by decide) rfl (List.mem_of_getElem? (i := 3) rfl) rfl ?_
    refine ww_iload_n (pc := 40) X (j := 3) dX7_surveyTie_40 rfl rfl ?_
    refine ww_aald (pc := 41) X dX7_surveyTie_41 shzC_141 rfl hF (fun h23 hF => ?_)
    refine ww_iload (pc := 42) X (j := 7) dX7_surveyTie_42 rfl ?_
    refine ww_iald (pc := 44) X dX7_surveyTie_44 (rwzC_141 _ (gb_lt h23)) rfl hF (fun v24 ev24 bv24 hF => ?_)
    refine ww_istore (pc := 45) X (lv' := [(9, .int x22), (0, .ref (G.2.1 140)), (1, .int c11_1), (2, .int c11_2), (3, .int a3), (4, .long a4), (6, .long a6), (8, .int a8)]) dX7_surveyTie_45 (by decide) rfl hF (fun x25 ex25 hF => ?_)
    refine ww_iload (pc := 47) X (j := 1) dX7_surveyTie_47 rfl ?_
    refine ww_iconst (pc := 49) X (v := (-1)) dX7_surveyTie_49 (by decide) ?_
    refine ww_icmp_eq (pc := 50) (tgt := 119) X dX7_surveyTie_50 (by decide) hF (fun h26 hF => ?_) (fun h26 hF => ?_)
    · refine ww_iinc (pc := 119) X (j := 8) (v := 1) (lv' := [(10, .int x25), (9, .int x22), (0, .ref (G.2.1 140)), (1, .int c11_1), (2, .int c11_2), (3, .int a3), (4, .long a4), (6, .long a6)]) dX7_surveyTie_119 rfl rfl (by decide) rfl hF (fun x27 ex27 hF => ?_)
      refine ww_goto (pc := 122) X (tgt := 11) dX7_surveyTie_122 (by decide) ?_
      exact ww_sub [3, 4, 5, 6, 7, 8, 0] rfl (ih11 a3 a4 a6 x27 hF)
    · refine ww_iload (pc := 53) X (j := 0) dX7_surveyTie_53 rfl ?_
      refine ww_iconst (pc := 55) X (v := (-1)) dX7_surveyTie_55 (by decide) ?_
      refine ww_icmp_ne (pc := 56) (tgt := 62) X dX7_surveyTie_56 (by decide) hF (fun h28 hF => ?_) (fun h28 hF => ?_)
      · refine ww_iinc (pc := 62) X (j := 5) (v := 1) (lv' := [(10, .int x25), (9, .int x22), (0, .ref (G.2.1 140)), (1, .int c11_1), (2, .int c11_2), (4, .long a4), (6, .long a6), (8, .int a8)]) dX7_surveyTie_62 rfl rfl (by decide) rfl hF (fun x29 ex29 hF => ?_)
        refine ww_lload (pc := 65) X (j := 6) dX7_surveyTie_65 rfl ?_
        refine ww_aload_n (pc := 67) X (j := 3) dX7_surveyTie_67 rfl rfl ?_
        refine ww_get (pc := 68) X (ref := "PictureBlock$Ties") (T := TX7) (j := 1) dX7_surveyTie_68 inX7_surveyTie_RX7 shzC_140 clzC_7 (by decide) rfl (List.mem_of_getElem? (i := 4) rfl) rfl ?_
        refine ww_iload (pc := 71) X (j := 2) dX7_surveyTie_71 rfl ?_
        refine ww_iconst (pc := 73) X (v := 0) dX7_surveyTie_73 (by decide) ?_
        obtain ⟨r31, h30, hF⟩ := bd_some hF
        refine ww_callVi (pc := 74) X (As := [.int x22, .int 0]) (rest := [.long a4]) dX7_surveyTie_74 (kX5_turned_47 (mL M) G hZ X.2.2.2.2.2.2.1 X.2.2.2.2.2.2.2.1 σ x22 0 r31 h30) rfl shzC_47 clzC_5 gX7_surveyTie_X5_turned hyX5_turned ⟨rfl, rfl⟩ ⟨Nat.le_of_ble_eq_true rfl, Nat.le_of_ble_eq_true rfl⟩ rfl rfl (Nat.le_of_ble_eq_true rfl) ?_
        refine ww_aload_n (pc := 77) X (j := 3) dX7_surveyTie_77 rfl rfl ?_
        refine ww_get (pc := 78) X (ref := "PictureBlock$Ties") (T := TX7) (j := 1) dX7_surveyTie_78 inX7_surveyTie_RX7 shzC_140 clzC_7 (by decide) rfl (List.mem_of_getElem? (i := 4) rfl) rfl ?_
        refine ww_iload (pc := 81) X (j := 1) dX7_surveyTie_81 rfl ?_
        refine ww_iconst (pc := 83) X (v := 0) dX7_surveyTie_83 (by decide) ?_
        obtain ⟨r33, h32, hF⟩ := bd_some hF
        refine ww_callVi (pc := 84) X (As := [.int x25, .int 0]) (rest := [.int r31, .long a4]) dX7_surveyTie_84 (kX5_turned_47 (mL M) G hZ X.2.2.2.2.2.2.1 X.2.2.2.2.2.2.2.1 σ x25 0 r33 h32) rfl shzC_47 clzC_5 gX7_surveyTie_X5_turned hyX5_turned ⟨rfl, rfl⟩ ⟨Nat.le_of_ble_eq_true rfl, Nat.le_of_ble_eq_true rfl⟩ rfl rfl (Nat.le_of_ble_eq_true rfl) ?_
        refine ww_isub (pc := 87) X dX7_surveyTie_87 ?_
        refine ww_i2l (pc := 88) X dX7_surveyTie_88 ?_
        refine ww_ladd (pc := 89) X dX7_surveyTie_89 ?_
        refine ww_lstore (pc := 90) X (lv' := [(3, .int x29), (10, .int x25), (9, .int x22), (0, .ref (G.2.1 140)), (1, .int c11_1), (2, .int c11_2), (6, .long a6), (8, .int a8)]) dX7_surveyTie_90 (by decide) rfl hF (fun x34 ex34 hF => ?_)
        refine ww_lload (pc := 92) X (j := 7) dX7_surveyTie_92 rfl ?_
        refine ww_aload_n (pc := 94) X (j := 4) dX7_surveyTie_94 rfl rfl ?_
        refine ww_get (pc := 95) X (ref := "PictureBlock$Ties") (T := TX7) (j := 1) dX7_surveyTie_95 inX7_surveyTie_RX7 shzC_140 clzC_7 (by decide) rfl (List.mem_of_getElem? (i := 4) rfl) rfl ?_
        refine ww_iload (pc := 98) X (j := 3) dX7_surveyTie_98 rfl ?_
        refine ww_iconst (pc := 100) X (v := 1) dX7_surveyTie_100 (by decide) ?_
        obtain ⟨r36, h35, hF⟩ := bd_some hF
        refine ww_callVi (pc := 101) X (As := [.int x22, .int 1]) (rest := [.long a6]) dX7_surveyTie_101 (kX5_turned_47 (mL M) G hZ X.2.2.2.2.2.2.1 X.2.2.2.2.2.2.2.1 σ x22 1 r36 h35) rfl shzC_47 clzC_5 gX7_surveyTie_X5_turned hyX5_turned ⟨rfl, rfl⟩ ⟨Nat.le_of_ble_eq_true rfl, Nat.le_of_ble_eq_true rfl⟩ rfl rfl (Nat.le_of_ble_eq_true rfl) ?_
        refine ww_aload_n (pc := 104) X (j := 4) dX7_surveyTie_104 rfl rfl ?_
        refine ww_get (pc := 105) X (ref := "PictureBlock$Ties") (T := TX7) (j := 1) dX7_surveyTie_105 inX7_surveyTie_RX7 shzC_140 clzC_7 (by decide) rfl (List.mem_of_getElem? (i := 4) rfl) rfl ?_
        refine ww_iload (pc := 108) X (j := 2) dX7_surveyTie_108 rfl ?_
        refine ww_iconst (pc := 110) X (v := 1) dX7_surveyTie_110 (by decide) ?_
        obtain ⟨r38, h37, hF⟩ := bd_some hF
        refine ww_callVi (pc := 111) X (As := [.int x25, .int 1]) (rest := [.int r36, .long a6]) dX7_surveyTie_111 (kX5_turned_47 (mL M) G hZ X.2.2.2.2.2.2.1 X.2.2.2.2.2.2.2.1 σ x25 1 r38 h37) rfl shzC_47 clzC_5 gX7_surveyTie_X5_turned hyX5_turned ⟨rfl, rfl⟩ ⟨Nat.le_of_ble_eq_true rfl, Nat.le_of_ble_eq_true rfl⟩ rfl rfl (Nat.le_of_ble_eq_true rfl) ?_
        refine ww_isub (pc := 114) X dX7_surveyTie_114 ?_
        refine ww_i2l (pc := 115) X dX7_surveyTie_115 ?_
        refine ww_ladd (pc := 116) X dX7_surveyTie_116 ?_
        refine ww_lstore (pc := 117) X (lv' := [(4, .long x34), (3, .int x29), (10, .int x25), (9, .int x22), (0, .ref (G.2.1 140)), (1, .int c11_1), (2, .int c11_2), (8, .int a8)]) dX7_surveyTie_117 (by decide) rfl hF (fun x39 ex39 hF => ?_)
        refine ww_iinc (pc := 119) X (j := 8) (v := 1) (lv' := [(6, .long x39), (4, .long x34), (3, .int x29), (10, .int x25), (9, .int x22), (0, .ref (G.2.1 140)), (1, .int c11_1), (2, .int c11_2)]) dX7_surveyTie_119 rfl rfl (by decide) rfl hF (fun x40 ex40 hF => ?_)
        refine ww_goto (pc := 122) X (tgt := 11) dX7_surveyTie_122 (by decide) ?_
        exact ww_sub [6, 7, 8, 3, 2, 1, 0] rfl (ih11 x29 x34 x39 x40 hF)
      · refine ww_goto (pc := 59) X (tgt := 119) dX7_surveyTie_59 (by decide) ?_
        refine ww_iinc (pc := 119) X (j := 8) (v := 1) (lv' := [(10, .int x25), (9, .int x22), (0, .ref (G.2.1 140)), (1, .int c11_1), (2, .int c11_2), (3, .int a3), (4, .long a4), (6, .long a6)]) dX7_surveyTie_119 rfl rfl (by decide) rfl hF (fun x41 ex41 hF => ?_)
        refine ww_goto (pc := 122) X (tgt := 11) dX7_surveyTie_122 (by decide) ?_
        exact ww_sub [3, 4, 5, 6, 7, 8, 0] rfl (ih11 a3 a4 a6 x41 hF)
set_option maxRecDepth 100000 in
set_option maxHeartbeats 4000000 in
theorem wX7_surveyTie {M : gM} {G : gG} {out : gS} (X : gX M G zC cX7_surveyTie RX7 11 wsX7_surveyTie rmX7_surveyTie none) {ex : gEx} (hZ : ∀ s : State, G.2.2.2 s → kC ex (gA G zC.1) s) (σ : gS) (p1 : Int32) (p2 : Int32) (hF : fX7_surveyTie σ p1 p2 = some out) : WW M (gQv M G zC out) G zC 11 σ 0 [(0, .ref (G.2.1 140)), (1, .int p1), (2, .int p2)] [] := by
  unfold fX7_surveyTie at hF
  refine ww_iconst (pc := 0) X (v := 0) dX7_surveyTie_0 (by decide) ?_
  refine ww_istore_n (pc := 1) X (lv' := [(0, .ref (G.2.1 140)), (1, .int p1), (2, .int p2)]) dX7_surveyTie_1 rfl (by decide) rfl hF (fun x1 ex1 hF => ?_)
  refine ww_lconst (pc := 2) X (v := 0) dX7_surveyTie_2 (by decide) ?_
  refine ww_lstore (pc := 3) X (lv' := [(3, .int x1), (0, .ref (G.2.1 140)), (1, .int p1), (2, .int p2)]) dX7_surveyTie_3 (by decide) rfl hF (fun x2 ex2 hF => ?_)
  refine ww_lconst (pc := 5) X (v := 0) dX7_surveyTie_5 (by decide) ?_
  refine ww_lstore (pc := 6) X (lv' := [(4, .long x2), (3, .int x1), (0, .ref (G.2.1 140)), (1, .int p1), (2, .int p2)]) dX7_surveyTie_6 (by decide) rfl hF (fun x3 ex3 hF => ?_)
  refine ww_iconst (pc := 8) X (v := 0) dX7_surveyTie_8 (by decide) ?_
  refine ww_istore (pc := 9) X (lv' := [(6, .long x3), (4, .long x2), (3, .int x1), (0, .ref (G.2.1 140)), (1, .int p1), (2, .int p2)]) dX7_surveyTie_9 (by decide) rfl hF (fun x4 ex4 hF => ?_)
  exact ww_sub [4, 5, 6, 3, 2, 1, 0] rfl (lpc_ind (P := (fun (s : Int32 × Int64 × Int64 × Int32) => WW M (gQv M G zC out) G zC 11 σ 11 [(0, .ref (G.2.1 140)), (1, .int p1), (2, .int p2), (3, .int s.1), (4, .long s.2.1), (6, .long s.2.2.1), (8, .int s.2.2.2)] [])) (fun rec s ih hF => wbX7_surveyTie_11 X hZ σ p1 p2 (fun a3 a4 a6 a8 => rec (a3, a4, a6, a8)) (fun a3 a4 a6 a8 h => ih (a3, a4, a6, a8) h) s.1 s.2.1 s.2.2.1 s.2.2.2 hF) K9 (x1, x2, x3, x4) hF)
set_option maxRecDepth 100000 in
set_option maxHeartbeats 4000000 in
theorem kX7_surveyTie (l : Launch) (G : gG) {ex : gEx} (hZ : ∀ s : State, G.2.2.2 s → kC ex (gA G zC.1) s) (hG : gOK G zC.1) (hT : G.2.2.1.map (fun q => q.2) = zC.2.1) (σ : gS) (p1 : Int32) (p2 : Int32) (out : gS) (hF : fX7_surveyTie σ p1 p2 = some out) : gCv l yX7_surveyTie wsX7_surveyTie rmX7_surveyTie G zC [.ref (G.2.1 140), .int p1, .int p2] σ out :=
  gEnter (by decide) rfl ⟨rfl, rfl⟩ hG hT (Nat.le_of_ble_eq_true rfl) rfl (fun M X hl => wX7_surveyTie X hZ σ p1 p2 hF)
noncomputable def bX7_survey_99 (σ : gS) (c92_1 : Int32) (c99_2 : Int32) (rec92 : Int32 → gS → Option (gS)) (rec99 : Int32 → gS → Option (gS)) (a3 : Int32) (σ1 : gS) : Option (gS) :=
  if c92_1 ≤ a3 then nm (c99_2 + 1 : Int32) fun x12 => rec92 x12 σ1 else if c99_2 = a3 then nm (a3 + 1 : Int32) fun x14 => rec99 x14 σ1 else bd (fX7_surveyTie σ1 c99_2 a3) fun σ16 => nm (a3 + 1 : Int32) fun x17 => rec99 x17 σ16
noncomputable def bX7_survey_92 (σ : gS) (c92_1 : Int32) (rec92 : Int32 → gS → Option (gS)) (a2 : Int32) (σ1 : gS) : Option (gS) :=
  if c92_1 ≤ a2 then some σ1 else nm (0 : Int32) fun x10 => lpc (S := Int32 × gS) K9 (fun rec s => bX7_survey_99 σ1 c92_1 a2 rec92 (fun a3 σ1 => rec (a3, σ1)) s.1 s.2) (x10, σ1)
noncomputable def bX7_survey_35 (σ : gS) (c35_1 : Int32) (rec35 : Int32 → gS → Option (gS)) (a2 : Int32) (σ1 : gS) : Option (gS) :=
  gd (gb 3 6) <| nm (σ1.1 3 ((3 : Int32).toNatClampNeg)) fun v6 => (if v6 ≤ a2 then nm (0 : Int32) fun x8 => lpc (S := Int32 × gS) K9 (fun rec s => bX7_survey_92 σ1 c35_1 (fun a2 σ1 => rec (a2, σ1)) s.1 s.2) (x8, σ1) else bd (fX5_uses_47 σ1 a2) fun r19 => (if r19 = 0 then nm (a2 + 1 : Int32) fun x21 => rec35 x21 σ1 else gd (gb a2 60) <| nm (σ1.1 10 a2.toNatClampNeg) fun v22 => gd (gb v22 12) <| gd (gb a2 60) <| nm (σ1.1 11 a2.toNatClampNeg) fun v24 => gd (gb v24 20) <| nm (gsI σ1 (142 + v22.toNatClampNeg) v24.toNatClampNeg a2) fun σ25 => nm (a2 + 1 : Int32) fun x26 => rec35 x26 σ25))
noncomputable def bX7_survey_12 (σ : gS) (c12_1 : Int32) (rec12 : Int32 → gS → Option (gS)) (a2 : Int32) (σ1 : gS) : Option (gS) :=
  if c12_1 ≤ a2 then nm (0 : Int32) fun x5 => lpc (S := Int32 × gS) K9 (fun rec s => bX7_survey_35 σ1 c12_1 (fun a2 σ1 => rec (a2, σ1)) s.1 s.2) (x5, σ1) else gd (gb a2 12) <| bd (fJ7_fill_53178 σ1 (142 + a2.toNatClampNeg) ((-1))) fun σ29 => nm (a2 + 1 : Int32) fun x30 => rec12 x30 σ29
noncomputable def fX7_survey (σ : gS) : Option (gS) :=
  gd (gb 1 6) <| nm (σ.1 3 ((1 : Int32).toNatClampNeg)) fun v1 => nm (v1 : Int32) fun x2 => nm (0 : Int32) fun x3 => lpc (S := Int32 × gS) K9 (fun rec s => bX7_survey_12 σ x2 (fun a2 σ1 => rec (a2, σ1)) s.1 s.2) (x3, σ)
noncomputable abbrev rmX7_survey : Room := { frames := 3, cells := 0, slots := 0, locals := 78 }
set_option maxRecDepth 100000 in
set_option maxHeartbeats 4000000 in
theorem wbX7_survey_99 {M : gM} {G : gG} {out : gS} (X : gX M G zC cX7_survey RX7 4 wsX7_survey rmX7_survey none) {ex : gEx} (hZ : ∀ s : State, G.2.2.2 s → kC ex (gA G zC.1) s) (σ : gS) (c92_1 : Int32) (c99_2 : Int32) (rec92 : Int32 → gS → Option (gS)) (ih92 : ∀ (a2 : Int32) (σ1 : gS), rec92 a2 σ1 = some out → WW M (gQv M G zC out) G zC 4 σ1 92 [(0, .ref (G.2.1 140)), (1, .int c92_1), (2, .int a2)] []) (rec99 : Int32 → gS → Option (gS)) (ih99 : ∀ (a3 : Int32) (σ1 : gS), rec99 a3 σ1 = some out → WW M (gQv M G zC out) G zC 4 σ1 99 [(0, .ref (G.2.1 140)), (1, .int c92_1), (2, .int c99_2), (3, .int a3)] []) (a3 : Int32) (σ1 : gS) (hF : bX7_survey_99 σ c92_1 c99_2 rec92 rec99 a3 σ1 = some out) : WW M (gQv M G zC out) G zC 4 σ1 99 [(0, .ref (G.2.1 140)), (1, .int c92_1), (2, .int c99_2), (3, .int a3)] [] := by
  unfold bX7_survey_99 at hF
  refine ww_iload_n (pc := 99) X (j := 3) dX7_survey_99 rfl rfl ?_
  refine ww_iload_n (pc := 100) X (j := 1) dX7_survey_100 rfl rfl ?_
  refine ww_icmp_ge (pc := 101) (tgt := 121) X dX7_survey_101 (by decide) hF (fun h11 hF => ?_) (fun h11 hF => ?_)
  · refine ww_iinc (pc := 121) X (j := 2) (v := 1) (lv' := [(0, .ref (G.2.1 140)), (1, .int c92_1), (3, .int a3)]) dX7_survey_121 rfl rfl (by decide) rfl hF (fun x12 ex12 hF => ?_)
    refine ww_goto (pc := 124) X (tgt := 92) dX7_survey_124 (by decide) ?_
    exact ww_sub [1, 2, 0] rfl (ih92 x12 σ1 hF)
  · refine ww_iload_n (pc := 104) X (j := 2) dX7_survey_104 rfl rfl ?_
    refine ww_iload_n (pc := 105) X (j := 3) dX7_survey_105 rfl rfl ?_
    refine ww_icmp_eq (pc := 106) (tgt := 115) X dX7_survey_106 (by decide) hF (fun h13 hF => ?_) (fun h13 hF => ?_)
    · refine ww_iinc (pc := 115) X (j := 3) (v := 1) (lv' := [(0, .ref (G.2.1 140)), (1, .int c92_1), (2, .int c99_2)]) dX7_survey_115 rfl rfl (by decide) rfl hF (fun x14 ex14 hF => ?_)
      refine ww_goto (pc := 118) X (tgt := 99) dX7_survey_118 (by decide) ?_
      exact ww_sub [1, 2, 3, 0] rfl (ih99 x14 σ1 hF)
    · refine ww_aload_n (pc := 109) X (j := 0) dX7_survey_109 rfl rfl ?_
      refine ww_iload_n (pc := 110) X (j := 2) dX7_survey_110 rfl rfl ?_
      refine ww_iload_n (pc := 111) X (j := 3) dX7_survey_111 rfl rfl ?_
      obtain ⟨σ16, h15, hF⟩ := bd_some hF
      refine ww_callVv (pc := 112) X (As := [.int c99_2, .int a3]) (rest := []) dX7_survey_112 (kX7_surveyTie (mL M) G hZ X.2.2.2.2.2.2.1 X.2.2.2.2.2.2.2.1 σ1 c99_2 a3 σ16 h15) rfl shzC_140 clzC_7 gX7_survey_X7_surveyTie hyX7_surveyTie ⟨rfl, rfl⟩ ⟨Nat.le_of_ble_eq_true rfl, Nat.le_of_ble_eq_true rfl⟩ rfl rfl (Nat.le_of_ble_eq_true rfl) ?_
      refine ww_iinc (pc := 115) X (j := 3) (v := 1) (lv' := [(0, .ref (G.2.1 140)), (1, .int c92_1), (2, .int c99_2)]) dX7_survey_115 rfl rfl (by decide) rfl hF (fun x17 ex17 hF => ?_)
      refine ww_goto (pc := 118) X (tgt := 99) dX7_survey_118 (by decide) ?_
      exact ww_sub [1, 2, 3, 0] rfl (ih99 x17 σ16 hF)
set_option maxRecDepth 100000 in
set_option maxHeartbeats 4000000 in
theorem wbX7_survey_92 {M : gM} {G : gG} {out : gS} (X : gX M G zC cX7_survey RX7 4 wsX7_survey rmX7_survey none) {ex : gEx} (hZ : ∀ s : State, G.2.2.2 s → kC ex (gA G zC.1) s) (σ : gS) (c92_1 : Int32) (rec92 : Int32 → gS → Option (gS)) (ih92 : ∀ (a2 : Int32) (σ1 : gS), rec92 a2 σ1 = some out → WW M (gQv M G zC out) G zC 4 σ1 92 [(0, .ref (G.2.1 140)), (1, .int c92_1), (2, .int a2)] []) (a2 : Int32) (σ1 : gS) (hF : bX7_survey_92 σ c92_1 rec92 a2 σ1 = some out) : WW M (gQv M G zC out) G zC 4 σ1 92 [(0, .ref (G.2.1 140)), (1, .int c92_1), (2, .int a2)] [] := by
  unfold bX7_survey_92 at hF
  refine ww_iload_n (pc := 92) X (j := 2) dX7_survey_92 rfl rfl ?_
  refine ww_iload_n (pc := 93) X (j := 1) dX7_survey_93 rfl rfl ?_
  refine ww_icmp_ge (pc := 94) (tgt := 127) X dX7_survey_94 (by decide) hF (fun h9 hF => ?_) (fun h9 hF => ?_)
  · exact ww_vret (pc := 127) X dX7_survey_127 (by cases hF; rfl)
  · refine ww_iconst (pc := 97) X (v := 0) dX7_survey_97 (by decide) ?_
    refine ww_istore_n (pc := 98) X (lv' := [(0, .ref (G.2.1 140)), (1, .int c92_1), (2, .int a2)]) dX7_survey_98 rfl (by decide) rfl hF (fun x10 ex10 hF => ?_)
    exact ww_sub [1, 2, 3, 0] rfl (lpc_ind (P := (fun (s : Int32 × gS) => WW M (gQv M G zC out) G zC 4 s.2 99 [(0, .ref (G.2.1 140)), (1, .int c92_1), (2, .int a2), (3, .int s.1)] [])) (fun rec s ih hF => wbX7_survey_99 X hZ σ1 c92_1 a2 rec92  ih92 (fun a3 σ1 => rec (a3, σ1)) (fun a3 σ1 h => ih (a3, σ1) h) s.1 s.2 hF) K9 (x10, σ1) hF)
set_option maxRecDepth 100000 in
set_option maxHeartbeats 4000000 in
theorem wbX7_survey_35 {M : gM} {G : gG} {out : gS} (X : gX M G zC cX7_survey RX7 4 wsX7_survey rmX7_survey none) {ex : gEx} (hZ : ∀ s : State, G.2.2.2 s → kC ex (gA G zC.1) s) (σ : gS) (c35_1 : Int32) (rec35 : Int32 → gS → Option (gS)) (ih35 : ∀ (a2 : Int32) (σ1 : gS), rec35 a2 σ1 = some out → WW M (gQv M G zC out) G zC 4 σ1 35 [(0, .ref (G.2.1 140)), (1, .int c35_1), (2, .int a2)] []) (a2 : Int32) (σ1 : gS) (hF : bX7_survey_35 σ c35_1 rec35 a2 σ1 = some out) : WW M (gQv M G zC out) G zC 4 σ1 35 [(0, .ref (G.2.1 140)), (1, .int c35_1), (2, .int a2)] [] := by
  unfold bX7_survey_35 at hF
  refine ww_iload_n (pc := 35) X (j := 2) dX7_survey_35 rfl rfl ?_
  refine ww_aload_n (pc := 36) X (j := 0) dX7_survey_36 rfl rfl ?_
  refine ww_get (pc := 37) X (ref := "PictureBlock$Ties") (T := TX7) (j := 0) dX7_survey_37 inX7_survey_RX7 shzC_140 clzC_7 (by decide) rfl (List.mem_of_getElem? (i := 1) rfl) rfl ?_
  refine ww_get (pc := 40) X (ref := "PictureBlock$Told") (T := TX8) (j := 0) dX7_survey_40 inX7_survey_RX8 shzC_2 clzC_8 (by decide) rfl (List.mem_of_getElem? (i := 2) rfl) rfl ?_
  refine ww_iconst (pc := 43) X (v := 3) dX7_survey_43 (by decide) ?_
  refine ww_iald (pc := 44) X dX7_survey_44 shzC_3 rfl hF (fun v6 ev6 bv6 hF => ?_)
  refine ww_icmp_ge (pc := 45) (tgt := 90) X dX7_survey_45 (by decide) hF (fun h7 hF => ?_) (fun h7 hF => ?_)
  · refine ww_iconst (pc := 90) X (v := 0) dX7_survey_90 (by decide) ?_
    refine ww_istore_n (pc := 91) X (lv' := [(0, .ref (G.2.1 140)), (1, .int c35_1)]) dX7_survey_91 rfl (by decide) rfl hF (fun x8 ex8 hF => ?_)
    exact ww_sub [1, 2, 0] rfl (lpc_ind (P := (fun (s : Int32 × gS) => WW M (gQv M G zC out) G zC 4 s.2 92 [(0, .ref (G.2.1 140)), (1, .int c35_1), (2, .int s.1)] [])) (fun rec s ih hF => wbX7_survey_92 X hZ σ1 c35_1 (fun a2 σ1 => rec (a2, σ1)) (fun a2 σ1 h => ih (a2, σ1) h) s.1 s.2 hF) K9 (x8, σ1) hF)
  · refine ww_aload_n (pc := 48) X (j := 0) dX7_survey_48 rfl rfl ?_
    refine ww_get (pc := 49) X (ref := "PictureBlock$Ties") (T := TX7) (j := 1) dX7_survey_49 inX7_survey_RX7 shzC_140 clzC_7 (by decide) rfl (List.mem_of_getElem? (i := 4) rfl) rfl ?_
    refine ww_iload_n (pc := 52) X (j := 2) dX7_survey_52 rfl rfl ?_
    obtain ⟨r19, h18, hF⟩ := bd_some hF
    refine ww_callVi (pc := 53) X (As := [.int a2]) (rest := []) dX7_survey_53 (kX5_uses_47 (mL M) G hZ X.2.2.2.2.2.2.1 X.2.2.2.2.2.2.2.1 σ1 a2 r19 h18) rfl shzC_47 clzC_5 gX7_survey_X5_uses hyX5_uses ⟨rfl, rfl⟩ ⟨Nat.le_of_ble_eq_true rfl, Nat.le_of_ble_eq_true rfl⟩ rfl rfl (Nat.le_of_ble_eq_true rfl) ?_
    refine ww_if_eq (pc := 56) (tgt := 84) X dX7_survey_56 (by decide) hF (fun h20 hF => ?_) (fun h20 hF => ?_)
    · refine ww_iinc (pc := 84) X (j := 2) (v := 1) (lv' := [(0, .ref (G.2.1 140)), (1, .int c35_1)]) dX7_survey_84 rfl rfl (by decide) rfl hF (fun x21 ex21 hF => ?_)
      refine ww_goto (pc := 87) X (tgt := 35) dX7_survey_87 (by decide) ?_
      exact ww_sub [1, 2, 0] rfl (ih35 x21 σ1 hF)
    · refine ww_aload_n (pc := 59) X (j := 0) dX7_survey_59 rfl rfl ?_
      refine ww_get (pc := 60) X (ref := "PictureBlock$Ties") (T := TX7) (j := 2) dX7_survey_60 inX7_survey_RX7 shzC_140 clzC_7 (by decide) rfl (List.mem_of_getElem? (i := 3) rfl) rfl ?_
      refine ww_aload_n (pc := 63) X (j := 0) dX7_survey_63 rfl rfl ?_
      refine ww_get (pc := 64) X (ref := "PictureBlock$Ties") (T := TX7) (j := 0) dX7_survey_64 inX7_survey_RX7 shzC_140 clzC_7 (by decide) rfl (List.mem_of_getElem? (i := 1) rfl) rfl ?_
      refine ww_get (pc := 67) X (ref := "PictureBlock$Told") (T := TX8) (j := 4) dX7_survey_67 inX7_survey_RX8 shzC_2 clzC_8 (by decide) rfl (List.mem_of_getElem? (i := 5) rfl) rfl ?_
      refine ww_iload_n (pc := 70) X (j := 2) dX7_survey_70 rfl rfl ?_
      refine ww_iald (pc := 71) X dX7_survey_71 shzC_10 rfl hF (fun v22 ev22 bv22 hF => ?_)
      refine ww_aald (pc := 72) X dX7_survey_72 shzC_141 rfl hF (fun h23 hF => ?_)
      refine ww_aload_n (pc := 73) X (j := 0) dX7_survey_73 rfl rfl ?_
      refine ww_get (pc := 74) X (ref := "PictureBlock$Ties") (T := TX7) (j := 0) dX7_survey_74 inX7_survey_RX7 shzC_140 clzC_7 (by decide) rfl (List.mem_of_getElem? (i := 1) rfl) rfl ?_
      refine ww_get (pc := 77) X (ref := "PictureBlock$Told") (T := TX8) (j := 5) dX7_survey_77 inX7_survey_RX8 shzC_2 clzC_8 (by decide) rfl (List.mem_of_getElem? (i := 6) rfl) rfl ?_
      refine ww_iload_n (pc := 80) X (j := 2) dX7_survey_80 rfl rfl ?_
      refine ww_iald (pc := 81) X dX7_survey_81 shzC_11 rfl hF (fun v24 ev24 bv24 hF => ?_)
      refine ww_iload_n (pc := 82) X (j := 2) dX7_survey_82 rfl rfl ?_
      refine ww_iast (pc := 83) X dX7_survey_83 (rwzC_141 _ (gb_lt h23)) rfl hF (fun σ25 eσ25 bσ25 hF => ?_)
      refine ww_iinc (pc := 84) X (j := 2) (v := 1) (lv' := [(0, .ref (G.2.1 140)), (1, .int c35_1)]) dX7_survey_84 rfl rfl (by decide) rfl hF (fun x26 ex26 hF => ?_)
      refine ww_goto (pc := 87) X (tgt := 35) dX7_survey_87 (by decide) ?_
      exact ww_sub [1, 2, 0] rfl (ih35 x26 σ25 hF)
set_option maxRecDepth 100000 in
set_option maxHeartbeats 4000000 in
theorem wbX7_survey_12 {M : gM} {G : gG} {out : gS} (X : gX M G zC cX7_survey RX7 4 wsX7_survey rmX7_survey none) {ex : gEx} (hZ : ∀ s : State, G.2.2.2 s → kC ex (gA G zC.1) s) (σ : gS) (c12_1 : Int32) (rec12 : Int32 → gS → Option (gS)) (ih12 : ∀ (a2 : Int32) (σ1 : gS), rec12 a2 σ1 = some out → WW M (gQv M G zC out) G zC 4 σ1 12 [(0, .ref (G.2.1 140)), (1, .int c12_1), (2, .int a2)] []) (a2 : Int32) (σ1 : gS) (hF : bX7_survey_12 σ c12_1 rec12 a2 σ1 = some out) : WW M (gQv M G zC out) G zC 4 σ1 12 [(0, .ref (G.2.1 140)), (1, .int c12_1), (2, .int a2)] [] := by
  unfold bX7_survey_12 at hF
  refine ww_iload_n (pc := 12) X (j := 2) dX7_survey_12 rfl rfl ?_
  refine ww_iload_n (pc := 13) X (j := 1) dX7_survey_13 rfl rfl ?_
  refine ww_icmp_ge (pc := 14) (tgt := 33) X dX7_survey_14 (by decide) hF (fun h4 hF => ?_) (fun h4 hF => ?_)
  · refine ww_iconst (pc := 33) X (v := 0) dX7_survey_33 (by decide) ?_
    refine ww_istore_n (pc := 34) X (lv' := [(0, .ref (G.2.1 140)), (1, .int c12_1)]) dX7_survey_34 rfl (by decide) rfl hF (fun x5 ex5 hF => ?_)
    exact ww_sub [1, 2, 0] rfl (lpc_ind (P := (fun (s : Int32 × gS) => WW M (gQv M G zC out) G zC 4 s.2 35 [(0, .ref (G.2.1 140)), (1, .int c12_1), (2, .int s.1)] [])) (fun rec s ih hF => wbX7_survey_35 X hZ σ1 c12_1 (fun a2 σ1 => rec (a2, σ1)) (fun a2 σ1 h => ih (a2, σ1) h) s.1 s.2 hF) K9 (x5, σ1) hF)
  · refine ww_aload_n (pc := 17) X (j := 0) dX7_survey_17 rfl rfl ?_
    refine ww_get (pc := 18) X (ref := "PictureBlock$Ties") (T := TX7) (j := 2) dX7_survey_18 inX7_survey_RX7 shzC_140 clzC_7 (by decide) rfl (List.mem_of_getElem? (i := 3) rfl) rfl ?_
    refine ww_iload_n (pc := 21) X (j := 2) dX7_survey_21 rfl rfl ?_
    refine ww_aald (pc := 22) X dX7_survey_22 shzC_141 rfl hF (fun h27 hF => ?_)
    refine ww_iconst (pc := 23) X (v := (-1)) dX7_survey_23 (by decide) ?_
    obtain ⟨σ29, h28, hF⟩ := bd_some hF
    refine ww_callSv (pc := 24) X (As := [.ref (G.2.1 (142 + a2.toNatClampNeg)), .int ((-1))]) (rest := []) dX7_survey_24 (kJ7_fill_53178 (mL M) G hZ X.2.2.2.2.2.2.1 X.2.2.2.2.2.2.2.1 σ1 (142 + a2.toNatClampNeg) ((-1)) σ29 h28) rfl gX7_survey_J7_fill_53178 hyJ7_fill_53178 ⟨rfl, rfl⟩ ⟨Nat.le_of_ble_eq_true rfl, Nat.le_of_ble_eq_true rfl⟩ rfl rfl (Nat.le_of_ble_eq_true rfl) ?_
    refine ww_iinc (pc := 27) X (j := 2) (v := 1) (lv' := [(0, .ref (G.2.1 140)), (1, .int c12_1)]) dX7_survey_27 rfl rfl (by decide) rfl hF (fun x30 ex30 hF => ?_)
    refine ww_goto (pc := 30) X (tgt := 12) dX7_survey_30 (by decide) ?_
    exact ww_sub [1, 2, 0] rfl (ih12 x30 σ29 hF)
set_option maxRecDepth 100000 in
set_option maxHeartbeats 4000000 in
theorem wX7_survey {M : gM} {G : gG} {out : gS} (X : gX M G zC cX7_survey RX7 4 wsX7_survey rmX7_survey none) {ex : gEx} (hZ : ∀ s : State, G.2.2.2 s → kC ex (gA G zC.1) s) (σ : gS) (hF : fX7_survey σ = some out) : WW M (gQv M G zC out) G zC 4 σ 0 [(0, .ref (G.2.1 140))] [] := by
  unfold fX7_survey at hF
  refine ww_aload_n (pc := 0) X (j := 0) dX7_survey_0 rfl rfl ?_
  refine ww_get (pc := 1) X (ref := "PictureBlock$Ties") (T := TX7) (j := 0) dX7_survey_1 inX7_survey_RX7 shzC_140 clzC_7 (by decide) rfl (List.mem_of_getElem? (i := 1) rfl) rfl ?_
  refine ww_get (pc := 4) X (ref := "PictureBlock$Told") (T := TX8) (j := 0) dX7_survey_4 inX7_survey_RX8 shzC_2 clzC_8 (by decide) rfl (List.mem_of_getElem? (i := 2) rfl) rfl ?_
  refine ww_iconst (pc := 7) X (v := 1) dX7_survey_7 (by decide) ?_
  refine ww_iald (pc := 8) X dX7_survey_8 shzC_3 rfl hF (fun v1 ev1 bv1 hF => ?_)
  refine ww_istore_n (pc := 9) X (lv' := [(0, .ref (G.2.1 140))]) dX7_survey_9 rfl (by decide) rfl hF (fun x2 ex2 hF => ?_)
  refine ww_iconst (pc := 10) X (v := 0) dX7_survey_10 (by decide) ?_
  refine ww_istore_n (pc := 11) X (lv' := [(1, .int x2), (0, .ref (G.2.1 140))]) dX7_survey_11 rfl (by decide) rfl hF (fun x3 ex3 hF => ?_)
  exact ww_sub [2, 1, 0] rfl (lpc_ind (P := (fun (s : Int32 × gS) => WW M (gQv M G zC out) G zC 4 s.2 12 [(0, .ref (G.2.1 140)), (1, .int x2), (2, .int s.1)] [])) (fun rec s ih hF => wbX7_survey_12 X hZ σ x2 (fun a2 σ1 => rec (a2, σ1)) (fun a2 σ1 h => ih (a2, σ1) h) s.1 s.2 hF) K9 (x3, σ) hF)
set_option maxRecDepth 100000 in
set_option maxHeartbeats 4000000 in
theorem kX7_survey (l : Launch) (G : gG) {ex : gEx} (hZ : ∀ s : State, G.2.2.2 s → kC ex (gA G zC.1) s) (hG : gOK G zC.1) (hT : G.2.2.1.map (fun q => q.2) = zC.2.1) (σ : gS) (out : gS) (hF : fX7_survey σ = some out) : gCv l yX7_survey wsX7_survey rmX7_survey G zC [.ref (G.2.1 140)] σ out :=
  gEnter (by decide) rfl ⟨rfl, rfl⟩ hG hT (Nat.le_of_ble_eq_true rfl) rfl (fun M X hl => wX7_survey X hZ σ hF)
noncomputable def fX7_stepOf (σ : gS) (p1 : Int32) (p2 : Int32) (p3 : Int32) : Option (Int32) :=
  if p3 = 0 then gd (gb p1 12) <| gd (gb p2 12) <| nm (σ.1 (168 + p1.toNatClampNeg) p2.toNatClampNeg) fun v5 => some v5 else gd (gb p1 12) <| gd (gb p2 12) <| nm (σ.1 (181 + p1.toNatClampNeg) p2.toNatClampNeg) fun v3 => some v3
noncomputable abbrev rmX7_stepOf : Room := { frames := 0, cells := 0, slots := 0, locals := 0 }
set_option maxRecDepth 100000 in
set_option maxHeartbeats 4000000 in
theorem wX7_stepOf {M : gM} {G : gG} {out : Int32} (X : gX M G zC cX7_stepOf RX7 4 wsX7_stepOf rmX7_stepOf (some .int)) {ex : gEx} (hZ : ∀ s : State, G.2.2.2 s → kC ex (gA G zC.1) s) (σ : gS) (p1 : Int32) (p2 : Int32) (p3 : Int32) (hF : fX7_stepOf σ p1 p2 p3 = some out) : WW M (gQi M G zC out σ) G zC 4 σ 0 [(0, .ref (G.2.1 140)), (1, .int p1), (2, .int p2), (3, .int p3)] [] := by
  unfold fX7_stepOf at hF
  refine ww_iload_n (pc := 0) X (j := 3) dX7_stepOf_0 rfl rfl ?_
  refine ww_if_ne (pc := 1) (tgt := 15) X dX7_stepOf_1 (by decide) hF (fun h1 hF => ?_) (fun h1 hF => ?_)
  · refine ww_aload_n (pc := 15) X (j := 0) dX7_stepOf_15 rfl rfl ?_
    refine ww_get (pc := 16) X (ref := "PictureBlock$Ties") (T := TX7) (j := 5) dX7_stepOf_16 inX7_stepOf_RX7 shzC_140 clzC_7 (by decide) rfl (List.mem_of_getElem? (i := 2) rfl) rfl ?_
    refine ww_iload_n (pc := 19) X (j := 1) dX7_stepOf_19 rfl rfl ?_
    refine ww_aald (pc := 20) X dX7_stepOf_20 shzC_180 rfl hF (fun h2 hF => ?_)
    refine ww_iload_n (pc := 21) X (j := 2) dX7_stepOf_21 rfl rfl ?_
    refine ww_iald (pc := 22) X dX7_stepOf_22 (rwzC_180 _ (gb_lt h2)) rfl hF (fun v3 ev3 bv3 hF => ?_)
    exact ww_iret (pc := 23) X dX7_stepOf_23 (Option.some.inj hF) rfl
  · refine ww_aload_n (pc := 4) X (j := 0) dX7_stepOf_4 rfl rfl ?_
    refine ww_get (pc := 5) X (ref := "PictureBlock$Ties") (T := TX7) (j := 4) dX7_stepOf_5 inX7_stepOf_RX7 shzC_140 clzC_7 (by decide) rfl (List.mem_of_getElem? (i := 1) rfl) rfl ?_
    refine ww_iload_n (pc := 8) X (j := 1) dX7_stepOf_8 rfl rfl ?_
    refine ww_aald (pc := 9) X dX7_stepOf_9 shzC_167 rfl hF (fun h4 hF => ?_)
    refine ww_iload_n (pc := 10) X (j := 2) dX7_stepOf_10 rfl rfl ?_
    refine ww_iald (pc := 11) X dX7_stepOf_11 (rwzC_167 _ (gb_lt h4)) rfl hF (fun v5 ev5 bv5 hF => ?_)
    refine ww_goto (pc := 12) X (tgt := 23) dX7_stepOf_12 (by decide) ?_
    exact ww_iret (pc := 23) X dX7_stepOf_23 (Option.some.inj hF) rfl
set_option maxRecDepth 100000 in
set_option maxHeartbeats 4000000 in
theorem kX7_stepOf (l : Launch) (G : gG) {ex : gEx} (hZ : ∀ s : State, G.2.2.2 s → kC ex (gA G zC.1) s) (hG : gOK G zC.1) (hT : G.2.2.1.map (fun q => q.2) = zC.2.1) (σ : gS) (p1 : Int32) (p2 : Int32) (p3 : Int32) (out : Int32) (hF : fX7_stepOf σ p1 p2 p3 = some out) : gCi l yX7_stepOf wsX7_stepOf rmX7_stepOf G zC [.ref (G.2.1 140), .int p1, .int p2, .int p3] σ out σ :=
  gEnter (by decide) rfl ⟨rfl, rfl⟩ hG hT (Nat.le_of_ble_eq_true rfl) rfl (fun M X hl => wX7_stepOf X hZ σ p1 p2 p3 hF)
noncomputable def fX9_tie (σ : gS) (p1 : Int32) (p2 : Int32) (p3 : Int32) : Option (Int32 × gS) :=
  bd (fX9_areUnlike σ p1 p2) fun r2 => (if r2 = 0 then some ((-1000000000), σ) else if p3 < 0 then some ((-1000000000), σ) else if p3 ≤ 2 then bd (fX7_survey σ) fun σ7 => (if p3 = 0 then gd (gb p1 12) <| gd (gb p2 12) <| nm (σ7.1 (155 + p1.toNatClampNeg) p2.toNatClampNeg) fun v15 => some (v15, σ7) else gd (gb p1 12) <| gd (gb p2 12) <| nm (σ7.1 (155 + p1.toNatClampNeg) p2.toNatClampNeg) fun v10 => (if v10 = 0 then some ((-1000000000), σ7) else bd (fX7_stepOf σ7 p1 p2 (p3 - 1)) fun r13 => some (r13, σ7))) else some ((-1000000000), σ))
noncomputable abbrev rmX9_tie : Room := { frames := 4, cells := 0, slots := 0, locals := 101 }
set_option maxRecDepth 100000 in
set_option maxHeartbeats 4000000 in
theorem wX9_tie {M : gM} {G : gG} {out : Int32 × gS} (X : gX M G zC cX9_tie RX9 4 wsX9_tie rmX9_tie (some .int)) {ex : gEx} (hZ : ∀ s : State, G.2.2.2 s → kC ex (gA G zC.1) s) (σ : gS) (p1 : Int32) (p2 : Int32) (p3 : Int32) (hF : fX9_tie σ p1 p2 p3 = some out) : WW M (gQi M G zC out.1 out.2) G zC 4 σ 0 [(0, .ref (G.2.1 0)), (1, .int p1), (2, .int p2), (3, .int p3)] [] := by
  unfold fX9_tie at hF
  refine ww_aload_n (pc := 0) X (j := 0) dX9_tie_0 rfl rfl ?_
  refine ww_iload_n (pc := 1) X (j := 1) dX9_tie_1 rfl rfl ?_
  refine ww_iload_n (pc := 2) X (j := 2) dX9_tie_2 rfl rfl ?_
  obtain ⟨r2, h1, hF⟩ := bd_some hF
  refine ww_callVi (pc := 3) X (As := [.int p1, .int p2]) (rest := []) dX9_tie_3 (kX9_areUnlike (mL M) G hZ X.2.2.2.2.2.2.1 X.2.2.2.2.2.2.2.1 σ p1 p2 r2 h1) rfl shzC_0 clzC_9 gX9_tie_X9_areUnlike hyX9_areUnlike ⟨rfl, rfl⟩ ⟨Nat.le_of_ble_eq_true rfl, Nat.le_of_ble_eq_true rfl⟩ rfl rfl (Nat.le_of_ble_eq_true rfl) ?_
  refine ww_if_eq (pc := 6) (tgt := 18) X dX9_tie_6 (by decide) hF (fun h3 hF => ?_) (fun h3 hF => ?_)
  · refine ww_ldc (pc := 18) X (v := (-1000000000)) (List.mem_of_getElem? (i := 1) rfl) dX9_tie_18 ?_
    exact ww_iret (pc := 20) X dX9_tie_20 (fst_of hF) (snd_of hF)
  · refine ww_iload_n (pc := 9) X (j := 3) dX9_tie_9 rfl rfl ?_
    refine ww_if_lt (pc := 10) (tgt := 18) X dX9_tie_10 (by decide) hF (fun h4 hF => ?_) (fun h4 hF => ?_)
    · refine ww_ldc (pc := 18) X (v := (-1000000000)) (List.mem_of_getElem? (i := 1) rfl) dX9_tie_18 ?_
      exact ww_iret (pc := 20) X dX9_tie_20 (fst_of hF) (snd_of hF)
    · refine ww_iload_n (pc := 13) X (j := 3) dX9_tie_13 rfl rfl ?_
      refine ww_iconst (pc := 14) X (v := 2) dX9_tie_14 (by decide) ?_
      refine ww_icmp_le (pc := 15) (tgt := 21) X dX9_tie_15 (by decide) hF (fun h5 hF => ?_) (fun h5 hF => ?_)
      · refine ww_aload_n (pc := 21) X (j := 0) dX9_tie_21 rfl rfl ?_
        refine ww_get (pc := 22) X (ref := "PictureBlock") (T := TX9) (j := 12) dX9_tie_22 inX9_tie_RX9 shzC_0 clzC_9 (by decide) rfl (List.mem_of_getElem? (i := 2) rfl) rfl ?_
        obtain ⟨σ7, h6, hF⟩ := bd_some hF
        refine ww_callVv (pc := 25) X (As := []) (rest := []) dX9_tie_25 (kX7_survey (mL M) G hZ X.2.2.2.2.2.2.1 X.2.2.2.2.2.2.2.1 σ σ7 h6) rfl shzC_140 clzC_7 gX9_tie_X7_survey hyX7_survey ⟨rfl, rfl⟩ ⟨Nat.le_of_ble_eq_true rfl, Nat.le_of_ble_eq_true rfl⟩ rfl rfl (Nat.le_of_ble_eq_true rfl) ?_
        refine ww_iload_n (pc := 28) X (j := 3) dX9_tie_28 rfl rfl ?_
        refine ww_if_ne (pc := 29) (tgt := 44) X dX9_tie_29 (by decide) hF (fun h8 hF => ?_) (fun h8 hF => ?_)
        · refine ww_aload_n (pc := 44) X (j := 0) dX9_tie_44 rfl rfl ?_
          refine ww_get (pc := 45) X (ref := "PictureBlock") (T := TX9) (j := 12) dX9_tie_45 inX9_tie_RX9 shzC_0 clzC_9 (by decide) rfl (List.mem_of_getElem? (i := 2) rfl) rfl ?_
          refine ww_get (pc := 48) X (ref := "PictureBlock$Ties") (T := TX7) (j := 3) dX9_tie_48 inX9_tie_RX7 shzC_140 clzC_7 (by decide) rfl (List.mem_of_getElem? (i := 3) rfl) rfl ?_
          refine ww_iload_n (pc := 51) X (j := 1) dX9_tie_51 rfl rfl ?_
          refine ww_aald (pc := 52) X dX9_tie_52 shzC_154 rfl hF (fun h9 hF => ?_)
          refine ww_iload_n (pc := 53) X (j := 2) dX9_tie_53 rfl rfl ?_
          refine ww_iald (pc := 54) X dX9_tie_54 (rwzC_154 _ (gb_lt h9)) rfl hF (fun v10 ev10 bv10 hF => ?_)
          refine ww_if_ne (pc := 55) (tgt := 61) X dX9_tie_55 (by decide) hF (fun h11 hF => ?_) (fun h11 hF => ?_)
          · refine ww_aload_n (pc := 61) X (j := 0) dX9_tie_61 rfl rfl ?_
            refine ww_get (pc := 62) X (ref := "PictureBlock") (T := TX9) (j := 12) dX9_tie_62 inX9_tie_RX9 shzC_0 clzC_9 (by decide) rfl (List.mem_of_getElem? (i := 2) rfl) rfl ?_
            refine ww_iload_n (pc := 65) X (j := 1) dX9_tie_65 rfl rfl ?_
            refine ww_iload_n (pc := 66) X (j := 2) dX9_tie_66 rfl rfl ?_
            refine ww_iload_n (pc := 67) X (j := 3) dX9_tie_67 rfl rfl ?_
            refine ww_iconst (pc := 68) X (v := 1) dX9_tie_68 (by decide) ?_
            refine ww_isub (pc := 69) X dX9_tie_69 ?_
            obtain ⟨r13, h12, hF⟩ := bd_some hF
            refine ww_callVi (pc := 70) X (As := [.int p1, .int p2, .int (p3 - 1)]) (rest := []) dX9_tie_70 (kX7_stepOf (mL M) G hZ X.2.2.2.2.2.2.1 X.2.2.2.2.2.2.2.1 σ7 p1 p2 (p3 - 1) r13 h12) rfl shzC_140 clzC_7 gX9_tie_X7_stepOf hyX7_stepOf ⟨rfl, rfl⟩ ⟨Nat.le_of_ble_eq_true rfl, Nat.le_of_ble_eq_true rfl⟩ rfl rfl (Nat.le_of_ble_eq_true rfl) ?_
            exact ww_iret (pc := 73) X dX9_tie_73 (fst_of hF) (snd_of hF)
          · refine ww_ldc (pc := 58) X (v := (-1000000000)) (List.mem_of_getElem? (i := 1) rfl) dX9_tie_58 ?_
            exact ww_iret (pc := 60) X dX9_tie_60 (fst_of hF) (snd_of hF)
        · refine ww_aload_n (pc := 32) X (j := 0) dX9_tie_32 rfl rfl ?_
          refine ww_get (pc := 33) X (ref := "PictureBlock") (T := TX9) (j := 12) dX9_tie_33 inX9_tie_RX9 shzC_0 clzC_9 (by decide) rfl (List.mem_of_getElem? (i := 2) rfl) rfl ?_
          refine ww_get (pc := 36) X (ref := "PictureBlock$Ties") (T := TX7) (j := 3) dX9_tie_36 inX9_tie_RX7 shzC_140 clzC_7 (by decide) rfl (List.mem_of_getElem? (i := 3) rfl) rfl ?_
          refine ww_iload_n (pc := 39) X (j := 1) dX9_tie_39 rfl rfl ?_
          refine ww_aald (pc := 40) X dX9_tie_40 shzC_154 rfl hF (fun h14 hF => ?_)
          refine ww_iload_n (pc := 41) X (j := 2) dX9_tie_41 rfl rfl ?_
          refine ww_iald (pc := 42) X dX9_tie_42 (rwzC_154 _ (gb_lt h14)) rfl hF (fun v15 ev15 bv15 hF => ?_)
          exact ww_iret (pc := 43) X dX9_tie_43 (fst_of hF) (snd_of hF)
      · refine ww_ldc (pc := 18) X (v := (-1000000000)) (List.mem_of_getElem? (i := 1) rfl) dX9_tie_18 ?_
        exact ww_iret (pc := 20) X dX9_tie_20 (fst_of hF) (snd_of hF)
set_option maxRecDepth 100000 in
set_option maxHeartbeats 4000000 in
theorem kX9_tie (l : Launch) (G : gG) {ex : gEx} (hZ : ∀ s : State, G.2.2.2 s → kC ex (gA G zC.1) s) (hG : gOK G zC.1) (hT : G.2.2.1.map (fun q => q.2) = zC.2.1) (σ : gS) (p1 : Int32) (p2 : Int32) (p3 : Int32) (out : Int32 × gS) (hF : fX9_tie σ p1 p2 p3 = some out) : gCi l yX9_tie wsX9_tie rmX9_tie G zC [.ref (G.2.1 0), .int p1, .int p2, .int p3] σ out.1 out.2 :=
  gEnter (by decide) rfl ⟨rfl, rfl⟩ hG hT (Nat.le_of_ble_eq_true rfl) rfl (fun M X hl => wX9_tie X hZ σ p1 p2 p3 hF)
