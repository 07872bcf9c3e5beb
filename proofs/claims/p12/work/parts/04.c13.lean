noncomputable def fX7_isLoop (σ : gS) (p1 : Int32) (p2 : Int32) (p3 : Int32) : Option (Int32) :=
  gd (gb p1 12) <| gd (gb p2 12) <| nm (σ.1 (155 + p1.toNatClampNeg) p2.toNatClampNeg) fun v2 => (if v2 ≤ 0 then some 0 else gd (gb p2 12) <| gd (gb p3 12) <| nm (σ.1 (155 + p2.toNatClampNeg) p3.toNatClampNeg) fun v5 => (if v5 ≤ 0 then some 0 else gd (gb p3 12) <| gd (gb p1 12) <| nm (σ.1 (155 + p3.toNatClampNeg) p1.toNatClampNeg) fun v8 => (if v8 ≤ 0 then some 0 else some 1)))
noncomputable abbrev rmX7_isLoop : Room := { frames := 0, cells := 0, slots := 0, locals := 0 }
set_option maxRecDepth 100000 in
set_option maxHeartbeats 4000000 in
theorem wX7_isLoop {M : gM} {G : gG} {out : Int32} (X : gX M G zC cX7_isLoop RX7 4 wsX7_isLoop rmX7_isLoop (some .boolean)) {ex : gEx} (hZ : ∀ s : State, G.2.2.2 s → kC ex (gA G zC.1) s) (σ : gS) (p1 : Int32) (p2 : Int32) (p3 : Int32) (hF : fX7_isLoop σ p1 p2 p3 = some out) : WW M (gQi M G zC out σ) G zC 4 σ 0 [(0, .ref (G.2.1 140)), (1, .int p1), (2, .int p2), (3, .int p3)] [] := by
  unfold fX7_isLoop at hF
  refine ww_aload_n (pc := 0) X (j := 0) dX7_isLoop_0 rfl rfl ?_
  refine ww_get (pc := 1) X (ref := "PictureBlock$Ties") (T := TX7) (j := 3) dX7_isLoop_1 inX7_isLoop_RX7 shzC_140 clzC_7 (by decide) rfl (List.mem_of_getElem? (i := 1) rfl) rfl ?_
  refine ww_iload_n (pc := 4) X (j := 1) dX7_isLoop_4 rfl rfl ?_
  refine ww_aald (pc := 5) X dX7_isLoop_5 shzC_154 rfl hF (fun h1 hF => ?_)
  refine ww_iload_n (pc := 6) X (j := 2) dX7_isLoop_6 rfl rfl ?_
  refine ww_iald (pc := 7) X dX7_isLoop_7 (rwzC_154 _ (gb_lt h1)) rfl hF (fun v2 ev2 bv2 hF => ?_)
  refine ww_if_le (pc := 8) (tgt := 37) X dX7_isLoop_8 (by decide) hF (fun h3 hF => ?_) (fun h3 hF => ?_)
  · refine ww_iconst (pc := 37) X (v := 0) dX7_isLoop_37 (by decide) ?_
    exact ww_zret (pc := 38) X dX7_isLoop_38 (by cases hF; rfl) rfl
  · refine ww_aload_n (pc := 11) X (j := 0) dX7_isLoop_11 rfl rfl ?_
    refine ww_get (pc := 12) X (ref := "PictureBlock$Ties") (T := TX7) (j := 3) dX7_isLoop_12 inX7_isLoop_RX7 shzC_140 clzC_7 (by decide) rfl (List.mem_of_getElem? (i := 1) rfl) rfl ?_
    refine ww_iload_n (pc := 15) X (j := 2) dX7_isLoop_15 rfl rfl ?_
    refine ww_aald (pc := 16) X dX7_isLoop_16 shzC_154 rfl hF (fun h4 hF => ?_)
    refine ww_iload_n (pc := 17) X (j := 3) dX7_isLoop_17 rfl rfl ?_
    refine ww_iald (pc := 18) X dX7_isLoop_18 (rwzC_154 _ (gb_lt h4)) rfl hF (fun v5 ev5 bv5 hF => ?_)
    refine ww_if_le (pc := 19) (tgt := 37) X dX7_isLoop_19 (by decide) hF (fun h6 hF => ?_) (fun h6 hF => ?_)
    · refine ww_iconst (pc := 37) X (v := 0) dX7_isLoop_37 (by decide) ?_
      exact ww_zret (pc := 38) X dX7_isLoop_38 (by cases hF; rfl) rfl
    · refine ww_aload_n (pc := 22) X (j := 0) dX7_isLoop_22 rfl rfl ?_
      refine ww_get (pc := 23) X (ref := "PictureBlock$Ties") (T := TX7) (j := 3) dX7_isLoop_23 inX7_isLoop_RX7 shzC_140 clzC_7 (by decide) rfl (List.mem_of_getElem? (i := 1) rfl) rfl ?_
      refine ww_iload_n (pc := 26) X (j := 3) dX7_isLoop_26 rfl rfl ?_
      refine ww_aald (pc := 27) X dX7_isLoop_27 shzC_154 rfl hF (fun h7 hF => ?_)
      refine ww_iload_n (pc := 28) X (j := 1) dX7_isLoop_28 rfl rfl ?_
      refine ww_iald (pc := 29) X dX7_isLoop_29 (rwzC_154 _ (gb_lt h7)) rfl hF (fun v8 ev8 bv8 hF => ?_)
      refine ww_if_le (pc := 30) (tgt := 37) X dX7_isLoop_30 (by decide) hF (fun h9 hF => ?_) (fun h9 hF => ?_)
      · refine ww_iconst (pc := 37) X (v := 0) dX7_isLoop_37 (by decide) ?_
        exact ww_zret (pc := 38) X dX7_isLoop_38 (by cases hF; rfl) rfl
      · refine ww_iconst (pc := 33) X (v := 1) dX7_isLoop_33 (by decide) ?_
        refine ww_goto (pc := 34) X (tgt := 38) dX7_isLoop_34 (by decide) ?_
        exact ww_zret (pc := 38) X dX7_isLoop_38 (by cases hF; rfl) rfl
set_option maxRecDepth 100000 in
set_option maxHeartbeats 4000000 in
theorem kX7_isLoop (l : Launch) (G : gG) {ex : gEx} (hZ : ∀ s : State, G.2.2.2 s → kC ex (gA G zC.1) s) (hG : gOK G zC.1) (hT : G.2.2.1.map (fun q => q.2) = zC.2.1) (σ : gS) (p1 : Int32) (p2 : Int32) (p3 : Int32) (out : Int32) (hF : fX7_isLoop σ p1 p2 p3 = some out) : gCi l yX7_isLoop wsX7_isLoop rmX7_isLoop G zC [.ref (G.2.1 140), .int p1, .int p2, .int p3] σ out σ :=
  gEnter (by decide) rfl ⟨rfl, rfl⟩ hG hT (Nat.le_of_ble_eq_true rfl) rfl (fun M X hl => wX7_isLoop X hZ σ p1 p2 p3 hF)
noncomputable def fX7_loopOf (σ : gS) (p1 : Int32) (p2 : Int32) (p3 : Int32) (p4 : Int32) : Option (Int32) :=
  bd (fX7_stepOf σ p1 p2 p4) fun r2 => bd (fX7_stepOf σ p2 p3 p4) fun r4 => bd (fX7_stepOf σ p3 p1 p4) fun r6 => some ((r2 + r4) + r6)
noncomputable abbrev rmX7_loopOf : Room := { frames := 1, cells := 0, slots := 0, locals := 23 }
set_option maxRecDepth 100000 in
set_option maxHeartbeats 4000000 in
theorem wX7_loopOf {M : gM} {G : gG} {out : Int32} (X : gX M G zC cX7_loopOf RX7 5 wsX7_loopOf rmX7_loopOf (some .int)) {ex : gEx} (hZ : ∀ s : State, G.2.2.2 s → kC ex (gA G zC.1) s) (σ : gS) (p1 : Int32) (p2 : Int32) (p3 : Int32) (p4 : Int32) (hF : fX7_loopOf σ p1 p2 p3 p4 = some out) : WW M (gQi M G zC out σ) G zC 5 σ 0 [(0, .ref (G.2.1 140)), (1, .int p1), (2, .int p2), (3, .int p3), (4, .int p4)] [] := by
  unfold fX7_loopOf at hF
  refine ww_aload_n (pc := 0) X (j := 0) dX7_loopOf_0 rfl rfl ?_
  refine ww_iload_n (pc := 1) X (j := 1) dX7_loopOf_1 rfl rfl ?_
  refine ww_iload_n (pc := 2) X (j := 2) dX7_loopOf_2 rfl rfl ?_
  refine ww_iload (pc := 3) X (j := 4) dX7_loopOf_3 rfl ?_
  obtain ⟨r2, h1, hF⟩ := bd_some hF
  refine ww_callVi (pc := 5) X (As := [.int p1, .int p2, .int p4]) (rest := []) dX7_loopOf_5 (kX7_stepOf (mL M) G hZ X.2.2.2.2.2.2.1 X.2.2.2.2.2.2.2.1 σ p1 p2 p4 r2 h1) rfl shzC_140 clzC_7 gX7_loopOf_X7_stepOf hyX7_stepOf ⟨rfl, rfl⟩ ⟨Nat.le_of_ble_eq_true rfl, Nat.le_of_ble_eq_true rfl⟩ rfl rfl (Nat.le_of_ble_eq_true rfl) ?_
  refine ww_aload_n (pc := 8) X (j := 0) dX7_loopOf_8 rfl rfl ?_
  refine ww_iload_n (pc := 9) X (j := 2) dX7_loopOf_9 rfl rfl ?_
  refine ww_iload_n (pc := 10) X (j := 3) dX7_loopOf_10 rfl rfl ?_
  refine ww_iload (pc := 11) X (j := 4) dX7_loopOf_11 rfl ?_
  obtain ⟨r4, h3, hF⟩ := bd_some hF
  refine ww_callVi (pc := 13) X (As := [.int p2, .int p3, .int p4]) (rest := [.int r2]) dX7_loopOf_13 (kX7_stepOf (mL M) G hZ X.2.2.2.2.2.2.1 X.2.2.2.2.2.2.2.1 σ p2 p3 p4 r4 h3) rfl shzC_140 clzC_7 gX7_loopOf_X7_stepOf hyX7_stepOf ⟨rfl, rfl⟩ ⟨Nat.le_of_ble_eq_true rfl, Nat.le_of_ble_eq_true rfl⟩ rfl rfl (Nat.le_of_ble_eq_true rfl) ?_
  refine ww_iadd (pc := 16) X dX7_loopOf_16 ?_
  refine ww_aload_n (pc := 17) X (j := 0) dX7_loopOf_17 rfl rfl ?_
  refine ww_iload_n (pc := 18) X (j := 3) dX7_loopOf_18 rfl rfl ?_
  refine ww_iload_n (pc := 19) X (j := 1) dX7_loopOf_19 rfl rfl ?_
  refine ww_iload (pc := 20) X (j := 4) dX7_loopOf_20 rfl ?_
  obtain ⟨r6, h5, hF⟩ := bd_some hF
  refine ww_callVi (pc := 22) X (As := [.int p3, .int p1, .int p4]) (rest := [.int (r2 + r4)]) dX7_loopOf_22 (kX7_stepOf (mL M) G hZ X.2.2.2.2.2.2.1 X.2.2.2.2.2.2.2.1 σ p3 p1 p4 r6 h5) rfl shzC_140 clzC_7 gX7_loopOf_X7_stepOf hyX7_stepOf ⟨rfl, rfl⟩ ⟨Nat.le_of_ble_eq_true rfl, Nat.le_of_ble_eq_true rfl⟩ rfl rfl (Nat.le_of_ble_eq_true rfl) ?_
  refine ww_iadd (pc := 25) X dX7_loopOf_25 ?_
  exact ww_iret (pc := 26) X dX7_loopOf_26 (Option.some.inj hF) rfl
set_option maxRecDepth 100000 in
set_option maxHeartbeats 4000000 in
theorem kX7_loopOf (l : Launch) (G : gG) {ex : gEx} (hZ : ∀ s : State, G.2.2.2 s → kC ex (gA G zC.1) s) (hG : gOK G zC.1) (hT : G.2.2.1.map (fun q => q.2) = zC.2.1) (σ : gS) (p1 : Int32) (p2 : Int32) (p3 : Int32) (p4 : Int32) (out : Int32) (hF : fX7_loopOf σ p1 p2 p3 p4 = some out) : gCi l yX7_loopOf wsX7_loopOf rmX7_loopOf G zC [.ref (G.2.1 140), .int p1, .int p2, .int p3, .int p4] σ out σ :=
  gEnter (by decide) rfl ⟨rfl, rfl⟩ hG hT (Nat.le_of_ble_eq_true rfl) rfl (fun M X hl => wX7_loopOf X hZ σ p1 p2 p3 p4 hF)
noncomputable def fX9_loop (σ : gS) (p1 : Int32) (p2 : Int32) (p3 : Int32) (p4 : Int32) : Option (Int32 × gS) :=
  bd (fX9_isAxis σ p4) fun r2 => (if r2 = 0 then some ((-1000000000), σ) else bd (fX9_areUnlike σ p1 p2) fun r5 => (if r5 = 0 then some ((-1000000000), σ) else bd (fX9_areUnlike σ p2 p3) fun r8 => (if r8 = 0 then some ((-1000000000), σ) else bd (fX9_areUnlike σ p3 p1) fun r11 => (if r11 = 0 then some ((-1000000000), σ) else bd (fX7_survey σ) fun σ14 => bd (fX7_isLoop σ14 p1 p2 p3) fun r16 => (if r16 = 0 then some ((-1000000000), σ14) else bd (fX7_loopOf σ14 p1 p2 p3 p4) fun r19 => some (r19, σ14))))))
noncomputable abbrev rmX9_loop : Room := { frames := 4, cells := 0, slots := 0, locals := 101 }
set_option maxRecDepth 100000 in
set_option maxHeartbeats 4000000 in
theorem wX9_loop {M : gM} {G : gG} {out : Int32 × gS} (X : gX M G zC cX9_loop RX9 5 wsX9_loop rmX9_loop (some .int)) {ex : gEx} (hZ : ∀ s : State, G.2.2.2 s → kC ex (gA G zC.1) s) (σ : gS) (p1 : Int32) (p2 : Int32) (p3 : Int32) (p4 : Int32) (hF : fX9_loop σ p1 p2 p3 p4 = some out) : WW M (gQi M G zC out.1 out.2) G zC 5 σ 0 [(0, .ref (G.2.1 0)), (1, .int p1), (2, .int p2), (3, .int p3), (4, .int p4)] [] := by
  unfold fX9_loop at hF
  refine ww_iload (pc := 0) X (j := 4) dX9_loop_0 rfl ?_
  obtain ⟨r2, h1, hF⟩ := bd_some hF
  refine ww_callSi (pc := 2) X (As := [.int p4]) (rest := []) dX9_loop_2 (kX9_isAxis (mL M) G hZ X.2.2.2.2.2.2.1 X.2.2.2.2.2.2.2.1 σ p4 r2 h1) rfl gX9_loop_X9_isAxis hyX9_isAxis ⟨rfl, rfl⟩ ⟨Nat.le_of_ble_eq_true rfl, Nat.le_of_ble_eq_true rfl⟩ rfl rfl (Nat.le_of_ble_eq_true rfl) ?_
  refine ww_if_ne (pc := 5) (tgt := 11) X dX9_loop_5 (by decide) hF (fun h3 hF => ?_) (fun h3 hF => ?_)
  · refine ww_aload_n (pc := 11) X (j := 0) dX9_loop_11 rfl rfl ?_
    refine ww_iload_n (pc := 12) X (j := 1) dX9_loop_12 rfl rfl ?_
    refine ww_iload_n (pc := 13) X (j := 2) dX9_loop_13 rfl rfl ?_
    obtain ⟨r5, h4, hF⟩ := bd_some hF
    refine ww_callVi (pc := 14) X (As := [.int p1, .int p2]) (rest := []) dX9_loop_14 (kX9_areUnlike (mL M) G hZ X.2.2.2.2.2.2.1 X.2.2.2.2.2.2.2.1 σ p1 p2 r5 h4) rfl shzC_0 clzC_9 gX9_loop_X9_areUnlike hyX9_areUnlike ⟨rfl, rfl⟩ ⟨Nat.le_of_ble_eq_true rfl, Nat.le_of_ble_eq_true rfl⟩ rfl rfl (Nat.le_of_ble_eq_true rfl) ?_
    refine ww_if_eq (pc := 17) (tgt := 38) X dX9_loop_17 (by decide) hF (fun h6 hF => ?_) (fun h6 hF => ?_)
    · refine ww_ldc (pc := 38) X (v := (-1000000000)) (List.mem_of_getElem? (i := 1) rfl) dX9_loop_38 ?_
      exact ww_iret (pc := 40) X dX9_loop_40 (fst_of hF) (snd_of hF)
    · refine ww_aload_n (pc := 20) X (j := 0) dX9_loop_20 rfl rfl ?_
      refine ww_iload_n (pc := 21) X (j := 2) dX9_loop_21 rfl rfl ?_
      refine ww_iload_n (pc := 22) X (j := 3) dX9_loop_22 rfl rfl ?_
      obtain ⟨r8, h7, hF⟩ := bd_some hF
      refine ww_callVi (pc := 23) X (As := [.int p2, .int p3]) (rest := []) dX9_loop_23 (kX9_areUnlike (mL M) G hZ X.2.2.2.2.2.2.1 X.2.2.2.2.2.2.2.1 σ p2 p3 r8 h7) rfl shzC_0 clzC_9 gX9_loop_X9_areUnlike hyX9_areUnlike ⟨rfl, rfl⟩ ⟨Nat.le_of_ble_eq_true rfl, Nat.le_of_ble_eq_true rfl⟩ rfl rfl (Nat.le_of_ble_eq_true rfl) ?_
      refine ww_if_eq (pc := 26) (tgt := 38) X dX9_loop_26 (by decide) hF (fun h9 hF => ?_) (fun h9 hF => ?_)
      · refine ww_ldc (pc := 38) X (v := (-1000000000)) (List.mem_of_getElem? (i := 1) rfl) dX9_loop_38 ?_
        exact ww_iret (pc := 40) X dX9_loop_40 (fst_of hF) (snd_of hF)
      · refine ww_aload_n (pc := 29) X (j := 0) dX9_loop_29 rfl rfl ?_
        refine ww_iload_n (pc := 30) X (j := 3) dX9_loop_30 rfl rfl ?_
        refine ww_iload_n (pc := 31) X (j := 1) dX9_loop_31 rfl rfl ?_
        obtain ⟨r11, h10, hF⟩ := bd_some hF
        refine ww_callVi (pc := 32) X (As := [.int p3, .int p1]) (rest := []) dX9_loop_32 (kX9_areUnlike (mL M) G hZ X.2.2.2.2.2.2.1 X.2.2.2.2.2.2.2.1 σ p3 p1 r11 h10) rfl shzC_0 clzC_9 gX9_loop_X9_areUnlike hyX9_areUnlike ⟨rfl, rfl⟩ ⟨Nat.le_of_ble_eq_true rfl, Nat.le_of_ble_eq_true rfl⟩ rfl rfl (Nat.le_of_ble_eq_true rfl) ?_
        refine ww_if_ne (pc := 35) (tgt := 41) X dX9_loop_35 (by decide) hF (fun h12 hF => ?_) (fun h12 hF => ?_)
        · refine ww_aload_n (pc := 41) X (j := 0) dX9_loop_41 rfl rfl ?_
          refine ww_get (pc := 42) X (ref := "PictureBlock") (T := TX9) (j := 12) dX9_loop_42 inX9_loop_RX9 shzC_0 clzC_9 (by decide) rfl (List.mem_of_getElem? (i := 2) rfl) rfl ?_
          obtain ⟨σ14, h13, hF⟩ := bd_some hF
          refine ww_callVv (pc := 45) X (As := []) (rest := []) dX9_loop_45 (kX7_survey (mL M) G hZ X.2.2.2.2.2.2.1 X.2.2.2.2.2.2.2.1 σ σ14 h13) rfl shzC_140 clzC_7 gX9_loop_X7_survey hyX7_survey ⟨rfl, rfl⟩ ⟨Nat.le_of_ble_eq_true rfl, Nat.le_of_ble_eq_true rfl⟩ rfl rfl (Nat.le_of_ble_eq_true rfl) ?_
          refine ww_aload_n (pc := 48) X (j := 0) dX9_loop_48 rfl rfl ?_
          refine ww_get (pc := 49) X (ref := "PictureBlock") (T := TX9) (j := 12) dX9_loop_49 inX9_loop_RX9 shzC_0 clzC_9 (by decide) rfl (List.mem_of_getElem? (i := 2) rfl) rfl ?_
          refine ww_iload_n (pc := 52) X (j := 1) dX9_loop_52 rfl rfl ?_
          refine ww_iload_n (pc := 53) X (j := 2) dX9_loop_53 rfl rfl ?_
          refine ww_iload_n (pc := 54) X (j := 3) dX9_loop_54 rfl rfl ?_
          obtain ⟨r16, h15, hF⟩ := bd_some hF
          refine ww_callVi (pc := 55) X (As := [.int p1, .int p2, .int p3]) (rest := []) dX9_loop_55 (kX7_isLoop (mL M) G hZ X.2.2.2.2.2.2.1 X.2.2.2.2.2.2.2.1 σ14 p1 p2 p3 r16 h15) rfl shzC_140 clzC_7 gX9_loop_X7_isLoop hyX7_isLoop ⟨rfl, rfl⟩ ⟨Nat.le_of_ble_eq_true rfl, Nat.le_of_ble_eq_true rfl⟩ rfl rfl (Nat.le_of_ble_eq_true rfl) ?_
          refine ww_if_ne (pc := 58) (tgt := 64) X dX9_loop_58 (by decide) hF (fun h17 hF => ?_) (fun h17 hF => ?_)
          · refine ww_aload_n (pc := 64) X (j := 0) dX9_loop_64 rfl rfl ?_
            refine ww_get (pc := 65) X (ref := "PictureBlock") (T := TX9) (j := 12) dX9_loop_65 inX9_loop_RX9 shzC_0 clzC_9 (by decide) rfl (List.mem_of_getElem? (i := 2) rfl) rfl ?_
            refine ww_iload_n (pc := 68) X (j := 1) dX9_loop_68 rfl rfl ?_
            refine ww_iload_n (pc := 69) X (j := 2) dX9_loop_69 rfl rfl ?_
            refine ww_iload_n (pc := 70) X (j := 3) dX9_loop_70 rfl rfl ?_
            refine ww_iload (pc := 71) X (j := 4) dX9_loop_71 rfl ?_
            obtain ⟨r19, h18, hF⟩ := bd_some hF
            refine ww_callVi (pc := 73) X (As := [.int p1, .int p2, .int p3, .int p4]) (rest := []) dX9_loop_73 (kX7_loopOf (mL M) G hZ X.2.2.2.2.2.2.1 X.2.2.2.2.2.2.2.1 σ14 p1 p2 p3 p4 r19 h18) rfl shzC_140 clzC_7 gX9_loop_X7_loopOf hyX7_loopOf ⟨rfl, rfl⟩ ⟨Nat.le_of_ble_eq_true rfl, Nat.le_of_ble_eq_true rfl⟩ rfl rfl (Nat.le_of_ble_eq_true rfl) ?_
            exact ww_iret (pc := 76) X dX9_loop_76 (fst_of hF) (snd_of hF)
          · refine ww_ldc (pc := 61) X (v := (-1000000000)) (List.mem_of_getElem? (i := 1) rfl) dX9_loop_61 ?_
            exact ww_iret (pc := 63) X dX9_loop_63 (fst_of hF) (snd_of hF)
        · refine ww_ldc (pc := 38) X (v := (-1000000000)) (List.mem_of_getElem? (i := 1) rfl) dX9_loop_38 ?_
          exact ww_iret (pc := 40) X dX9_loop_40 (fst_of hF) (snd_of hF)
  · refine ww_ldc (pc := 8) X (v := (-1000000000)) (List.mem_of_getElem? (i := 1) rfl) dX9_loop_8 ?_
    exact ww_iret (pc := 10) X dX9_loop_10 (fst_of hF) (snd_of hF)
set_option maxRecDepth 100000 in
set_option maxHeartbeats 4000000 in
theorem kX9_loop (l : Launch) (G : gG) {ex : gEx} (hZ : ∀ s : State, G.2.2.2 s → kC ex (gA G zC.1) s) (hG : gOK G zC.1) (hT : G.2.2.1.map (fun q => q.2) = zC.2.1) (σ : gS) (p1 : Int32) (p2 : Int32) (p3 : Int32) (p4 : Int32) (out : Int32 × gS) (hF : fX9_loop σ p1 p2 p3 p4 = some out) : gCi l yX9_loop wsX9_loop rmX9_loop G zC [.ref (G.2.1 0), .int p1, .int p2, .int p3, .int p4] σ out.1 out.2 :=
  gEnter (by decide) rfl ⟨rfl, rfl⟩ hG hT (Nat.le_of_ble_eq_true rfl) rfl (fun M X hl => wX9_loop X hZ σ p1 p2 p3 p4 hF)
noncomputable def fX7_takeGap (σ : gS) (p1 : Int32) (p2 : Int32) (p3 : Int32) : Option (gS) :=
  bd (fX7_loopOf σ p1 p2 p3 0) fun r2 => bd (fX7_loopOf σ p1 p2 p3 1) fun r4 => nm ((if 0 ≤ r2 then r2 else 0 - r2) + (if 0 ≤ r4 then r4 else 0 - r4) : Int32) fun x5 => (if (σ.1 140 12) < x5 then nm (gsI σ 140 12 x5) fun σ7 => nm (gsI σ7 140 11 (((10000 * p1) + (100 * p2)) + p3)) fun σ8 => some σ8 else some σ)
noncomputable abbrev rmX7_takeGap : Room := { frames := 2, cells := 0, slots := 0, locals := 47 }
set_option maxRecDepth 100000 in
set_option maxHeartbeats 4000000 in
theorem wX7_takeGap {M : gM} {G : gG} {out : gS} (X : gX M G zC cX7_takeGap RX7 5 wsX7_takeGap rmX7_takeGap none) {ex : gEx} (hZ : ∀ s : State, G.2.2.2 s → kC ex (gA G zC.1) s) (σ : gS) (p1 : Int32) (p2 : Int32) (p3 : Int32) (hF : fX7_takeGap σ p1 p2 p3 = some out) : WW M (gQv M G zC out) G zC 5 σ 0 [(0, .ref (G.2.1 140)), (1, .int p1), (2, .int p2), (3, .int p3)] [] := by
  unfold fX7_takeGap at hF
  refine ww_aload_n (pc := 0) X (j := 0) dX7_takeGap_0 rfl rfl ?_
  refine ww_iload_n (pc := 1) X (j := 1) dX7_takeGap_1 rfl rfl ?_
  refine ww_iload_n (pc := 2) X (j := 2) dX7_takeGap_2 rfl rfl ?_
  refine ww_iload_n (pc := 3) X (j := 3) dX7_takeGap_3 rfl rfl ?_
  refine ww_iconst (pc := 4) X (v := 0) dX7_takeGap_4 (by decide) ?_
  obtain ⟨r2, h1, hF⟩ := bd_some hF
  refine ww_callVi (pc := 5) X (As := [.int p1, .int p2, .int p3, .int 0]) (rest := []) dX7_takeGap_5 (kX7_loopOf (mL M) G hZ X.2.2.2.2.2.2.1 X.2.2.2.2.2.2.2.1 σ p1 p2 p3 0 r2 h1) rfl shzC_140 clzC_7 gX7_takeGap_X7_loopOf hyX7_loopOf ⟨rfl, rfl⟩ ⟨Nat.le_of_ble_eq_true rfl, Nat.le_of_ble_eq_true rfl⟩ rfl rfl (Nat.le_of_ble_eq_true rfl) ?_
  refine ww_mabs (pc := 8) X dX7_takeGap_8 (List.mem_of_getElem? (i := 1) rfl) (List.mem_of_getElem? (i := 2) rfl) (List.mem_of_getElem? (i := 3) rfl) (List.mem_of_getElem? (i := 4) rfl) ⟨Nat.le_of_ble_eq_true rfl, Nat.le_of_ble_eq_true rfl⟩ ?_
  refine ww_aload_n (pc := 11) X (j := 0) dX7_takeGap_11 rfl rfl ?_
  refine ww_iload_n (pc := 12) X (j := 1) dX7_takeGap_12 rfl rfl ?_
  refine ww_iload_n (pc := 13) X (j := 2) dX7_takeGap_13 rfl rfl ?_
  refine ww_iload_n (pc := 14) X (j := 3) dX7_takeGap_14 rfl rfl ?_
  refine ww_iconst (pc := 15) X (v := 1) dX7_takeGap_15 (by decide) ?_
  obtain ⟨r4, h3, hF⟩ := bd_some hF
  refine ww_callVi (pc := 16) X (As := [.int p1, .int p2, .int p3, .int 1]) (rest := [.int (if 0 ≤ r2 then r2 else 0 - r2)]) dX7_takeGap_16 (kX7_loopOf (mL M) G hZ X.2.2.2.2.2.2.1 X.2.2.2.2.2.2.2.1 σ p1 p2 p3 1 r4 h3) rfl shzC_140 clzC_7 gX7_takeGap_X7_loopOf hyX7_loopOf ⟨rfl, rfl⟩ ⟨Nat.le_of_ble_eq_true rfl, Nat.le_of_ble_eq_true rfl⟩ rfl rfl (Nat.le_of_ble_eq_true rfl) ?_
  refine ww_mabs (pc := 19) X dX7_takeGap_19 (List.mem_of_getElem? (i := 1) rfl) (List.mem_of_getElem? (i := 2) rfl) (List.mem_of_getElem? (i := 3) rfl) (List.mem_of_getElem? (i := 4) rfl) ⟨Nat.le_of_ble_eq_true rfl, Nat.le_of_ble_eq_true rfl⟩ ?_
  refine ww_iadd (pc := 22) X dX7_takeGap_22 ?_
  refine ww_istore (pc := 23) X (lv' := [(0, .ref (G.2.1 140)), (1, .int p1), (2, .int p2), (3, .int p3)]) dX7_takeGap_23 (by decide) rfl hF (fun x5 ex5 hF => ?_)
  refine ww_iload (pc := 25) X (j := 0) dX7_takeGap_25 rfl ?_
  refine ww_aload_n (pc := 27) X (j := 1) dX7_takeGap_27 rfl rfl ?_
  refine ww_get (pc := 28) X (ref := "PictureBlock$Ties") (T := TX7) (j := 12) dX7_takeGap_28 inX7_takeGap_RX7 shzC_140 clzC_7 (by decide) rfl (List.mem_of_getElem? (i := 5) rfl) rfl ?_
  refine ww_icmp_gt (pc := 31) (tgt := 35) X dX7_takeGap_31 (by decide) hF (fun h6 hF => ?_) (fun h6 hF => ?_)
  · refine ww_aload_n (pc := 35) X (j := 1) dX7_takeGap_35 rfl rfl ?_
    refine ww_iload (pc := 36) X (j := 0) dX7_takeGap_36 rfl ?_
    refine ww_putI (pc := 38) X (ref := "PictureBlock$Ties") (T := TX7) (j := 12) dX7_takeGap_38 inX7_takeGap_RX7 tyX7 tyX7_ok nmX7 shzC_140 clzC_7 (by decide) rfl (List.mem_of_getElem? (i := 5) rfl) rfl rfl (by decide +kernel) hF (fun σ7 eσ7 hF => ?_)
    refine ww_aload_n (pc := 41) X (j := 1) dX7_takeGap_41 rfl rfl ?_
    refine ww_sipush (pc := 42) X (v := 10000) dX7_takeGap_42 (by decide) ?_
    refine ww_iload_n (pc := 45) X (j := 2) dX7_takeGap_45 rfl rfl ?_
    refine ww_imul (pc := 46) X dX7_takeGap_46 ?_
    refine ww_bipush (pc := 47) X (v := 100) dX7_takeGap_47 (by decide) ?_
    refine ww_iload_n (pc := 49) X (j := 3) dX7_takeGap_49 rfl rfl ?_
    refine ww_imul (pc := 50) X dX7_takeGap_50 ?_
    refine ww_iadd (pc := 51) X dX7_takeGap_51 ?_
    refine ww_iload_n (pc := 52) X (j := 4) dX7_takeGap_52 rfl rfl ?_
    refine ww_iadd (pc := 53) X dX7_takeGap_53 ?_
    refine ww_putI (pc := 54) X (ref := "PictureBlock$Ties") (T := TX7) (j := 11) dX7_takeGap_54 inX7_takeGap_RX7 tyX7 tyX7_ok nmX7 shzC_140 clzC_7 (by decide) rfl (List.mem_of_getElem? (i := 6) rfl) rfl rfl (by decide +kernel) hF (fun σ8 eσ8 hF => ?_)
    exact ww_vret (pc := 57) X dX7_takeGap_57 (by cases hF; rfl)
  · exact ww_vret (pc := 34) X dX7_takeGap_34 (by cases hF; rfl)
set_option maxRecDepth 100000 in
set_option maxHeartbeats 4000000 in
theorem kX7_takeGap (l : Launch) (G : gG) {ex : gEx} (hZ : ∀ s : State, G.2.2.2 s → kC ex (gA G zC.1) s) (hG : gOK G zC.1) (hT : G.2.2.1.map (fun q => q.2) = zC.2.1) (σ : gS) (p1 : Int32) (p2 : Int32) (p3 : Int32) (out : gS) (hF : fX7_takeGap σ p1 p2 p3 = some out) : gCv l yX7_takeGap wsX7_takeGap rmX7_takeGap G zC [.ref (G.2.1 140), .int p1, .int p2, .int p3] σ out :=
  gEnter (by decide) rfl ⟨rfl, rfl⟩ hG hT (Nat.le_of_ble_eq_true rfl) rfl (fun M X hl => wX7_takeGap X hZ σ p1 p2 p3 hF)
noncomputable def bX7_findGap_41 (σ : gS) (c22_1 : Int32) (c31_2 : Int32) (c41_3 : Int32) (rec22 : Int32 → gS → Option (gS)) (rec31 : Int32 → gS → Option (gS)) (rec41 : Int32 → gS → Option (gS)) (a4 : Int32) (σ1 : gS) : Option (gS) :=
  if c22_1 ≤ a4 then nm (c41_3 + 1 : Int32) fun x12 => rec31 x12 σ1 else bd (fX7_isLoop σ1 c31_2 c41_3 a4) fun r14 => (if r14 = 0 then nm (a4 + 1 : Int32) fun x16 => rec41 x16 σ1 else bd (fX7_takeGap σ1 c31_2 c41_3 a4) fun σ18 => nm (a4 + 1 : Int32) fun x19 => rec41 x19 σ18)
noncomputable def bX7_findGap_31 (σ : gS) (c22_1 : Int32) (c31_2 : Int32) (rec22 : Int32 → gS → Option (gS)) (rec31 : Int32 → gS → Option (gS)) (a3 : Int32) (σ1 : gS) : Option (gS) :=
  if c22_1 ≤ a3 then nm (c31_2 + 1 : Int32) fun x9 => rec22 x9 σ1 else nm (a3 + 1 : Int32) fun x10 => lpc (S := Int32 × gS) K9 (fun rec s => bX7_findGap_41 σ1 c22_1 c31_2 a3 rec22 rec31 (fun a4 σ1 => rec (a4, σ1)) s.1 s.2) (x10, σ1)
noncomputable def bX7_findGap_22 (σ : gS) (c22_1 : Int32) (rec22 : Int32 → gS → Option (gS)) (a2 : Int32) (σ1 : gS) : Option (gS) :=
  if c22_1 ≤ a2 then some σ1 else nm (a2 + 1 : Int32) fun x7 => lpc (S := Int32 × gS) K9 (fun rec s => bX7_findGap_31 σ1 c22_1 a2 rec22 (fun a3 σ1 => rec (a3, σ1)) s.1 s.2) (x7, σ1)
noncomputable def fX7_findGap (σ : gS) : Option (gS) :=
  nm (gsI σ 140 11 ((-1))) fun σ1 => nm (gsI σ1 140 12 ((-1))) fun σ2 => gd (gb 1 6) <| nm (σ2.1 3 ((1 : Int32).toNatClampNeg)) fun v3 => nm (v3 : Int32) fun x4 => nm (0 : Int32) fun x5 => lpc (S := Int32 × gS) K9 (fun rec s => bX7_findGap_22 σ2 x4 (fun a2 σ1 => rec (a2, σ1)) s.1 s.2) (x5, σ2)
noncomputable abbrev rmX7_findGap : Room := { frames := 3, cells := 0, slots := 0, locals := 71 }
set_option maxRecDepth 100000 in
set_option maxHeartbeats 4000000 in
theorem wbX7_findGap_41 {M : gM} {G : gG} {out : gS} (X : gX M G zC cX7_findGap RX7 5 wsX7_findGap rmX7_findGap none) {ex : gEx} (hZ : ∀ s : State, G.2.2.2 s → kC ex (gA G zC.1) s) (σ : gS) (c22_1 : Int32) (c31_2 : Int32) (c41_3 : Int32) (rec22 : Int32 → gS → Option (gS)) (rec31 : Int32 → gS → Option (gS)) (ih22 : ∀ (a2 : Int32) (σ1 : gS), rec22 a2 σ1 = some out → WW M (gQv M G zC out) G zC 5 σ1 22 [(0, .ref (G.2.1 140)), (1, .int c22_1), (2, .int a2)] []) (ih31 : ∀ (a3 : Int32) (σ1 : gS), rec31 a3 σ1 = some out → WW M (gQv M G zC out) G zC 5 σ1 31 [(0, .ref (G.2.1 140)), (1, .int c22_1), (2, .int c31_2), (3, .int a3)] []) (rec41 : Int32 → gS → Option (gS)) (ih41 : ∀ (a4 : Int32) (σ1 : gS), rec41 a4 σ1 = some out → WW M (gQv M G zC out) G zC 5 σ1 41 [(0, .ref (G.2.1 140)), (1, .int c22_1), (2, .int c31_2), (3, .int c41_3), (4, .int a4)] []) (a4 : Int32) (σ1 : gS) (hF : bX7_findGap_41 σ c22_1 c31_2 c41_3 rec22 rec31 rec41 a4 σ1 = some out) : WW M (gQv M G zC out) G zC 5 σ1 41 [(0, .ref (G.2.1 140)), (1, .int c22_1), (2, .int c31_2), (3, .int c41_3), (4, .int a4)] [] := by
  unfold bX7_findGap_41 at hF
  refine ww_iload (pc := 41) X (j := 4) dX7_findGap_41 rfl ?_
  refine ww_iload_n (pc := 43) X (j := 1) dX7_findGap_43 rfl rfl ?_
  refine ww_icmp_ge (pc := 44) (tgt := 72) X dX7_findGap_44 (by decide) hF (fun h11 hF => ?_) (fun h11 hF => ?_)
  · refine ww_iinc (pc := 72) X (j := 3) (v := 1) (lv' := [(0, .ref (G.2.1 140)), (1, .int c22_1), (2, .int c31_2), (4, .int a4)]) dX7_findGap_72 rfl rfl (by decide) rfl hF (fun x12 ex12 hF => ?_)
    refine ww_goto (pc := 75) X (tgt := 31) dX7_findGap_75 (by decide) ?_
    exact ww_sub [1, 2, 3, 0] rfl (ih31 x12 σ1 hF)
  · refine ww_aload_n (pc := 47) X (j := 0) dX7_findGap_47 rfl rfl ?_
    refine ww_iload_n (pc := 48) X (j := 2) dX7_findGap_48 rfl rfl ?_
    refine ww_iload_n (pc := 49) X (j := 3) dX7_findGap_49 rfl rfl ?_
    refine ww_iload (pc := 50) X (j := 4) dX7_findGap_50 rfl ?_
    obtain ⟨r14, h13, hF⟩ := bd_some hF
    refine ww_callVi (pc := 52) X (As := [.int c31_2, .int c41_3, .int a4]) (rest := []) dX7_findGap_52 (kX7_isLoop (mL M) G hZ X.2.2.2.2.2.2.1 X.2.2.2.2.2.2.2.1 σ1 c31_2 c41_3 a4 r14 h13) rfl shzC_140 clzC_7 gX7_findGap_X7_isLoop hyX7_isLoop ⟨rfl, rfl⟩ ⟨Nat.le_of_ble_eq_true rfl, Nat.le_of_ble_eq_true rfl⟩ rfl rfl (Nat.le_of_ble_eq_true rfl) ?_
    refine ww_if_eq (pc := 55) (tgt := 66) X dX7_findGap_55 (by decide) hF (fun h15 hF => ?_) (fun h15 hF => ?_)
    · refine ww_iinc (pc := 66) X (j := 4) (v := 1) (lv' := [(0, .ref (G.2.1 140)), (1, .int c22_1), (2, .int c31_2), (3, .int c41_3)]) dX7_findGap_66 rfl rfl (by decide) rfl hF (fun x16 ex16 hF => ?_)
      refine ww_goto (pc := 69) X (tgt := 41) dX7_findGap_69 (by decide) ?_
      exact ww_sub [1, 2, 3, 4, 0] rfl (ih41 x16 σ1 hF)
    · refine ww_aload_n (pc := 58) X (j := 0) dX7_findGap_58 rfl rfl ?_
      refine ww_iload_n (pc := 59) X (j := 2) dX7_findGap_59 rfl rfl ?_
      refine ww_iload_n (pc := 60) X (j := 3) dX7_findGap_60 rfl rfl ?_
      refine ww_iload (pc := 61) X (j := 4) dX7_findGap_61 rfl ?_
      obtain ⟨σ18, h17, hF⟩ := bd_some hF
      refine ww_callVv (pc := 63) X (As := [.int c31_2, .int c41_3, .int a4]) (rest := []) dX7_findGap_63 (kX7_takeGap (mL M) G hZ X.2.2.2.2.2.2.1 X.2.2.2.2.2.2.2.1 σ1 c31_2 c41_3 a4 σ18 h17) rfl shzC_140 clzC_7 gX7_findGap_X7_takeGap hyX7_takeGap ⟨rfl, rfl⟩ ⟨Nat.le_of_ble_eq_true rfl, Nat.le_of_ble_eq_true rfl⟩ rfl rfl (Nat.le_of_ble_eq_true rfl) ?_
      refine ww_iinc (pc := 66) X (j := 4) (v := 1) (lv' := [(0, .ref (G.2.1 140)), (1, .int c22_1), (2, .int c31_2), (3, .int c41_3)]) dX7_findGap_66 rfl rfl (by decide) rfl hF (fun x19 ex19 hF => ?_)
      refine ww_goto (pc := 69) X (tgt := 41) dX7_findGap_69 (by decide) ?_
      exact ww_sub [1, 2, 3, 4, 0] rfl (ih41 x19 σ18 hF)
set_option maxRecDepth 100000 in
set_option maxHeartbeats 4000000 in
theorem wbX7_findGap_31 {M : gM} {G : gG} {out : gS} (X : gX M G zC cX7_findGap RX7 5 wsX7_findGap rmX7_findGap none) {ex : gEx} (hZ : ∀ s : State, G.2.2.2 s → kC ex (gA G zC.1) s) (σ : gS) (c22_1 : Int32) (c31_2 : Int32) (rec22 : Int32 → gS → Option (gS)) (ih22 : ∀ (a2 : Int32) (σ1 : gS), rec22 a2 σ1 = some out → WW M (gQv M G zC out) G zC 5 σ1 22 [(0, .ref (G.2.1 140)), (1, .int c22_1), (2, .int a2)] []) (rec31 : Int32 → gS → Option (gS)) (ih31 : ∀ (a3 : Int32) (σ1 : gS), rec31 a3 σ1 = some out → WW M (gQv M G zC out) G zC 5 σ1 31 [(0, .ref (G.2.1 140)), (1, .int c22_1), (2, .int c31_2), (3, .int a3)] []) (a3 : Int32) (σ1 : gS) (hF : bX7_findGap_31 σ c22_1 c31_2 rec22 rec31 a3 σ1 = some out) : WW M (gQv M G zC out) G zC 5 σ1 31 [(0, .ref (G.2.1 140)), (1, .int c22_1), (2, .int c31_2), (3, .int a3)] [] := by
  unfold bX7_findGap_31 at hF
  refine ww_iload_n (pc := 31) X (j := 3) dX7_findGap_31 rfl rfl ?_
  refine ww_iload_n (pc := 32) X (j := 1) dX7_findGap_32 rfl rfl ?_
  refine ww_icmp_ge (pc := 33) (tgt := 78) X dX7_findGap_33 (by decide) hF (fun h8 hF => ?_) (fun h8 hF => ?_)
  · refine ww_iinc (pc := 78) X (j := 2) (v := 1) (lv' := [(0, .ref (G.2.1 140)), (1, .int c22_1), (3, .int a3)]) dX7_findGap_78 rfl rfl (by decide) rfl hF (fun x9 ex9 hF => ?_)
    refine ww_goto (pc := 81) X (tgt := 22) dX7_findGap_81 (by decide) ?_
    exact ww_sub [1, 2, 0] rfl (ih22 x9 σ1 hF)
  · refine ww_iload_n (pc := 36) X (j := 3) dX7_findGap_36 rfl rfl ?_
    refine ww_iconst (pc := 37) X (v := 1) dX7_findGap_37 (by decide) ?_
    refine ww_iadd (pc := 38) X dX7_findGap_38 ?_
    refine ww_istore (pc := 39) X (lv' := [(0, .ref (G.2.1 140)), (1, .int c22_1), (2, .int c31_2), (3, .int a3)]) dX7_findGap_39 (by decide) rfl hF (fun x10 ex10 hF => ?_)
    exact ww_sub [1, 2, 3, 4, 0] rfl (lpc_ind (P := (fun (s : Int32 × gS) => WW M (gQv M G zC out) G zC 5 s.2 41 [(0, .ref (G.2.1 140)), (1, .int c22_1), (2, .int c31_2), (3, .int a3), (4, .int s.1)] [])) (fun rec s ih hF => wbX7_findGap_41 X hZ σ1 c22_1 c31_2 a3 rec22  rec31  ih22 ih31 (fun a4 σ1 => rec (a4, σ1)) (fun a4 σ1 h => ih (a4, σ1) h) s.1 s.2 hF) K9 (x10, σ1) hF)
set_option maxRecDepth 100000 in
set_option maxHeartbeats 4000000 in
theorem wbX7_findGap_22 {M : gM} {G : gG} {out : gS} (X : gX M G zC cX7_findGap RX7 5 wsX7_findGap rmX7_findGap none) {ex : gEx} (hZ : ∀ s : State, G.2.2.2 s → kC ex (gA G zC.1) s) (σ : gS) (c22_1 : Int32) (rec22 : Int32 → gS → Option (gS)) (ih22 : ∀ (a2 : Int32) (σ1 : gS), rec22 a2 σ1 = some out → WW M (gQv M G zC out) G zC 5 σ1 22 [(0, .ref (G.2.1 140)), (1, .int c22_1), (2, .int a2)] []) (a2 : Int32) (σ1 : gS) (hF : bX7_findGap_22 σ c22_1 rec22 a2 σ1 = some out) : WW M (gQv M G zC out) G zC 5 σ1 22 [(0, .ref (G.2.1 140)), (1, .int c22_1), (2, .int a2)] [] := by
  unfold bX7_findGap_22 at hF
  refine ww_iload_n (pc := 22) X (j := 2) dX7_findGap_22 rfl rfl ?_
  refine ww_iload_n (pc := 23) X (j := 1) dX7_findGap_23 rfl rfl ?_
  refine ww_icmp_ge (pc := 24) (tgt := 84) X dX7_findGap_24 (by decide) hF (fun h6 hF => ?_) (fun h6 hF => ?_)
  · exact ww_vret (pc := 84) X dX7_findGap_84 (by cases hF; rfl)
  · refine ww_iload_n (pc := 27) X (j := 2) dX7_findGap_27 rfl rfl ?_
    refine ww_iconst (pc := 28) X (v := 1) dX7_findGap_28 (by decide) ?_
    refine ww_iadd (pc := 29) X dX7_findGap_29 ?_
    refine ww_istore_n (pc := 30) X (lv' := [(0, .ref (G.2.1 140)), (1, .int c22_1), (2, .int a2)]) dX7_findGap_30 rfl (by decide) rfl hF (fun x7 ex7 hF => ?_)
    exact ww_sub [1, 2, 3, 0] rfl (lpc_ind (P := (fun (s : Int32 × gS) => WW M (gQv M G zC out) G zC 5 s.2 31 [(0, .ref (G.2.1 140)), (1, .int c22_1), (2, .int a2), (3, .int s.1)] [])) (fun rec s ih hF => wbX7_findGap_31 X hZ σ1 c22_1 a2 rec22  ih22 (fun a3 σ1 => rec (a3, σ1)) (fun a3 σ1 h => ih (a3, σ1) h) s.1 s.2 hF) K9 (x7, σ1) hF)
set_option maxRecDepth 100000 in
set_option maxHeartbeats 4000000 in
theorem wX7_findGap {M : gM} {G : gG} {out : gS} (X : gX M G zC cX7_findGap RX7 5 wsX7_findGap rmX7_findGap none) {ex : gEx} (hZ : ∀ s : State, G.2.2.2 s → kC ex (gA G zC.1) s) (σ : gS) (hF : fX7_findGap σ = some out) : WW M (gQv M G zC out) G zC 5 σ 0 [(0, .ref (G.2.1 140))] [] := by
  unfold fX7_findGap at hF
  refine ww_aload_n (pc := 0) X (j := 0) dX7_findGap_0 rfl rfl ?_
  refine ww_iconst (pc := 1) X (v := (-1)) dX7_findGap_1 (by decide) ?_
  refine ww_putI (pc := 2) X (ref := "PictureBlock$Ties") (T := TX7) (j := 11) dX7_findGap_2 inX7_findGap_RX7 tyX7 tyX7_ok nmX7 shzC_140 clzC_7 (by decide) rfl (List.mem_of_getElem? (i := 1) rfl) rfl rfl (by decide +kernel) hF (fun σ1 eσ1 hF => ?_)
  refine ww_aload_n (pc := 5) X (j := 0) dX7_findGap_5 rfl rfl ?_
  refine ww_iconst (pc := 6) X (v := (-1)) dX7_findGap_6 (by decide) ?_
  refine ww_putI (pc := 7) X (ref := "PictureBlock$Ties") (T := TX7) (j := 12) dX7_findGap_7 inX7_findGap_RX7 tyX7 tyX7_ok nmX7 shzC_140 clzC_7 (by decide) rfl (List.mem_of_getElem? (i := 2) rfl) rfl rfl (by decide +kernel) hF (fun σ2 eσ2 hF => ?_)
  refine ww_aload_n (pc := 10) X (j := 0) dX7_findGap_10 rfl rfl ?_
  refine ww_get (pc := 11) X (ref := "PictureBlock$Ties") (T := TX7) (j := 0) dX7_findGap_11 inX7_findGap_RX7 shzC_140 clzC_7 (by decide) rfl (List.mem_of_getElem? (i := 3) rfl) rfl ?_
  refine ww_get (pc := 14) X (ref := "PictureBlock$Told") (T := TX8) (j := 0) dX7_findGap_14 inX7_findGap_RX8 shzC_2 clzC_8 (by decide) rfl (List.mem_of_getElem? (i := 4) rfl) rfl ?_
  refine ww_iconst (pc := 17) X (v := 1) dX7_findGap_17 (by decide) ?_
  refine ww_iald (pc := 18) X dX7_findGap_18 shzC_3 rfl hF (fun v3 ev3 bv3 hF => ?_)
  refine ww_istore_n (pc := 19) X (lv' := [(0, .ref (G.2.1 140))]) dX7_findGap_19 rfl (by decide) rfl hF (fun x4 ex4 hF => ?_)
  refine ww_iconst (pc := 20) X (v := 0) dX7_findGap_20 (by decide) ?_
  refine ww_istore_n (pc := 21) X (lv' := [(1, .int x4), (0, .ref (G.2.1 140))]) dX7_findGap_21 rfl (by decide) rfl hF (fun x5 ex5 hF => ?_)
  exact ww_sub [2, 1, 0] rfl (lpc_ind (P := (fun (s : Int32 × gS) => WW M (gQv M G zC out) G zC 5 s.2 22 [(0, .ref (G.2.1 140)), (1, .int x4), (2, .int s.1)] [])) (fun rec s ih hF => wbX7_findGap_22 X hZ σ2 x4 (fun a2 σ1 => rec (a2, σ1)) (fun a2 σ1 h => ih (a2, σ1) h) s.1 s.2 hF) K9 (x5, σ2) hF)
set_option maxRecDepth 100000 in
set_option maxHeartbeats 4000000 in
theorem kX7_findGap (l : Launch) (G : gG) {ex : gEx} (hZ : ∀ s : State, G.2.2.2 s → kC ex (gA G zC.1) s) (hG : gOK G zC.1) (hT : G.2.2.1.map (fun q => q.2) = zC.2.1) (σ : gS) (out : gS) (hF : fX7_findGap σ = some out) : gCv l yX7_findGap wsX7_findGap rmX7_findGap G zC [.ref (G.2.1 140)] σ out :=
  gEnter (by decide) rfl ⟨rfl, rfl⟩ hG hT (Nat.le_of_ble_eq_true rfl) rfl (fun M X hl => wX7_findGap X hZ σ hF)
noncomputable def jX9_gap_11 (σ : gS) (a1 : Int32) : Option (Int32 × gS) :=
  bd (fX7_survey σ) fun σ3 => bd (fX7_findGap σ3) fun σ5 => (if a1 = 0 then some (σ5.1 140 11, σ5) else some (σ5.1 140 12, σ5))
noncomputable def fX9_gap (σ : gS) (p1 : Int32) : Option (Int32 × gS) :=
  if p1 = 0 then jX9_gap_11 σ p1 else if p1 = 1 then jX9_gap_11 σ p1 else some ((-1), σ)
noncomputable abbrev rmX9_gap : Room := { frames := 4, cells := 0, slots := 0, locals := 101 }
set_option maxRecDepth 100000 in
set_option maxHeartbeats 4000000 in
theorem wjX9_gap_11 {M : gM} {G : gG} {out : Int32 × gS} (X : gX M G zC cX9_gap RX9 2 wsX9_gap rmX9_gap (some .int)) {ex : gEx} (hZ : ∀ s : State, G.2.2.2 s → kC ex (gA G zC.1) s) (σ : gS) (a1 : Int32) (hF : jX9_gap_11 σ a1 = some out) : WW M (gQi M G zC out.1 out.2) G zC 2 σ 11 [(0, .ref (G.2.1 0)), (1, .int a1)] [] := by
  unfold jX9_gap_11 at hF
  refine ww_aload_n (pc := 11) X (j := 0) dX9_gap_11 rfl rfl ?_
  refine ww_get (pc := 12) X (ref := "PictureBlock") (T := TX9) (j := 12) dX9_gap_12 inX9_gap_RX9 shzC_0 clzC_9 (by decide) rfl (List.mem_of_getElem? (i := 1) rfl) rfl ?_
  obtain ⟨σ3, h2, hF⟩ := bd_some hF
  refine ww_callVv (pc := 15) X (As := []) (rest := []) dX9_gap_15 (kX7_survey (mL M) G hZ X.2.2.2.2.2.2.1 X.2.2.2.2.2.2.2.1 σ σ3 h2) rfl shzC_140 clzC_7 gX9_gap_X7_survey hyX7_survey ⟨rfl, rfl⟩ ⟨Nat.le_of_ble_eq_true rfl, Nat.le_of_ble_eq_true rfl⟩ rfl rfl (Nat.le_of_ble_eq_true rfl) ?_
  refine ww_aload_n (pc := 18) X (j := 0) dX9_gap_18 rfl rfl ?_
  refine ww_get (pc := 19) X (ref := "PictureBlock") (T := TX9) (j := 12) dX9_gap_19 inX9_gap_RX9 shzC_0 clzC_9 (by decide) rfl (List.mem_of_getElem? (i := 1) rfl) rfl ?_
  obtain ⟨σ5, h4, hF⟩ := bd_some hF
  refine ww_callVv (pc := 22) X (As := []) (rest := []) dX9_gap_22 (kX7_findGap (mL M) G hZ X.2.2.2.2.2.2.1 X.2.2.2.2.2.2.2.1 σ3 σ5 h4) rfl shzC_140 clzC_7 gX9_gap_X7_findGap hyX7_findGap ⟨rfl, rfl⟩ ⟨Nat.le_of_ble_eq_true rfl, Nat.le_of_ble_eq_true rfl⟩ rfl rfl (Nat.le_of_ble_eq_true rfl) ?_
  refine ww_iload_n (pc := 25) X (j := 1) dX9_gap_25 rfl rfl ?_
  refine ww_if_ne (pc := 26) (tgt := 39) X dX9_gap_26 (by decide) hF (fun h6 hF => ?_) (fun h6 hF => ?_)
  · refine ww_aload_n (pc := 39) X (j := 0) dX9_gap_39 rfl rfl ?_
    refine ww_get (pc := 40) X (ref := "PictureBlock") (T := TX9) (j := 12) dX9_gap_40 inX9_gap_RX9 shzC_0 clzC_9 (by decide) rfl (List.mem_of_getElem? (i := 1) rfl) rfl ?_
    refine ww_get (pc := 43) X (ref := "PictureBlock$Ties") (T := TX7) (j := 12) dX9_gap_43 inX9_gap_RX7 shzC_140 clzC_7 (by decide) rfl (List.mem_of_getElem? (i := 3) rfl) rfl ?_
    exact ww_iret (pc := 46) X dX9_gap_46 (fst_of hF) (snd_of hF)
  · refine ww_aload_n (pc := 29) X (j := 0) dX9_gap_29 rfl rfl ?_
    refine ww_get (pc := 30) X (ref := "PictureBlock") (T := TX9) (j := 12) dX9_gap_30 inX9_gap_RX9 shzC_0 clzC_9 (by decide) rfl (List.mem_of_getElem? (i := 1) rfl) rfl ?_
    refine ww_get (pc := 33) X (ref := "PictureBlock$Ties") (T := TX7) (j := 11) dX9_gap_33 inX9_gap_RX7 shzC_140 clzC_7 (by decide) rfl (List.mem_of_getElem? (i := 2) rfl) rfl ?_
    refine ww_goto (pc := 36) X (tgt := 46) dX9_gap_36 (by decide) ?_
    exact ww_iret (pc := 46) X dX9_gap_46 (fst_of hF) (snd_of hF)
set_option maxRecDepth 100000 in
set_option maxHeartbeats 4000000 in
theorem wX9_gap {M : gM} {G : gG} {out : Int32 × gS} (X : gX M G zC cX9_gap RX9 2 wsX9_gap rmX9_gap (some .int)) {ex : gEx} (hZ : ∀ s : State, G.2.2.2 s → kC ex (gA G zC.1) s) (σ : gS) (p1 : Int32) (hF : fX9_gap σ p1 = some out) : WW M (gQi M G zC out.1 out.2) G zC 2 σ 0 [(0, .ref (G.2.1 0)), (1, .int p1)] [] := by
  unfold fX9_gap at hF
  refine ww_iload_n (pc := 0) X (j := 1) dX9_gap_0 rfl rfl ?_
  refine ww_if_eq (pc := 1) (tgt := 11) X dX9_gap_1 (by decide) hF (fun h1 hF => ?_) (fun h1 hF => ?_)
  · exact ww_sub [0, 1] rfl (wjX9_gap_11 X hZ σ p1 hF)
  · refine ww_iload_n (pc := 4) X (j := 1) dX9_gap_4 rfl rfl ?_
    refine ww_iconst (pc := 5) X (v := 1) dX9_gap_5 (by decide) ?_
    refine ww_icmp_eq (pc := 6) (tgt := 11) X dX9_gap_6 (by decide) hF (fun h7 hF => ?_) (fun h7 hF => ?_)
    · exact ww_sub [0, 1] rfl (wjX9_gap_11 X hZ σ p1 hF)
    · refine ww_iconst (pc := 9) X (v := (-1)) dX9_gap_9 (by decide) ?_
      exact ww_iret (pc := 10) X dX9_gap_10 (fst_of hF) (snd_of hF)
set_option maxRecDepth 100000 in
set_option maxHeartbeats 4000000 in
theorem kX9_gap (l : Launch) (G : gG) {ex : gEx} (hZ : ∀ s : State, G.2.2.2 s → kC ex (gA G zC.1) s) (hG : gOK G zC.1) (hT : G.2.2.1.map (fun q => q.2) = zC.2.1) (σ : gS) (p1 : Int32) (out : Int32 × gS) (hF : fX9_gap σ p1 = some out) : gCi l yX9_gap wsX9_gap rmX9_gap G zC [.ref (G.2.1 0), .int p1] σ out.1 out.2 :=
  gEnter (by decide) rfl ⟨rfl, rfl⟩ hG hT (Nat.le_of_ble_eq_true rfl) rfl (fun M X hl => wX9_gap X hZ σ p1 hF)
noncomputable def bX7_addBranch_144 (σ : gS) (c144_2 : Int32) (c144_3 : Int32) (rec144 : Int32 → gS → Option (Int32 × gS)) (a4 : Int32) (σ1 : gS) : Option (Int32 × gS) :=
  if 12 ≤ a4 then nm (gsI σ1 140 10 ((σ1.1 140 10) + 1)) fun σ14 => some (1, σ14) else gd (gb a4 12) <| nm (σ1.1 193 a4.toNatClampNeg) fun v15 => (if v15 = c144_2 then gd (gb a4 12) <| nm (gsI σ1 193 a4.toNatClampNeg c144_3) fun σ18 => nm (a4 + 1 : Int32) fun x19 => rec144 x19 σ18 else nm (a4 + 1 : Int32) fun x17 => rec144 x17 σ1)
noncomputable def bX7_addBranch_21 (σ : gS) (c21_2 : Int32) (rec4 : Int32 → Int32 → gS → Option (Int32 × gS)) (rec21 : Int32 → Int32 → gS → Option (Int32 × gS)) (a1 : Int32) (a3 : Int32) (σ1 : gS) : Option (Int32 × gS) :=
  gd (gb 1 6) <| nm (σ1.1 3 ((1 : Int32).toNatClampNeg)) fun v21 => (if v21 ≤ a3 then nm (c21_2 + 1 : Int32) fun x23 => rec4 a1 x23 σ1 else gd (gb c21_2 12) <| nm (σ1.1 193 c21_2.toNatClampNeg) fun v24 => gd (gb a3 12) <| nm (σ1.1 193 a3.toNatClampNeg) fun v25 => (if v24 = v25 then nm (a3 + 1 : Int32) fun x27 => rec21 a1 x27 σ1 else gd (gb c21_2 12) <| gd (gb a3 12) <| nm (σ1.1 (155 + c21_2.toNatClampNeg) a3.toNatClampNeg) fun v29 => (if a1 < v29 then gd (gb c21_2 12) <| gd (gb a3 12) <| nm (σ1.1 (155 + c21_2.toNatClampNeg) a3.toNatClampNeg) fun v32 => nm (v32 : Int32) fun x33 => gd (gb (σ1.1 140 10) 12) <| nm (gsI σ1 194 (σ1.1 140 10).toNatClampNeg c21_2) fun σ34 => gd (gb (σ34.1 140 10) 12) <| nm (gsI σ34 195 (σ34.1 140 10).toNatClampNeg a3) fun σ35 => nm (a3 + 1 : Int32) fun x36 => rec21 x33 x36 σ35 else nm (a3 + 1 : Int32) fun x37 => rec21 a1 x37 σ1)))
noncomputable def bX7_addBranch_4 (σ : gS) (rec4 : Int32 → Int32 → gS → Option (Int32 × gS)) (a1 : Int32) (a2 : Int32) (σ1 : gS) : Option (Int32 × gS) :=
  gd (gb 1 6) <| nm (σ1.1 3 ((1 : Int32).toNatClampNeg)) fun v3 => (if v3 ≤ a2 then if a1 = 0 then some (0, σ1) else gd (gb (σ1.1 140 10) 12) <| nm (σ1.1 195 (σ1.1 140 10).toNatClampNeg) fun v6 => gd (gb v6 12) <| nm (σ1.1 193 v6.toNatClampNeg) fun v7 => nm (v7 : Int32) fun x8 => gd (gb (σ1.1 140 10) 12) <| nm (σ1.1 194 (σ1.1 140 10).toNatClampNeg) fun v9 => gd (gb v9 12) <| nm (σ1.1 193 v9.toNatClampNeg) fun v10 => nm (v10 : Int32) fun x11 => nm (0 : Int32) fun x12 => lpc (S := Int32 × gS) K9 (fun rec s => bX7_addBranch_144 σ1 x8 x11 (fun a4 σ1 => rec (a4, σ1)) s.1 s.2) (x12, σ1) else nm (a2 + 1 : Int32) fun x20 => lpc (S := Int32 × Int32 × gS) K9 (fun rec s => bX7_addBranch_21 σ1 a2 rec4 (fun a1 a3 σ1 => rec (a1, a3, σ1)) s.1 s.2.1 s.2.2) (a1, x20, σ1))
noncomputable def fX7_addBranch (σ : gS) : Option (Int32 × gS) :=
  nm (0 : Int32) fun x1 => nm (0 : Int32) fun x2 => lpc (S := Int32 × Int32 × gS) K9 (fun rec s => bX7_addBranch_4 σ (fun a1 a2 σ1 => rec (a1, a2, σ1)) s.1 s.2.1 s.2.2) (x1, x2, σ)
noncomputable abbrev rmX7_addBranch : Room := { frames := 0, cells := 0, slots := 0, locals := 0 }
set_option maxRecDepth 100000 in
set_option maxHeartbeats 4000000 in
theorem wbX7_addBranch_144 {M : gM} {G : gG} {out : Int32 × gS} (X : gX M G zC cX7_addBranch RX7 5 wsX7_addBranch rmX7_addBranch (some .boolean)) {ex : gEx} (hZ : ∀ s : State, G.2.2.2 s → kC ex (gA G zC.1) s) (σ : gS) (c144_2 : Int32) (c144_3 : Int32) (rec144 : Int32 → gS → Option (Int32 × gS)) (ih144 : ∀ (a4 : Int32) (σ1 : gS), rec144 a4 σ1 = some out → WW M (gQi M G zC out.1 out.2) G zC 5 σ1 144 [(0, .ref (G.2.1 140)), (2, .int c144_2), (3, .int c144_3), (4, .int a4)] []) (a4 : Int32) (σ1 : gS) (hF : bX7_addBranch_144 σ c144_2 c144_3 rec144 a4 σ1 = some out) : WW M (gQi M G zC out.1 out.2) G zC 5 σ1 144 [(0, .ref (G.2.1 140)), (2, .int c144_2), (3, .int c144_3), (4, .int a4)] [] := by
  unfold bX7_addBranch_144 at hF
  refine ww_iload (pc := 144) X (j := 3) dX7_addBranch_144 rfl ?_
  refine ww_bipush (pc := 146) X (v := 12) dX7_addBranch_146 (by decide) ?_
  refine ww_icmp_ge (pc := 148) (tgt := 176) X dX7_addBranch_148 (by decide) hF (fun h13 hF => ?_) (fun h13 hF => ?_)
  · refine ww_aload_n (pc := 176) X (j := 0) dX7_addBranch_176 rfl rfl ?_
    refine ww_dup (pc := 177) X dX7_addBranch_177 rfl ?_
    refine ww_get (pc := 178) X (ref := "PictureBlock$Ties") (T := TX7) (j := 10) dX7_addBranch_178 inX7_addBranch_RX7 shzC_140 clzC_7 (by decide) rfl (List.mem_of_getElem? (i := 6) rfl) rfl ?_
    refine ww_iconst (pc := 181) X (v := 1) dX7_addBranch_181 (by decide) ?_
    refine ww_iadd (pc := 182) X dX7_addBranch_182 ?_
    refine ww_putI (pc := 183) X (ref := "PictureBlock$Ties") (T := TX7) (j := 10) dX7_addBranch_183 inX7_addBranch_RX7 tyX7 tyX7_ok nmX7 shzC_140 clzC_7 (by decide) rfl (List.mem_of_getElem? (i := 6) rfl) rfl rfl (by decide +kernel) hF (fun σ14 eσ14 hF => ?_)
    refine ww_iconst (pc := 186) X (v := 1) dX7_addBranch_186 (by decide) ?_
    exact ww_zret (pc := 187) X dX7_addBranch_187 (by cases hF; rfl) (by cases hF; rfl)
  · refine ww_aload_n (pc := 151) X (j := 0) dX7_addBranch_151 rfl rfl ?_
    refine ww_get (pc := 152) X (ref := "PictureBlock$Ties") (T := TX7) (j := 6) dX7_addBranch_152 inX7_addBranch_RX7 shzC_140 clzC_7 (by decide) rfl (List.mem_of_getElem? (i := 3) rfl) rfl ?_
    refine ww_iload (pc := 155) X (j := 3) dX7_addBranch_155 rfl ?_
    refine ww_iald (pc := 157) X dX7_addBranch_157 shzC_193 rfl hF (fun v15 ev15 bv15 hF => ?_)
    refine ww_iload_n (pc := 158) X (j := 1) dX7_addBranch_158 rfl rfl ?_
    refine ww_icmp_ne (pc := 159) (tgt := 170) X dX7_addBranch_159 (by decide) hF (fun h16 hF => ?_) (fun h16 hF => ?_)
    · refine ww_iinc (pc := 170) X (j := 3) (v := 1) (lv' := [(0, .ref (G.2.1 140)), (2, .int c144_2), (3, .int c144_3)]) dX7_addBranch_170 rfl rfl (by decide) rfl hF (fun x17 ex17 hF => ?_)
      refine ww_goto (pc := 173) X (tgt := 144) dX7_addBranch_173 (by decide) ?_
      exact ww_sub [1, 2, 3, 0] rfl (ih144 x17 σ1 hF)
    · refine ww_aload_n (pc := 162) X (j := 0) dX7_addBranch_162 rfl rfl ?_
      refine ww_get (pc := 163) X (ref := "PictureBlock$Ties") (T := TX7) (j := 6) dX7_addBranch_163 inX7_addBranch_RX7 shzC_140 clzC_7 (by decide) rfl (List.mem_of_getElem? (i := 3) rfl) rfl ?_
      refine ww_iload (pc := 166) X (j := 3) dX7_addBranch_166 rfl ?_
      refine ww_iload_n (pc := 168) X (j := 2) dX7_addBranch_168 rfl rfl ?_
      refine ww_iast (pc := 169) X dX7_addBranch_169 shzC_193 rfl hF (fun σ18 eσ18 bσ18 hF => ?_)
      refine ww_iinc (pc := 170) X (j := 3) (v := 1) (lv' := [(0, .ref (G.2.1 140)), (2, .int c144_2), (3, .int c144_3)]) dX7_addBranch_170 rfl rfl (by decide) rfl hF (fun x19 ex19 hF => ?_)
      refine ww_goto (pc := 173) X (tgt := 144) dX7_addBranch_173 (by decide) ?_
      exact ww_sub [1, 2, 3, 0] rfl (ih144 x19 σ18 hF)
set_option maxRecDepth 100000 in
set_option maxHeartbeats 4000000 in
theorem wbX7_addBranch_21 {M : gM} {G : gG} {out : Int32 × gS} (X : gX M G zC cX7_addBranch RX7 5 wsX7_addBranch rmX7_addBranch (some .boolean)) {ex : gEx} (hZ : ∀ s : State, G.2.2.2 s → kC ex (gA G zC.1) s) (σ : gS) (c21_2 : Int32) (rec4 : Int32 → Int32 → gS → Option (Int32 × gS)) (ih4 : ∀ (a1 : Int32) (a2 : Int32) (σ1 : gS), rec4 a1 a2 σ1 = some out → WW M (gQi M G zC out.1 out.2) G zC 5 σ1 4 [(0, .ref (G.2.1 140)), (1, .int a1), (2, .int a2)] []) (rec21 : Int32 → Int32 → gS → Option (Int32 × gS)) (ih21 : ∀ (a1 : Int32) (a3 : Int32) (σ1 : gS), rec21 a1 a3 σ1 = some out → WW M (gQi M G zC out.1 out.2) G zC 5 σ1 21 [(0, .ref (G.2.1 140)), (1, .int a1), (2, .int c21_2), (3, .int a3)] []) (a1 : Int32) (a3 : Int32) (σ1 : gS) (hF : bX7_addBranch_21 σ c21_2 rec4 rec21 a1 a3 σ1 = some out) : WW M (gQi M G zC out.1 out.2) G zC 5 σ1 21 [(0, .ref (G.2.1 140)), (1, .int a1), (2, .int c21_2), (3, .int a3)] [] := by
  unfold bX7_addBranch_21 at hF
  refine ww_iload_n (pc := 21) X (j := 3) dX7_addBranch_21 rfl rfl ?_
  refine ww_aload_n (pc := 22) X (j := 0) dX7_addBranch_22 rfl rfl ?_
  refine ww_get (pc := 23) X (ref := "PictureBlock$Ties") (T := TX7) (j := 0) dX7_addBranch_23 inX7_addBranch_RX7 shzC_140 clzC_7 (by decide) rfl (List.mem_of_getElem? (i := 1) rfl) rfl ?_
  refine ww_get (pc := 26) X (ref := "PictureBlock$Told") (T := TX8) (j := 0) dX7_addBranch_26 inX7_addBranch_RX8 shzC_2 clzC_8 (by decide) rfl (List.mem_of_getElem? (i := 2) rfl) rfl ?_
  refine ww_iconst (pc := 29) X (v := 1) dX7_addBranch_29 (by decide) ?_
  refine ww_iald (pc := 30) X dX7_addBranch_30 shzC_3 rfl hF (fun v21 ev21 bv21 hF => ?_)
  refine ww_icmp_ge (pc := 31) (tgt := 99) X dX7_addBranch_31 (by decide) hF (fun h22 hF => ?_) (fun h22 hF => ?_)
  · refine ww_iinc (pc := 99) X (j := 2) (v := 1) (lv' := [(0, .ref (G.2.1 140)), (1, .int a1), (3, .int a3)]) dX7_addBranch_99 rfl rfl (by decide) rfl hF (fun x23 ex23 hF => ?_)
    refine ww_goto (pc := 102) X (tgt := 4) dX7_addBranch_102 (by decide) ?_
    exact ww_sub [1, 2, 0] rfl (ih4 a1 x23 σ1 hF)
  · refine ww_aload_n (pc := 34) X (j := 0) dX7_addBranch_34 rfl rfl ?_
    refine ww_get (pc := 35) X (ref := "PictureBlock$Ties") (T := TX7) (j := 6) dX7_addBranch_35 inX7_addBranch_RX7 shzC_140 clzC_7 (by decide) rfl (List.mem_of_getElem? (i := 3) rfl) rfl ?_
    refine ww_iload_n (pc := 38) X (j := 2) dX7_addBranch_38 rfl rfl ?_
    refine ww_iald (pc := 39) X dX7_addBranch_39 shzC_193 rfl hF (fun v24 ev24 bv24 hF => ?_)
    refine ww_aload_n (pc := 40) X (j := 0) dX7_addBranch_40 rfl rfl ?_
    refine ww_get (pc := 41) X (ref := "PictureBlock$Ties") (T := TX7) (j := 6) dX7_addBranch_41 inX7_addBranch_RX7 shzC_140 clzC_7 (by decide) rfl (List.mem_of_getElem? (i := 3) rfl) rfl ?_
    refine ww_iload_n (pc := 44) X (j := 3) dX7_addBranch_44 rfl rfl ?_
    refine ww_iald (pc := 45) X dX7_addBranch_45 shzC_193 rfl hF (fun v25 ev25 bv25 hF => ?_)
    refine ww_icmp_eq (pc := 46) (tgt := 93) X dX7_addBranch_46 (by decide) hF (fun h26 hF => ?_) (fun h26 hF => ?_)
    · refine ww_iinc (pc := 93) X (j := 3) (v := 1) (lv' := [(0, .ref (G.2.1 140)), (1, .int a1), (2, .int c21_2)]) dX7_addBranch_93 rfl rfl (by decide) rfl hF (fun x27 ex27 hF => ?_)
      refine ww_goto (pc := 96) X (tgt := 21) dX7_addBranch_96 (by decide) ?_
      exact ww_sub [1, 2, 3, 0] rfl (ih21 a1 x27 σ1 hF)
    · refine ww_aload_n (pc := 49) X (j := 0) dX7_addBranch_49 rfl rfl ?_
      refine ww_get (pc := 50) X (ref := "PictureBlock$Ties") (T := TX7) (j := 3) dX7_addBranch_50 inX7_addBranch_RX7 shzC_140 clzC_7 (by decide) rfl (List.mem_of_getElem? (i := 4) rfl) rfl ?_
      refine ww_iload_n (pc := 53) X (j := 2) dX7_addBranch_53 rfl rfl ?_
      refine ww_aald (pc := 54) X dX7_addBranch_54 shzC_154 rfl hF (fun h28 hF => ?_)
      refine ww_iload_n (pc := 55) X (j := 3) dX7_addBranch_55 rfl rfl ?_
      refine ww_iald (pc := 56) X dX7_addBranch_56 (rwzC_154 _ (gb_lt h28)) rfl hF (fun v29 ev29 bv29 hF => ?_)
      refine ww_iload_n (pc := 57) X (j := 1) dX7_addBranch_57 rfl rfl ?_
      refine ww_icmp_gt (pc := 58) (tgt := 64) X dX7_addBranch_58 (by decide) hF (fun h30 hF => ?_) (fun h30 hF => ?_)
      · refine ww_aload_n (pc := 64) X (j := 0) dX7_addBranch_64 rfl rfl ?_
        refine ww_get (pc := 65) X (ref := "PictureBlock$Ties") (T := TX7) (j := 3) dX7_addBranch_65 inX7_addBranch_RX7 shzC_140 clzC_7 (by decide) rfl (List.mem_of_getElem? (i := 4) rfl) rfl ?_
        refine ww_iload_n (pc := 68) X (j := 2) dX7_addBranch_68 rfl rfl ?_
        refine ww_aald (pc := 69) X dX7_addBranch_69 shzC_154 rfl hF (fun h31 hF => ?_)
        refine ww_iload_n (pc := 70) X (j := 3) dX7_addBranch_70 rfl rfl ?_
        refine ww_iald (pc := 71) X dX7_addBranch_71 (rwzC_154 _ (gb_lt h31)) rfl hF (fun v32 ev32 bv32 hF => ?_)
        refine ww_istore_n (pc := 72) X (lv' := [(0, .ref (G.2.1 140)), (2, .int c21_2), (3, .int a3)]) dX7_addBranch_72 rfl (by decide) rfl hF (fun x33 ex33 hF => ?_)
        refine ww_aload_n (pc := 73) X (j := 1) dX7_addBranch_73 rfl rfl ?_
        refine ww_get (pc := 74) X (ref := "PictureBlock$Ties") (T := TX7) (j := 7) dX7_addBranch_74 inX7_addBranch_RX7 shzC_140 clzC_7 (by decide) rfl (List.mem_of_getElem? (i := 5) rfl) rfl ?_
        refine ww_aload_n (pc := 77) X (j := 1) dX7_addBranch_77 rfl rfl ?_
        refine ww_get (pc := 78) X (ref := "PictureBlock$Ties") (T := TX7) (j := 10) dX7_addBranch_78 inX7_addBranch_RX7 shzC_140 clzC_7 (by decide) rfl (List.mem_of_getElem? (i := 6) rfl) rfl ?_
        refine ww_iload_n (pc := 81) X (j := 2) dX7_addBranch_81 rfl rfl ?_
        refine ww_iast (pc := 82) X dX7_addBranch_82 shzC_194 rfl hF (fun σ34 eσ34 bσ34 hF => ?_)
        refine ww_aload_n (pc := 83) X (j := 1) dX7_addBranch_83 rfl rfl ?_
        refine ww_get (pc := 84) X (ref := "PictureBlock$Ties") (T := TX7) (j := 8) dX7_addBranch_84 inX7_addBranch_RX7 shzC_140 clzC_7 (by decide) rfl (List.mem_of_getElem? (i := 7) rfl) rfl ?_
        refine ww_aload_n (pc := 87) X (j := 1) dX7_addBranch_87 rfl rfl ?_
        refine ww_get (pc := 88) X (ref := "PictureBlock$Ties") (T := TX7) (j := 10) dX7_addBranch_88 inX7_addBranch_RX7 shzC_140 clzC_7 (by decide) rfl (List.mem_of_getElem? (i := 6) rfl) rfl ?_
        refine ww_iload_n (pc := 91) X (j := 3) dX7_addBranch_91 rfl rfl ?_
        refine ww_iast (pc := 92) X dX7_addBranch_92 shzC_195 rfl hF (fun σ35 eσ35 bσ35 hF => ?_)
        refine ww_iinc (pc := 93) X (j := 3) (v := 1) (lv' := [(1, .int x33), (0, .ref (G.2.1 140)), (2, .int c21_2)]) dX7_addBranch_93 rfl rfl (by decide) rfl hF (fun x36 ex36 hF => ?_)
        refine ww_goto (pc := 96) X (tgt := 21) dX7_addBranch_96 (by decide) ?_
        exact ww_sub [2, 1, 3, 0] rfl (ih21 x33 x36 σ35 hF)
      · refine ww_goto (pc := 61) X (tgt := 93) dX7_addBranch_61 (by decide) ?_
        refine ww_iinc (pc := 93) X (j := 3) (v := 1) (lv' := [(0, .ref (G.2.1 140)), (1, .int a1), (2, .int c21_2)]) dX7_addBranch_93 rfl rfl (by decide) rfl hF (fun x37 ex37 hF => ?_)
        refine ww_goto (pc := 96) X (tgt := 21) dX7_addBranch_96 (by decide) ?_
        exact ww_sub [1, 2, 3, 0] rfl (ih21 a1 x37 σ1 hF)
set_option maxRecDepth 100000 in
set_option maxHeartbeats 4000000 in
theorem wbX7_addBranch_4 {M : gM} {G : gG} {out : Int32 × gS} (X : gX M G zC cX7_addBranch RX7 5 wsX7_addBranch rmX7_addBranch (some .boolean)) {ex : gEx} (hZ : ∀ s : State, G.2.2.2 s → kC ex (gA G zC.1) s) (σ : gS) (rec4 : Int32 → Int32 → gS → Option (Int32 × gS)) (ih4 : ∀ (a1 : Int32) (a2 : Int32) (σ1 : gS), rec4 a1 a2 σ1 = some out → WW M (gQi M G zC out.1 out.2) G zC 5 σ1 4 [(0, .ref (G.2.1 140)), (1, .int a1), (2, .int a2)] []) (a1 : Int32) (a2 : Int32) (σ1 : gS) (hF : bX7_addBranch_4 σ rec4 a1 a2 σ1 = some out) : WW M (gQi M G zC out.1 out.2) G zC 5 σ1 4 [(0, .ref (G.2.1 140)), (1, .int a1), (2, .int a2)] [] := by
  unfold bX7_addBranch_4 at hF
  refine ww_iload_n (pc := 4) X (j := 2) dX7_addBranch_4 rfl rfl ?_
  refine ww_aload_n (pc := 5) X (j := 0) dX7_addBranch_5 rfl rfl ?_
  refine ww_get (pc := 6) X (ref := "PictureBlock$Ties") (T := TX7) (j := 0) dX7_addBranch_6 inX7_addBranch_RX7 shzC_140 clzC_7 (by decide) rfl (List.mem_of_getElem? (i := 1) rfl) rfl ?_
  refine ww_get (pc := 9) X (ref := "PictureBlock$Told") (T := TX8) (j := 0) dX7_addBranch_9 inX7_addBranch_RX8 shzC_2 clzC_8 (by decide) rfl (List.mem_of_getElem? (i := 2) rfl) rfl ?_
  refine ww_iconst (pc := 12) X (v := 1) dX7_addBranch_12 (by decide) ?_
  refine ww_iald (pc := 13) X dX7_addBranch_13 shzC_3 rfl hF (fun v3 ev3 bv3 hF => ?_)
  refine ww_icmp_ge (pc := 14) (tgt := 105) X dX7_addBranch_14 (by decide) hF (fun h4 hF => ?_) (fun h4 hF => ?_)
  · refine ww_iload_n (pc := 105) X (j := 1) dX7_addBranch_105 rfl rfl ?_
    refine ww_if_ne (pc := 106) (tgt := 111) X dX7_addBranch_106 (by decide) hF (fun h5 hF => ?_) (fun h5 hF => ?_)
    · refine ww_aload_n (pc := 111) X (j := 0) dX7_addBranch_111 rfl rfl ?_
      refine ww_get (pc := 112) X (ref := "PictureBlock$Ties") (T := TX7) (j := 6) dX7_addBranch_112 inX7_addBranch_RX7 shzC_140 clzC_7 (by decide) rfl (List.mem_of_getElem? (i := 3) rfl) rfl ?_
      refine ww_aload_n (pc := 115) X (j := 0) dX7_addBranch_115 rfl rfl ?_
      refine ww_get (pc := 116) X (ref := "PictureBlock$Ties") (T := TX7) (j := 8) dX7_addBranch_116 inX7_addBranch_RX7 shzC_140 clzC_7 (by decide) rfl (List.mem_of_getElem? (i := 7) rfl) rfl ?_
      refine ww_aload_n (pc := 119) X (j := 0) dX7_addBranch_119 rfl rfl ?_
      refine ww_get (pc := 120) X (ref := "PictureBlock$Ties") (T := TX7) (j := 10) dX7_addBranch_120 inX7_addBranch_RX7 shzC_140 clzC_7 (by decide) rfl (List.mem_of_getElem? (i := 6) rfl) rfl ?_
      refine ww_iald (pc := 123) X dX7_addBranch_123 shzC_195 rfl hF (fun v6 ev6 bv6 hF => ?_)
      refine ww_iald (pc := 124) X dX7_addBranch_124 shzC_193 rfl hF (fun v7 ev7 bv7 hF => ?_)
      refine ww_istore_n (pc := 125) X (lv' := [(0, .ref (G.2.1 140)), (1, .int a1)]) dX7_addBranch_125 rfl (by decide) rfl hF (fun x8 ex8 hF => ?_)
      refine ww_aload_n (pc := 126) X (j := 1) dX7_addBranch_126 rfl rfl ?_
      refine ww_get (pc := 127) X (ref := "PictureBlock$Ties") (T := TX7) (j := 6) dX7_addBranch_127 inX7_addBranch_RX7 shzC_140 clzC_7 (by decide) rfl (List.mem_of_getElem? (i := 3) rfl) rfl ?_
      refine ww_aload_n (pc := 130) X (j := 1) dX7_addBranch_130 rfl rfl ?_
      refine ww_get (pc := 131) X (ref := "PictureBlock$Ties") (T := TX7) (j := 7) dX7_addBranch_131 inX7_addBranch_RX7 shzC_140 clzC_7 (by decide) rfl (List.mem_of_getElem? (i := 5) rfl) rfl ?_
      refine ww_aload_n (pc := 134) X (j := 1) dX7_addBranch_134 rfl rfl ?_
      refine ww_get (pc := 135) X (ref := "PictureBlock$Ties") (T := TX7) (j := 10) dX7_addBranch_135 inX7_addBranch_RX7 shzC_140 clzC_7 (by decide) rfl (List.mem_of_getElem? (i := 6) rfl) rfl ?_
      refine ww_iald (pc := 138) X dX7_addBranch_138 shzC_194 rfl hF (fun v9 ev9 bv9 hF => ?_)
      refine ww_iald (pc := 139) X dX7_addBranch_139 shzC_193 rfl hF (fun v10 ev10 bv10 hF => ?_)
      refine ww_istore_n (pc := 140) X (lv' := [(2, .int x8), (0, .ref (G.2.1 140)), (1, .int a1)]) dX7_addBranch_140 rfl (by decide) rfl hF (fun x11 ex11 hF => ?_)
      refine ww_iconst (pc := 141) X (v := 0) dX7_addBranch_141 (by decide) ?_
      refine ww_istore (pc := 142) X (lv' := [(3, .int x11), (2, .int x8), (0, .ref (G.2.1 140)), (1, .int a1)]) dX7_addBranch_142 (by decide) rfl hF (fun x12 ex12 hF => ?_)
      exact ww_sub [3, 2, 1, 0] rfl (lpc_ind (P := (fun (s : Int32 × gS) => WW M (gQi M G zC out.1 out.2) G zC 5 s.2 144 [(0, .ref (G.2.1 140)), (2, .int x8), (3, .int x11), (4, .int s.1)] [])) (fun rec s ih hF => wbX7_addBranch_144 X hZ σ1 x8 x11 (fun a4 σ1 => rec (a4, σ1)) (fun a4 σ1 h => ih (a4, σ1) h) s.1 s.2 hF) K9 (x12, σ1) hF)
    · refine ww_iconst (pc := 109) X (v := 0) dX7_addBranch_109 (by decide) ?_
      exact ww_zret (pc := 110) X dX7_addBranch_110 (by cases hF; rfl) (by cases hF; rfl)
  · refine ww_iload_n (pc := 17) X (j := 2) dX7_addBranch_17 rfl rfl ?_
    refine ww_iconst (pc := 18) X (v := 1) dX7_addBranch_18 (by decide) ?_
    refine ww_iadd (pc := 19) X dX7_addBranch_19 ?_
    refine ww_istore_n (pc := 20) X (lv' := [(0, .ref (G.2.1 140)), (1, .int a1), (2, .int a2)]) dX7_addBranch_20 rfl (by decide) rfl hF (fun x20 ex20 hF => ?_)
    exact ww_sub [1, 2, 3, 0] rfl (lpc_ind (P := (fun (s : Int32 × Int32 × gS) => WW M (gQi M G zC out.1 out.2) G zC 5 s.2.2 21 [(0, .ref (G.2.1 140)), (1, .int s.1), (2, .int a2), (3, .int s.2.1)] [])) (fun rec s ih hF => wbX7_addBranch_21 X hZ σ1 a2 rec4  ih4 (fun a1 a3 σ1 => rec (a1, a3, σ1)) (fun a1 a3 σ1 h => ih (a1, a3, σ1) h) s.1 s.2.1 s.2.2 hF) K9 (a1, x20, σ1) hF)
set_option maxRecDepth 100000 in
set_option maxHeartbeats 4000000 in
theorem wX7_addBranch {M : gM} {G : gG} {out : Int32 × gS} (X : gX M G zC cX7_addBranch RX7 5 wsX7_addBranch rmX7_addBranch (some .boolean)) {ex : gEx} (hZ : ∀ s : State, G.2.2.2 s → kC ex (gA G zC.1) s) (σ : gS) (hF : fX7_addBranch σ = some out) : WW M (gQi M G zC out.1 out.2) G zC 5 σ 0 [(0, .ref (G.2.1 140))] [] := by
  unfold fX7_addBranch at hF
  refine ww_iconst (pc := 0) X (v := 0) dX7_addBranch_0 (by decide) ?_
  refine ww_istore_n (pc := 1) X (lv' := [(0, .ref (G.2.1 140))]) dX7_addBranch_1 rfl (by decide) rfl hF (fun x1 ex1 hF => ?_)
  refine ww_iconst (pc := 2) X (v := 0) dX7_addBranch_2 (by decide) ?_
  refine ww_istore_n (pc := 3) X (lv' := [(1, .int x1), (0, .ref (G.2.1 140))]) dX7_addBranch_3 rfl (by decide) rfl hF (fun x2 ex2 hF => ?_)
  exact ww_sub [2, 1, 0] rfl (lpc_ind (P := (fun (s : Int32 × Int32 × gS) => WW M (gQi M G zC out.1 out.2) G zC 5 s.2.2 4 [(0, .ref (G.2.1 140)), (1, .int s.1), (2, .int s.2.1)] [])) (fun rec s ih hF => wbX7_addBranch_4 X hZ σ (fun a1 a2 σ1 => rec (a1, a2, σ1)) (fun a1 a2 σ1 h => ih (a1, a2, σ1) h) s.1 s.2.1 s.2.2 hF) K9 (x1, x2, σ) hF)
set_option maxRecDepth 100000 in
set_option maxHeartbeats 4000000 in
theorem kX7_addBranch (l : Launch) (G : gG) {ex : gEx} (hZ : ∀ s : State, G.2.2.2 s → kC ex (gA G zC.1) s) (hG : gOK G zC.1) (hT : G.2.2.1.map (fun q => q.2) = zC.2.1) (σ : gS) (out : Int32 × gS) (hF : fX7_addBranch σ = some out) : gCi l yX7_addBranch wsX7_addBranch rmX7_addBranch G zC [.ref (G.2.1 140)] σ out.1 out.2 :=
  gEnter (by decide) rfl ⟨rfl, rfl⟩ hG hT (Nat.le_of_ble_eq_true rfl) rfl (fun M X hl => wX7_addBranch X hZ σ hF)
noncomputable def bX7_growTree_28 (σ : gS) (rec28 : Int32 → gS → Option (gS)) (a1 : Int32) (σ1 : gS) : Option (gS) :=
  gd (gb 1 6) <| nm (σ1.1 3 ((1 : Int32).toNatClampNeg)) fun v5 => (if v5 ≤ a1 then some σ1 else bd2 (fX7_addBranch σ1) fun r8 σ9 => (if r8 = 0 then some σ9 else nm (a1 + 1 : Int32) fun x11 => rec28 x11 σ9))
noncomputable def bX7_growTree_7 (σ : gS) (rec7 : Int32 → gS → Option (gS)) (a1 : Int32) (σ1 : gS) : Option (gS) :=
  if 12 ≤ a1 then nm (1 : Int32) fun x4 => lpc (S := Int32 × gS) K9 (fun rec s => bX7_growTree_28 σ1 (fun a1 σ1 => rec (a1, σ1)) s.1 s.2) (x4, σ1) else gd (gb a1 12) <| nm (gsI σ1 193 a1.toNatClampNeg a1) fun σ12 => nm (a1 + 1 : Int32) fun x13 => rec7 x13 σ12
noncomputable def fX7_growTree (σ : gS) : Option (gS) :=
  nm (gsI σ 140 10 0) fun σ1 => nm (0 : Int32) fun x2 => lpc (S := Int32 × gS) K9 (fun rec s => bX7_growTree_7 σ1 (fun a1 σ1 => rec (a1, σ1)) s.1 s.2) (x2, σ1)
noncomputable abbrev rmX7_growTree : Room := { frames := 1, cells := 0, slots := 0, locals := 24 }
set_option maxRecDepth 100000 in
set_option maxHeartbeats 4000000 in
theorem wbX7_growTree_28 {M : gM} {G : gG} {out : gS} (X : gX M G zC cX7_growTree RX7 2 wsX7_growTree rmX7_growTree none) {ex : gEx} (hZ : ∀ s : State, G.2.2.2 s → kC ex (gA G zC.1) s) (σ : gS) (rec28 : Int32 → gS → Option (gS)) (ih28 : ∀ (a1 : Int32) (σ1 : gS), rec28 a1 σ1 = some out → WW M (gQv M G zC out) G zC 2 σ1 28 [(0, .ref (G.2.1 140)), (1, .int a1)] []) (a1 : Int32) (σ1 : gS) (hF : bX7_growTree_28 σ rec28 a1 σ1 = some out) : WW M (gQv M G zC out) G zC 2 σ1 28 [(0, .ref (G.2.1 140)), (1, .int a1)] [] := by
  unfold bX7_growTree_28 at hF
  refine ww_iload_n (pc := 28) X (j := 1) dX7_growTree_28 rfl rfl ?_
  refine ww_aload_n (pc := 29) X (j := 0) dX7_growTree_29 rfl rfl ?_
  refine ww_get (pc := 30) X (ref := "PictureBlock$Ties") (T := TX7) (j := 0) dX7_growTree_30 inX7_growTree_RX7 shzC_140 clzC_7 (by decide) rfl (List.mem_of_getElem? (i := 3) rfl) rfl ?_
  refine ww_get (pc := 33) X (ref := "PictureBlock$Told") (T := TX8) (j := 0) dX7_growTree_33 inX7_growTree_RX8 shzC_2 clzC_8 (by decide) rfl (List.mem_of_getElem? (i := 4) rfl) rfl ?_
  refine ww_iconst (pc := 36) X (v := 1) dX7_growTree_36 (by decide) ?_
  refine ww_iald (pc := 37) X dX7_growTree_37 shzC_3 rfl hF (fun v5 ev5 bv5 hF => ?_)
  refine ww_icmp_ge (pc := 38) (tgt := 55) X dX7_growTree_38 (by decide) hF (fun h6 hF => ?_) (fun h6 hF => ?_)
  · exact ww_vret (pc := 55) X dX7_growTree_55 (by cases hF; rfl)
  · refine ww_aload_n (pc := 41) X (j := 0) dX7_growTree_41 rfl rfl ?_
    obtain ⟨r8, σ9, h7, hF⟩ := bd2_some hF
    refine ww_callVi (pc := 42) X (As := []) (rest := []) dX7_growTree_42 (kX7_addBranch (mL M) G hZ X.2.2.2.2.2.2.1 X.2.2.2.2.2.2.2.1 σ1 (r8, σ9) h7) rfl shzC_140 clzC_7 gX7_growTree_X7_addBranch hyX7_addBranch ⟨rfl, rfl⟩ ⟨Nat.le_of_ble_eq_true rfl, Nat.le_of_ble_eq_true rfl⟩ rfl rfl (Nat.le_of_ble_eq_true rfl) ?_
    refine ww_if_ne (pc := 45) (tgt := 49) X dX7_growTree_45 (by decide) hF (fun h10 hF => ?_) (fun h10 hF => ?_)
    · refine ww_iinc (pc := 49) X (j := 1) (v := 1) (lv' := [(0, .ref (G.2.1 140))]) dX7_growTree_49 rfl rfl (by decide) rfl hF (fun x11 ex11 hF => ?_)
      refine ww_goto (pc := 52) X (tgt := 28) dX7_growTree_52 (by decide) ?_
      exact ww_sub [1, 0] rfl (ih28 x11 σ9 hF)
    · exact ww_vret (pc := 48) X dX7_growTree_48 (by cases hF; rfl)
set_option maxRecDepth 100000 in
set_option maxHeartbeats 4000000 in
theorem wbX7_growTree_7 {M : gM} {G : gG} {out : gS} (X : gX M G zC cX7_growTree RX7 2 wsX7_growTree rmX7_growTree none) {ex : gEx} (hZ : ∀ s : State, G.2.2.2 s → kC ex (gA G zC.1) s) (σ : gS) (rec7 : Int32 → gS → Option (gS)) (ih7 : ∀ (a1 : Int32) (σ1 : gS), rec7 a1 σ1 = some out → WW M (gQv M G zC out) G zC 2 σ1 7 [(0, .ref (G.2.1 140)), (1, .int a1)] []) (a1 : Int32) (σ1 : gS) (hF : bX7_growTree_7 σ rec7 a1 σ1 = some out) : WW M (gQv M G zC out) G zC 2 σ1 7 [(0, .ref (G.2.1 140)), (1, .int a1)] [] := by
  unfold bX7_growTree_7 at hF
  refine ww_iload_n (pc := 7) X (j := 1) dX7_growTree_7 rfl rfl ?_
  refine ww_bipush (pc := 8) X (v := 12) dX7_growTree_8 (by decide) ?_
  refine ww_icmp_ge (pc := 10) (tgt := 26) X dX7_growTree_10 (by decide) hF (fun h3 hF => ?_) (fun h3 hF => ?_)
  · refine ww_iconst (pc := 26) X (v := 1) dX7_growTree_26 (by decide) ?_
    refine ww_istore_n (pc := 27) X (lv' := [(0, .ref (G.2.1 140))]) dX7_growTree_27 rfl (by decide) rfl hF (fun x4 ex4 hF => ?_)
    exact ww_sub [1, 0] rfl (lpc_ind (P := (fun (s : Int32 × gS) => WW M (gQv M G zC out) G zC 2 s.2 28 [(0, .ref (G.2.1 140)), (1, .int s.1)] [])) (fun rec s ih hF => wbX7_growTree_28 X hZ σ1 (fun a1 σ1 => rec (a1, σ1)) (fun a1 σ1 h => ih (a1, σ1) h) s.1 s.2 hF) K9 (x4, σ1) hF)
  · refine ww_aload_n (pc := 13) X (j := 0) dX7_growTree_13 rfl rfl ?_
    refine ww_get (pc := 14) X (ref := "PictureBlock$Ties") (T := TX7) (j := 6) dX7_growTree_14 inX7_growTree_RX7 shzC_140 clzC_7 (by decide) rfl (List.mem_of_getElem? (i := 2) rfl) rfl ?_
    refine ww_iload_n (pc := 17) X (j := 1) dX7_growTree_17 rfl rfl ?_
    refine ww_iload_n (pc := 18) X (j := 1) dX7_growTree_18 rfl rfl ?_
    refine ww_iast (pc := 19) X dX7_growTree_19 shzC_193 rfl hF (fun σ12 eσ12 bσ12 hF => ?_)
    refine ww_iinc (pc := 20) X (j := 1) (v := 1) (lv' := [(0, .ref (G.2.1 140))]) dX7_growTree_20 rfl rfl (by decide) rfl hF (fun x13 ex13 hF => ?_)
    refine ww_goto (pc := 23) X (tgt := 7) dX7_growTree_23 (by decide) ?_
    exact ww_sub [1, 0] rfl (ih7 x13 σ12 hF)
set_option maxRecDepth 100000 in
set_option maxHeartbeats 4000000 in
theorem wX7_growTree {M : gM} {G : gG} {out : gS} (X : gX M G zC cX7_growTree RX7 2 wsX7_growTree rmX7_growTree none) {ex : gEx} (hZ : ∀ s : State, G.2.2.2 s → kC ex (gA G zC.1) s) (σ : gS) (hF : fX7_growTree σ = some out) : WW M (gQv M G zC out) G zC 2 σ 0 [(0, .ref (G.2.1 140))] [] := by
  unfold fX7_growTree at hF
  refine ww_aload_n (pc := 0) X (j := 0) dX7_growTree_0 rfl rfl ?_
  refine ww_iconst (pc := 1) X (v := 0) dX7_growTree_1 (by decide) ?_
  refine ww_putI (pc := 2) X (ref := "PictureBlock$Ties") (T := TX7) (j := 10) dX7_growTree_2 inX7_growTree_RX7 tyX7 tyX7_ok nmX7 shzC_140 clzC_7 (by decide) rfl (List.mem_of_getElem? (i := 1) rfl) rfl rfl (by decide +kernel) hF (fun σ1 eσ1 hF => ?_)
  refine ww_iconst (pc := 5) X (v := 0) dX7_growTree_5 (by decide) ?_
  refine ww_istore_n (pc := 6) X (lv' := [(0, .ref (G.2.1 140))]) dX7_growTree_6 rfl (by decide) rfl hF (fun x2 ex2 hF => ?_)
  exact ww_sub [1, 0] rfl (lpc_ind (P := (fun (s : Int32 × gS) => WW M (gQv M G zC out) G zC 2 s.2 7 [(0, .ref (G.2.1 140)), (1, .int s.1)] [])) (fun rec s ih hF => wbX7_growTree_7 X hZ σ1 (fun a1 σ1 => rec (a1, σ1)) (fun a1 σ1 h => ih (a1, σ1) h) s.1 s.2 hF) K9 (x2, σ1) hF)
set_option maxRecDepth 100000 in
set_option maxHeartbeats 4000000 in
theorem kX7_growTree (l : Launch) (G : gG) {ex : gEx} (hZ : ∀ s : State, G.2.2.2 s → kC ex (gA G zC.1) s) (hG : gOK G zC.1) (hT : G.2.2.1.map (fun q => q.2) = zC.2.1) (σ : gS) (out : gS) (hF : fX7_growTree σ = some out) : gCv l yX7_growTree wsX7_growTree rmX7_growTree G zC [.ref (G.2.1 140)] σ out :=
  gEnter (by decide) rfl ⟨rfl, rfl⟩ hG hT (Nat.le_of_ble_eq_true rfl) rfl (fun M X hl => wX7_growTree X hZ σ hF)
noncomputable def fX9_tree (σ : gS) (p1 : Int32) : Option (Int32 × gS) :=
  bd (fX7_survey σ) fun σ2 => bd (fX7_growTree σ2) fun σ4 => (if p1 = ((-1)) then some (σ4.1 140 10, σ4) else if p1 < 0 then some ((-1), σ4) else if p1 < (σ4.1 140 10) then gd (gb p1 12) <| nm (σ4.1 194 p1.toNatClampNeg) fun v8 => gd (gb p1 12) <| nm (σ4.1 195 p1.toNatClampNeg) fun v9 => some ((100 * v8) + v9, σ4) else some ((-1), σ4))
noncomputable abbrev rmX9_tree : Room := { frames := 4, cells := 0, slots := 0, locals := 101 }
set_option maxRecDepth 100000 in
set_option maxHeartbeats 4000000 in
theorem wX9_tree {M : gM} {G : gG} {out : Int32 × gS} (X : gX M G zC cX9_tree RX9 2 wsX9_tree rmX9_tree (some .int)) {ex : gEx} (hZ : ∀ s : State, G.2.2.2 s → kC ex (gA G zC.1) s) (σ : gS) (p1 : Int32) (hF : fX9_tree σ p1 = some out) : WW M (gQi M G zC out.1 out.2) G zC 2 σ 0 [(0, .ref (G.2.1 0)), (1, .int p1)] [] := by
  unfold fX9_tree at hF
  refine ww_aload_n (pc := 0) X (j := 0) dX9_tree_0 rfl rfl ?_
  refine ww_get (pc := 1) X (ref := "PictureBlock") (T := TX9) (j := 12) dX9_tree_1 inX9_tree_RX9 shzC_0 clzC_9 (by decide) rfl (List.mem_of_getElem? (i := 1) rfl) rfl ?_
  obtain ⟨σ2, h1, hF⟩ := bd_some hF
  refine ww_callVv (pc := 4) X (As := []) (rest := []) dX9_tree_4 (kX7_survey (mL M) G hZ X.2.2.2.2.2.2.1 X.2.2.2.2.2.2.2.1 σ σ2 h1) rfl shzC_140 clzC_7 gX9_tree_X7_survey hyX7_survey ⟨rfl, rfl⟩ ⟨Nat.le_of_ble_eq_true rfl, Nat.le_of_ble_eq_true rfl⟩ rfl rfl (Nat.le_of_ble_eq_true rfl) ?_
  refine ww_aload_n (pc := 7) X (j := 0) dX9_tree_7 rfl rfl ?_
  refine ww_get (pc := 8) X (ref := "PictureBlock") (T := TX9) (j := 12) dX9_tree_8 inX9_tree_RX9 shzC_0 clzC_9 (by decide) rfl (List.mem_of_getElem? (i := 1) rfl) rfl ?_
  obtain ⟨σ4, h3, hF⟩ := bd_some hF
  refine ww_callVv (pc := 11) X (As := []) (rest := []) dX9_tree_11 (kX7_growTree (mL M) G hZ X.2.2.2.2.2.2.1 X.2.2.2.2.2.2.2.1 σ2 σ4 h3) rfl shzC_140 clzC_7 gX9_tree_X7_growTree hyX7_growTree ⟨rfl, rfl⟩ ⟨Nat.le_of_ble_eq_true rfl, Nat.le_of_ble_eq_true rfl⟩ rfl rfl (Nat.le_of_ble_eq_true rfl) ?_
  refine ww_iload_n (pc := 14) X (j := 1) dX9_tree_14 rfl rfl ?_
  refine ww_iconst (pc := 15) X (v := (-1)) dX9_tree_15 (by decide) ?_
  refine ww_icmp_ne (pc := 16) (tgt := 27) X dX9_tree_16 (by decide) hF (fun h5 hF => ?_) (fun h5 hF => ?_)
  · refine ww_iload_n (pc := 27) X (j := 1) dX9_tree_27 rfl rfl ?_
    refine ww_if_lt (pc := 28) (tgt := 42) X dX9_tree_28 (by decide) hF (fun h6 hF => ?_) (fun h6 hF => ?_)
    · refine ww_iconst (pc := 42) X (v := (-1)) dX9_tree_42 (by decide) ?_
      exact ww_iret (pc := 43) X dX9_tree_43 (fst_of hF) (snd_of hF)
    · refine ww_iload_n (pc := 31) X (j := 1) dX9_tree_31 rfl rfl ?_
      refine ww_aload_n (pc := 32) X (j := 0) dX9_tree_32 rfl rfl ?_
      refine ww_get (pc := 33) X (ref := "PictureBlock") (T := TX9) (j := 12) dX9_tree_33 inX9_tree_RX9 shzC_0 clzC_9 (by decide) rfl (List.mem_of_getElem? (i := 1) rfl) rfl ?_
      refine ww_get (pc := 36) X (ref := "PictureBlock$Ties") (T := TX7) (j := 10) dX9_tree_36 inX9_tree_RX7 shzC_140 clzC_7 (by decide) rfl (List.mem_of_getElem? (i := 2) rfl) rfl ?_
      refine ww_icmp_lt (pc := 39) (tgt := 44) X dX9_tree_39 (by decide) hF (fun h7 hF => ?_) (fun h7 hF => ?_)
      · refine ww_bipush (pc := 44) X (v := 100) dX9_tree_44 (by decide) ?_
        refine ww_aload_n (pc := 46) X (j := 0) dX9_tree_46 rfl rfl ?_
        refine ww_get (pc := 47) X (ref := "PictureBlock") (T := TX9) (j := 12) dX9_tree_47 inX9_tree_RX9 shzC_0 clzC_9 (by decide) rfl (List.mem_of_getElem? (i := 1) rfl) rfl ?_
        refine ww_get (pc := 50) X (ref := "PictureBlock$Ties") (T := TX7) (j := 7) dX9_tree_50 inX9_tree_RX7 shzC_140 clzC_7 (by decide) rfl (List.mem_of_getElem? (i := 3) rfl) rfl ?_
        refine ww_iload_n (pc := 53) X (j := 1) dX9_tree_53 rfl rfl ?_
        refine ww_iald (pc := 54) X dX9_tree_54 shzC_194 rfl hF (fun v8 ev8 bv8 hF => ?_)
        refine ww_imul (pc := 55) X dX9_tree_55 ?_
        refine ww_aload_n (pc := 56) X (j := 0) dX9_tree_56 rfl rfl ?_
        refine ww_get (pc := 57) X (ref := "PictureBlock") (T := TX9) (j := 12) dX9_tree_57 inX9_tree_RX9 shzC_0 clzC_9 (by decide) rfl (List.mem_of_getElem? (i := 1) rfl) rfl ?_
        refine ww_get (pc := 60) X (ref := "PictureBlock$Ties") (T := TX7) (j := 8) dX9_tree_60 inX9_tree_RX7 shzC_140 clzC_7 (by decide) rfl (List.mem_of_getElem? (i := 4) rfl) rfl ?_
        refine ww_iload_n (pc := 63) X (j := 1) dX9_tree_63 rfl rfl ?_
        refine ww_iald (pc := 64) X dX9_tree_64 shzC_195 rfl hF (fun v9 ev9 bv9 hF => ?_)
        refine ww_iadd (pc := 65) X dX9_tree_65 ?_
        exact ww_iret (pc := 66) X dX9_tree_66 (fst_of hF) (snd_of hF)
      · refine ww_iconst (pc := 42) X (v := (-1)) dX9_tree_42 (by decide) ?_
        exact ww_iret (pc := 43) X dX9_tree_43 (fst_of hF) (snd_of hF)
  · refine ww_aload_n (pc := 19) X (j := 0) dX9_tree_19 rfl rfl ?_
    refine ww_get (pc := 20) X (ref := "PictureBlock") (T := TX9) (j := 12) dX9_tree_20 inX9_tree_RX9 shzC_0 clzC_9 (by decide) rfl (List.mem_of_getElem? (i := 1) rfl) rfl ?_
    refine ww_get (pc := 23) X (ref := "PictureBlock$Ties") (T := TX7) (j := 10) dX9_tree_23 inX9_tree_RX7 shzC_140 clzC_7 (by decide) rfl (List.mem_of_getElem? (i := 2) rfl) rfl ?_
    exact ww_iret (pc := 26) X dX9_tree_26 (fst_of hF) (snd_of hF)
set_option maxRecDepth 100000 in
set_option maxHeartbeats 4000000 in
theorem kX9_tree (l : Launch) (G : gG) {ex : gEx} (hZ : ∀ s : State, G.2.2.2 s → kC ex (gA G zC.1) s) (hG : gOK G zC.1) (hT : G.2.2.1.map (fun q => q.2) = zC.2.1) (σ : gS) (p1 : Int32) (out : Int32 × gS) (hF : fX9_tree σ p1 = some out) : gCi l yX9_tree wsX9_tree rmX9_tree G zC [.ref (G.2.1 0), .int p1] σ out.1 out.2 :=
  gEnter (by decide) rfl ⟨rfl, rfl⟩ hG hT (Nat.le_of_ble_eq_true rfl) rfl (fun M X hl => wX9_tree X hZ σ p1 hF)
noncomputable def bX7_markPlanned_6 (σ : gS) (c6_1 : Int32) (c6_2 : Int32) (c6_3 : Int32) (rec6 : Int32 → Int32 → gS → Option (gS)) (a4 : Int32) (a5 : Int32) (σ1 : gS) : Option (gS) :=
  gd (gb 2 6) <| nm (σ1.1 3 ((2 : Int32).toNatClampNeg)) fun v3 => (if v3 ≤ a5 then some σ1 else if c6_3 ≤ a4 then some σ1 else gd (gb c6_1 12) <| gd (gb a5 20) <| nm (σ1.1 (142 + c6_1.toNatClampNeg) a5.toNatClampNeg) fun v7 => nm (v7 : Int32) fun x8 => gd (gb c6_2 12) <| gd (gb a5 20) <| nm (σ1.1 (142 + c6_2.toNatClampNeg) a5.toNatClampNeg) fun v10 => nm (v10 : Int32) fun x11 => (if x8 = ((-1)) then nm (a5 + 1 : Int32) fun x13 => rec6 a4 x13 σ1 else if x11 = ((-1)) then nm (a5 + 1 : Int32) fun x19 => rec6 a4 x19 σ1 else gd (gb x8 60) <| nm (gsI σ1 196 x8.toNatClampNeg 1) fun σ15 => gd (gb x11 60) <| nm (gsI σ15 196 x11.toNatClampNeg 1) fun σ16 => nm (a4 + 1 : Int32) fun x17 => nm (a5 + 1 : Int32) fun x18 => rec6 x17 x18 σ16))
noncomputable def fX7_markPlanned (σ : gS) (p1 : Int32) (p2 : Int32) (p3 : Int32) : Option (gS) :=
  nm (0 : Int32) fun x1 => nm (0 : Int32) fun x2 => lpc (S := Int32 × Int32 × gS) K9 (fun rec s => bX7_markPlanned_6 σ p1 p2 p3 (fun a4 a5 σ1 => rec (a4, a5, σ1)) s.1 s.2.1 s.2.2) (x1, x2, σ)
noncomputable abbrev rmX7_markPlanned : Room := { frames := 0, cells := 0, slots := 0, locals := 0 }
set_option maxRecDepth 100000 in
set_option maxHeartbeats 4000000 in
theorem wbX7_markPlanned_6 {M : gM} {G : gG} {out : gS} (X : gX M G zC cX7_markPlanned RX7 8 wsX7_markPlanned rmX7_markPlanned none) {ex : gEx} (hZ : ∀ s : State, G.2.2.2 s → kC ex (gA G zC.1) s) (σ : gS) (c6_1 : Int32) (c6_2 : Int32) (c6_3 : Int32) (rec6 : Int32 → Int32 → gS → Option (gS)) (ih6 : ∀ (a4 : Int32) (a5 : Int32) (σ1 : gS), rec6 a4 a5 σ1 = some out → WW M (gQv M G zC out) G zC 8 σ1 6 [(0, .ref (G.2.1 140)), (1, .int c6_1), (2, .int c6_2), (3, .int c6_3), (4, .int a4), (5, .int a5)] []) (a4 : Int32) (a5 : Int32) (σ1 : gS) (hF : bX7_markPlanned_6 σ c6_1 c6_2 c6_3 rec6 a4 a5 σ1 = some out) : WW M (gQv M G zC out) G zC 8 σ1 6 [(0, .ref (G.2.1 140)), (1, .int c6_1), (2, .int c6_2), (3, .int c6_3), (4, .int a4), (5, .int a5)] [] := by
  unfold bX7_markPlanned_6 at hF
  refine ww_iload (pc := 6) X (j := 5) dX7_markPlanned_6 rfl ?_
  refine ww_aload_n (pc := 8) X (j := 0) dX7_markPlanned_8 rfl rfl ?_
  refine ww_get (pc := 9) X (ref := "PictureBlock$Ties") (T := TX7) (j := 0) dX7_markPlanned_9 inX7_markPlanned_RX7 shzC_140 clzC_7 (by decide) rfl (List.mem_of_getElem? (i := 1) rfl) rfl ?_
  refine ww_get (pc := 12) X (ref := "PictureBlock$Told") (T := TX8) (j := 0) dX7_markPlanned_12 inX7_markPlanned_RX8 shzC_2 clzC_8 (by decide) rfl (List.mem_of_getElem? (i := 2) rfl) rfl ?_
  refine ww_iconst (pc := 15) X (v := 2) dX7_markPlanned_15 (by decide) ?_
  refine ww_iald (pc := 16) X dX7_markPlanned_16 shzC_3 rfl hF (fun v3 ev3 bv3 hF => ?_)
  refine ww_icmp_ge (pc := 17) (tgt := 88) X dX7_markPlanned_17 (by decide) hF (fun h4 hF => ?_) (fun h4 hF => ?_)
  · exact ww_vret (pc := 88) X dX7_markPlanned_88 (by cases hF; rfl)
  · refine ww_iload (pc := 20) X (j := 4) dX7_markPlanned_20 rfl ?_
    refine ww_iload_n (pc := 22) X (j := 3) dX7_markPlanned_22 rfl rfl ?_
    refine ww_icmp_ge (pc := 23) (tgt := 88) X dX7_markPlanned_23 (by decide) hF (fun h5 hF => ?_) (fun h5 hF => ?_)
    · exact ww_vret (pc := 88) X dX7_markPlanned_88 (by cases hF; rfl)
    · refine ww_aload_n (pc := 26) X (j := 0) dX7_markPlanned_26 rfl rfl ?_
      refine ww_get (pc := 27) X (ref := "PictureBlock$Ties") (T := TX7) (j := 2) dX7_markPlanned_27 inX7_markPlanned_RX7 shzC_140 clzC_7 (by decide) rfl (List.mem_of_getElem? (i := 3) rfl) rfl ?_
      refine ww_iload_n (pc := 30) X (j := 1) dX7_markPlanned_30 rfl rfl ?_
      refine ww_aald (pc := 31) X dX7_markPlanned_31 shzC_141 rfl hF (fun h6 hF => ?_)
      refine ww_iload (pc := 32) X (j := 5) dX7_markPlanned_32 rfl ?_
      refine ww_iald (pc := 34) X dX7_markPlanned_34 (rwzC_141 _ (gb_lt h6)) rfl hF (fun v7 ev7 bv7 hF => ?_)
      refine ww_istore (pc := 35) X (lv' := [(0, .ref (G.2.1 140)), (1, .int c6_1), (2, .int c6_2), (3, .int c6_3), (4, .int a4), (5, .int a5)]) dX7_markPlanned_35 (by decide) rfl hF (fun x8 ex8 hF => ?_)
      refine ww_aload_n (pc := 37) X (j := 1) dX7_markPlanned_37 rfl rfl ?_
      refine ww_get (pc := 38) X (ref := "PictureBlock$Ties") (T := TX7) (j := 2) dX7_markPlanned_38 inX7_markPlanned_RX7 shzC_140 clzC_7 (by decide) rfl (List.mem_of_getElem? (i := 3) rfl) rfl ?_
      refine ww_iload_n (pc := 41) X (j := 3) dX7_markPlanned_41 rfl rfl ?_
      refine ww_aald (pc := 42) X dX7_markPlanned_42 shzC_141 rfl hF (fun h9 hF => ?_)
      refine ww_iload (pc := 43) X (j := 6) dX7_markPlanned_43 rfl ?_
      refine ww_iald (pc := 45) X dX7_markPlanned_45 (rwzC_141 _ (gb_lt h9)) rfl hF (fun v10 ev10 bv10 hF => ?_)
      refine ww_istore (pc := 46) X (lv' := [(6, .int x8), (0, .ref (G.2.1 140)), (1, .int c6_1), (2, .int c6_2), (3, .int c6_3), (4, .int a4), (5, .int a5)]) dX7_markPlanned_46 (by decide) rfl hF (fun x11 ex11 hF => ?_)
      refine ww_iload (pc := 48) X (j := 1) dX7_markPlanned_48 rfl ?_
      refine ww_iconst (pc := 50) X (v := (-1)) dX7_markPlanned_50 (by decide) ?_
      refine ww_icmp_eq (pc := 51) (tgt := 82) X dX7_markPlanned_51 (by decide) hF (fun h12 hF => ?_) (fun h12 hF => ?_)
      · refine ww_iinc (pc := 82) X (j := 7) (v := 1) (lv' := [(7, .int x11), (6, .int x8), (0, .ref (G.2.1 140)), (1, .int c6_1), (2, .int c6_2), (3, .int c6_3), (4, .int a4)]) dX7_markPlanned_82 rfl rfl (by decide) rfl hF (fun x13 ex13 hF => ?_)
        refine ww_goto (pc := 85) X (tgt := 6) dX7_markPlanned_85 (by decide) ?_
        exact ww_sub [3, 4, 5, 6, 7, 0] rfl (ih6 a4 x13 σ1 hF)
      · refine ww_iload (pc := 54) X (j := 0) dX7_markPlanned_54 rfl ?_
        refine ww_iconst (pc := 56) X (v := (-1)) dX7_markPlanned_56 (by decide) ?_
        refine ww_icmp_ne (pc := 57) (tgt := 63) X dX7_markPlanned_57 (by decide) hF (fun h14 hF => ?_) (fun h14 hF => ?_)
        · refine ww_aload_n (pc := 63) X (j := 2) dX7_markPlanned_63 rfl rfl ?_
          refine ww_get (pc := 64) X (ref := "PictureBlock$Ties") (T := TX7) (j := 9) dX7_markPlanned_64 inX7_markPlanned_RX7 shzC_140 clzC_7 (by decide) rfl (List.mem_of_getElem? (i := 4) rfl) rfl ?_
          refine ww_iload (pc := 67) X (j := 1) dX7_markPlanned_67 rfl ?_
          refine ww_iconst (pc := 69) X (v := 1) dX7_markPlanned_69 (by decide) ?_
          refine ww_iast (pc := 70) X dX7_markPlanned_70 shzC_196 rfl hF (fun σ15 eσ15 bσ15 hF => ?_)
          refine ww_aload_n (pc := 71) X (j := 2) dX7_markPlanned_71 rfl rfl ?_
          refine ww_get (pc := 72) X (ref := "PictureBlock$Ties") (T := TX7) (j := 9) dX7_markPlanned_72 inX7_markPlanned_RX7 shzC_140 clzC_7 (by decide) rfl (List.mem_of_getElem? (i := 4) rfl) rfl ?_
          refine ww_iload (pc := 75) X (j := 0) dX7_markPlanned_75 rfl ?_
          refine ww_iconst (pc := 77) X (v := 1) dX7_markPlanned_77 (by decide) ?_
          refine ww_iast (pc := 78) X dX7_markPlanned_78 shzC_196 rfl hF (fun σ16 eσ16 bσ16 hF => ?_)
          refine ww_iinc (pc := 79) X (j := 6) (v := 1) (lv' := [(7, .int x11), (6, .int x8), (0, .ref (G.2.1 140)), (1, .int c6_1), (2, .int c6_2), (3, .int c6_3), (5, .int a5)]) dX7_markPlanned_79 rfl rfl (by decide) rfl hF (fun x17 ex17 hF => ?_)
          refine ww_iinc (pc := 82) X (j := 7) (v := 1) (lv' := [(4, .int x17), (7, .int x11), (6, .int x8), (0, .ref (G.2.1 140)), (1, .int c6_1), (2, .int c6_2), (3, .int c6_3)]) dX7_markPlanned_82 rfl rfl (by decide) rfl hF (fun x18 ex18 hF => ?_)
          refine ww_goto (pc := 85) X (tgt := 6) dX7_markPlanned_85 (by decide) ?_
          exact ww_sub [4, 5, 6, 7, 1, 0] rfl (ih6 x17 x18 σ16 hF)
        · refine ww_goto (pc := 60) X (tgt := 82) dX7_markPlanned_60 (by decide) ?_
          refine ww_iinc (pc := 82) X (j := 7) (v := 1) (lv' := [(7, .int x11), (6, .int x8), (0, .ref (G.2.1 140)), (1, .int c6_1), (2, .int c6_2), (3, .int c6_3), (4, .int a4)]) dX7_markPlanned_82 rfl rfl (by decide) rfl hF (fun x19 ex19 hF => ?_)
          refine ww_goto (pc := 85) X (tgt := 6) dX7_markPlanned_85 (by decide) ?_
          exact ww_sub [3, 4, 5, 6, 7, 0] rfl (ih6 a4 x19 σ1 hF)
set_option maxRecDepth 100000 in
set_option maxHeartbeats 4000000 in
theorem wX7_markPlanned {M : gM} {G : gG} {out : gS} (X : gX M G zC cX7_markPlanned RX7 8 wsX7_markPlanned rmX7_markPlanned none) {ex : gEx} (hZ : ∀ s : State, G.2.2.2 s → kC ex (gA G zC.1) s) (σ : gS) (p1 : Int32) (p2 : Int32) (p3 : Int32) (hF : fX7_markPlanned σ p1 p2 p3 = some out) : WW M (gQv M G zC out) G zC 8 σ 0 [(0, .ref (G.2.1 140)), (1, .int p1), (2, .int p2), (3, .int p3)] [] := by
  unfold fX7_markPlanned at hF
  refine ww_iconst (pc := 0) X (v := 0) dX7_markPlanned_0 (by decide) ?_
  refine ww_istore (pc := 1) X (lv' := [(0, .ref (G.2.1 140)), (1, .int p1), (2, .int p2), (3, .int p3)]) dX7_markPlanned_1 (by decide) rfl hF (fun x1 ex1 hF => ?_)
  refine ww_iconst (pc := 3) X (v := 0) dX7_markPlanned_3 (by decide) ?_
  refine ww_istore (pc := 4) X (lv' := [(4, .int x1), (0, .ref (G.2.1 140)), (1, .int p1), (2, .int p2), (3, .int p3)]) dX7_markPlanned_4 (by decide) rfl hF (fun x2 ex2 hF => ?_)
  exact ww_sub [2, 3, 4, 5, 1, 0] rfl (lpc_ind (P := (fun (s : Int32 × Int32 × gS) => WW M (gQv M G zC out) G zC 8 s.2.2 6 [(0, .ref (G.2.1 140)), (1, .int p1), (2, .int p2), (3, .int p3), (4, .int s.1), (5, .int s.2.1)] [])) (fun rec s ih hF => wbX7_markPlanned_6 X hZ σ p1 p2 p3 (fun a4 a5 σ1 => rec (a4, a5, σ1)) (fun a4 a5 σ1 h => ih (a4, a5, σ1) h) s.1 s.2.1 s.2.2 hF) K9 (x1, x2, σ) hF)
set_option maxRecDepth 100000 in
set_option maxHeartbeats 4000000 in
theorem kX7_markPlanned (l : Launch) (G : gG) {ex : gEx} (hZ : ∀ s : State, G.2.2.2 s → kC ex (gA G zC.1) s) (hG : gOK G zC.1) (hT : G.2.2.1.map (fun q => q.2) = zC.2.1) (σ : gS) (p1 : Int32) (p2 : Int32) (p3 : Int32) (out : gS) (hF : fX7_markPlanned σ p1 p2 p3 = some out) : gCv l yX7_markPlanned wsX7_markPlanned rmX7_markPlanned G zC [.ref (G.2.1 140), .int p1, .int p2, .int p3] σ out :=
  gEnter (by decide) rfl ⟨rfl, rfl⟩ hG hT (Nat.le_of_ble_eq_true rfl) rfl (fun M X hl => wX7_markPlanned X hZ σ p1 p2 p3 hF)
noncomputable def bX7_countPlanned_45 (σ : gS) (rec45 : Int32 → Int32 → Option (Int32 × gS)) (a2 : Int32) (a3 : Int32) : Option (Int32 × gS) :=
  gd (gb 3 6) <| nm (σ.1 3 ((3 : Int32).toNatClampNeg)) fun v7 => (if v7 ≤ a3 then some (a2, σ) else gd (gb a3 60) <| nm (σ.1 196 a3.toNatClampNeg) fun v9 => nm (a2 + v9 : Int32) fun x10 => nm (a3 + 1 : Int32) fun x11 => rec45 x10 x11)
noncomputable def bX7_countPlanned_10 (σ : gS) (c10_1 : Int32) (rec10 : Int32 → gS → Option (Int32 × gS)) (a2 : Int32) (σ1 : gS) : Option (Int32 × gS) :=
  if (σ1.1 140 10) ≤ a2 then nm (0 : Int32) fun x5 => nm (0 : Int32) fun x6 => lpc (S := Int32 × Int32) K9 (fun rec s => bX7_countPlanned_45 σ1 (fun a2 a3 => rec (a2, a3)) s.1 s.2) (x5, x6) else gd (gb a2 12) <| nm (σ1.1 194 a2.toNatClampNeg) fun v12 => gd (gb a2 12) <| nm (σ1.1 195 a2.toNatClampNeg) fun v13 => bd (fX7_markPlanned σ1 v12 v13 c10_1) fun σ15 => nm (a2 + 1 : Int32) fun x16 => rec10 x16 σ15
noncomputable def fX7_countPlanned (σ : gS) (p1 : Int32) : Option (Int32 × gS) :=
  bd (fJ7_fill_53178 σ 196 0) fun σ2 => nm (0 : Int32) fun x3 => lpc (S := Int32 × gS) K9 (fun rec s => bX7_countPlanned_10 σ2 p1 (fun a2 σ1 => rec (a2, σ1)) s.1 s.2) (x3, σ2)
noncomputable abbrev rmX7_countPlanned : Room := { frames := 1, cells := 0, slots := 0, locals := 27 }
set_option maxRecDepth 100000 in
set_option maxHeartbeats 4000000 in
theorem wbX7_countPlanned_45 {M : gM} {G : gG} {out : Int32 × gS} (X : gX M G zC cX7_countPlanned RX7 4 wsX7_countPlanned rmX7_countPlanned (some .int)) {ex : gEx} (hZ : ∀ s : State, G.2.2.2 s → kC ex (gA G zC.1) s) (σ : gS) (rec45 : Int32 → Int32 → Option (Int32 × gS)) (ih45 : ∀ (a2 : Int32) (a3 : Int32), rec45 a2 a3 = some out → WW M (gQi M G zC out.1 out.2) G zC 4 σ 45 [(0, .ref (G.2.1 140)), (2, .int a2), (3, .int a3)] []) (a2 : Int32) (a3 : Int32) (hF : bX7_countPlanned_45 σ rec45 a2 a3 = some out) : WW M (gQi M G zC out.1 out.2) G zC 4 σ 45 [(0, .ref (G.2.1 140)), (2, .int a2), (3, .int a3)] [] := by
  unfold bX7_countPlanned_45 at hF
  refine ww_iload_n (pc := 45) X (j := 2) dX7_countPlanned_45 rfl rfl ?_
  refine ww_aload_n (pc := 46) X (j := 0) dX7_countPlanned_46 rfl rfl ?_
  refine ww_get (pc := 47) X (ref := "PictureBlock$Ties") (T := TX7) (j := 0) dX7_countPlanned_47 inX7_countPlanned_RX7 shzC_140 clzC_7 (by decide) rfl (List.mem_of_getElem? (i := 5) rfl) rfl ?_
  refine ww_get (pc := 50) X (ref := "PictureBlock$Told") (T := TX8) (j := 0) dX7_countPlanned_50 inX7_countPlanned_RX8 shzC_2 clzC_8 (by decide) rfl (List.mem_of_getElem? (i := 6) rfl) rfl ?_
  refine ww_iconst (pc := 53) X (v := 3) dX7_countPlanned_53 (by decide) ?_
  refine ww_iald (pc := 54) X dX7_countPlanned_54 shzC_3 rfl hF (fun v7 ev7 bv7 hF => ?_)
  refine ww_icmp_ge (pc := 55) (tgt := 73) X dX7_countPlanned_55 (by decide) hF (fun h8 hF => ?_) (fun h8 hF => ?_)
  · refine ww_iload_n (pc := 73) X (j := 1) dX7_countPlanned_73 rfl rfl ?_
    exact ww_iret (pc := 74) X dX7_countPlanned_74 (fst_of hF) (snd_of hF)
  · refine ww_iload_n (pc := 58) X (j := 1) dX7_countPlanned_58 rfl rfl ?_
    refine ww_aload_n (pc := 59) X (j := 0) dX7_countPlanned_59 rfl rfl ?_
    refine ww_get (pc := 60) X (ref := "PictureBlock$Ties") (T := TX7) (j := 9) dX7_countPlanned_60 inX7_countPlanned_RX7 shzC_140 clzC_7 (by decide) rfl (List.mem_of_getElem? (i := 1) rfl) rfl ?_
    refine ww_iload_n (pc := 63) X (j := 2) dX7_countPlanned_63 rfl rfl ?_
    refine ww_iald (pc := 64) X dX7_countPlanned_64 shzC_196 rfl hF (fun v9 ev9 bv9 hF => ?_)
    refine ww_iadd (pc := 65) X dX7_countPlanned_65 ?_
    refine ww_istore_n (pc := 66) X (lv' := [(0, .ref (G.2.1 140)), (3, .int a3)]) dX7_countPlanned_66 rfl (by decide) rfl hF (fun x10 ex10 hF => ?_)
    refine ww_iinc (pc := 67) X (j := 2) (v := 1) (lv' := [(2, .int x10), (0, .ref (G.2.1 140))]) dX7_countPlanned_67 rfl rfl (by decide) rfl hF (fun x11 ex11 hF => ?_)
    refine ww_goto (pc := 70) X (tgt := 45) dX7_countPlanned_70 (by decide) ?_
    exact ww_sub [2, 1, 0] rfl (ih45 x10 x11 hF)
set_option maxRecDepth 100000 in
set_option maxHeartbeats 4000000 in
theorem wbX7_countPlanned_10 {M : gM} {G : gG} {out : Int32 × gS} (X : gX M G zC cX7_countPlanned RX7 4 wsX7_countPlanned rmX7_countPlanned (some .int)) {ex : gEx} (hZ : ∀ s : State, G.2.2.2 s → kC ex (gA G zC.1) s) (σ : gS) (c10_1 : Int32) (rec10 : Int32 → gS → Option (Int32 × gS)) (ih10 : ∀ (a2 : Int32) (σ1 : gS), rec10 a2 σ1 = some out → WW M (gQi M G zC out.1 out.2) G zC 4 σ1 10 [(0, .ref (G.2.1 140)), (1, .int c10_1), (2, .int a2)] []) (a2 : Int32) (σ1 : gS) (hF : bX7_countPlanned_10 σ c10_1 rec10 a2 σ1 = some out) : WW M (gQi M G zC out.1 out.2) G zC 4 σ1 10 [(0, .ref (G.2.1 140)), (1, .int c10_1), (2, .int a2)] [] := by
  unfold bX7_countPlanned_10 at hF
  refine ww_iload_n (pc := 10) X (j := 2) dX7_countPlanned_10 rfl rfl ?_
  refine ww_aload_n (pc := 11) X (j := 0) dX7_countPlanned_11 rfl rfl ?_
  refine ww_get (pc := 12) X (ref := "PictureBlock$Ties") (T := TX7) (j := 10) dX7_countPlanned_12 inX7_countPlanned_RX7 shzC_140 clzC_7 (by decide) rfl (List.mem_of_getElem? (i := 2) rfl) rfl ?_
  refine ww_icmp_ge (pc := 15) (tgt := 41) X dX7_countPlanned_15 (by decide) hF (fun h4 hF => ?_) (fun h4 hF => ?_)
  · refine ww_iconst (pc := 41) X (v := 0) dX7_countPlanned_41 (by decide) ?_
    refine ww_istore_n (pc := 42) X (lv' := [(0, .ref (G.2.1 140)), (1, .int c10_1)]) dX7_countPlanned_42 rfl (by decide) rfl hF (fun x5 ex5 hF => ?_)
    refine ww_iconst (pc := 43) X (v := 0) dX7_countPlanned_43 (by decide) ?_
    refine ww_istore_n (pc := 44) X (lv' := [(2, .int x5), (0, .ref (G.2.1 140)), (1, .int c10_1)]) dX7_countPlanned_44 rfl (by decide) rfl hF (fun x6 ex6 hF => ?_)
    exact ww_sub [2, 1, 0] rfl (lpc_ind (P := (fun (s : Int32 × Int32) => WW M (gQi M G zC out.1 out.2) G zC 4 σ1 45 [(0, .ref (G.2.1 140)), (2, .int s.1), (3, .int s.2)] [])) (fun rec s ih hF => wbX7_countPlanned_45 X hZ σ1 (fun a2 a3 => rec (a2, a3)) (fun a2 a3 h => ih (a2, a3) h) s.1 s.2 hF) K9 (x5, x6) hF)
  · refine ww_aload_n (pc := 18) X (j := 0) dX7_countPlanned_18 rfl rfl ?_
    refine ww_aload_n (pc := 19) X (j := 0) dX7_countPlanned_19 rfl rfl ?_
    refine ww_get (pc := 20) X (ref := "PictureBlock$Ties") (T := TX7) (j := 7) dX7_countPlanned_20 inX7_countPlanned_RX7 shzC_140 clzC_7 (by decide) rfl (List.mem_of_getElem? (i := 3) rfl) rfl ?_
    refine ww_iload_n (pc := 23) X (j := 2) dX7_countPlanned_23 rfl rfl ?_
    refine ww_iald (pc := 24) X dX7_countPlanned_24 shzC_194 rfl hF (fun v12 ev12 bv12 hF => ?_)
    refine ww_aload_n (pc := 25) X (j := 0) dX7_countPlanned_25 rfl rfl ?_
    refine ww_get (pc := 26) X (ref := "PictureBlock$Ties") (T := TX7) (j := 8) dX7_countPlanned_26 inX7_countPlanned_RX7 shzC_140 clzC_7 (by decide) rfl (List.mem_of_getElem? (i := 4) rfl) rfl ?_
    refine ww_iload_n (pc := 29) X (j := 2) dX7_countPlanned_29 rfl rfl ?_
    refine ww_iald (pc := 30) X dX7_countPlanned_30 shzC_195 rfl hF (fun v13 ev13 bv13 hF => ?_)
    refine ww_iload_n (pc := 31) X (j := 1) dX7_countPlanned_31 rfl rfl ?_
    obtain ⟨σ15, h14, hF⟩ := bd_some hF
    refine ww_callVv (pc := 32) X (As := [.int v12, .int v13, .int c10_1]) (rest := []) dX7_countPlanned_32 (kX7_markPlanned (mL M) G hZ X.2.2.2.2.2.2.1 X.2.2.2.2.2.2.2.1 σ1 v12 v13 c10_1 σ15 h14) rfl shzC_140 clzC_7 gX7_countPlanned_X7_markPlanned hyX7_markPlanned ⟨rfl, rfl⟩ ⟨Nat.le_of_ble_eq_true rfl, Nat.le_of_ble_eq_true rfl⟩ rfl rfl (Nat.le_of_ble_eq_true rfl) ?_
    refine ww_iinc (pc := 35) X (j := 2) (v := 1) (lv' := [(0, .ref (G.2.1 140)), (1, .int c10_1)]) dX7_countPlanned_35 rfl rfl (by decide) rfl hF (fun x16 ex16 hF => ?_)
    refine ww_goto (pc := 38) X (tgt := 10) dX7_countPlanned_38 (by decide) ?_
    exact ww_sub [1, 2, 0] rfl (ih10 x16 σ15 hF)
set_option maxRecDepth 100000 in
set_option maxHeartbeats 4000000 in
theorem wX7_countPlanned {M : gM} {G : gG} {out : Int32 × gS} (X : gX M G zC cX7_countPlanned RX7 4 wsX7_countPlanned rmX7_countPlanned (some .int)) {ex : gEx} (hZ : ∀ s : State, G.2.2.2 s → kC ex (gA G zC.1) s) (σ : gS) (p1 : Int32) (hF : fX7_countPlanned σ p1 = some out) : WW M (gQi M G zC out.1 out.2) G zC 4 σ 0 [(0, .ref (G.2.1 140)), (1, .int p1)] [] := by
  unfold fX7_countPlanned at hF
  refine ww_aload_n (pc := 0) X (j := 0) dX7_countPlanned_0 rfl rfl ?_
  refine ww_get (pc := 1) X (ref := "PictureBlock$Ties") (T := TX7) (j := 9) dX7_countPlanned_1 inX7_countPlanned_RX7 shzC_140 clzC_7 (by decide) rfl (List.mem_of_getElem? (i := 1) rfl) rfl ?_
  refine ww_iconst (pc := 4) X (v := 0) dX7_countPlanned_4 (by decide) ?_
  obtain ⟨σ2, h1, hF⟩ := bd_some hF
  refine ww_callSv (pc := 5) X (As := [.ref (G.2.1 196), .int 0]) (rest := []) dX7_countPlanned_5 (kJ7_fill_53178 (mL M) G hZ X.2.2.2.2.2.2.1 X.2.2.2.2.2.2.2.1 σ 196 0 σ2 h1) rfl gX7_countPlanned_J7_fill_53178 hyJ7_fill_53178 ⟨rfl, rfl⟩ ⟨Nat.le_of_ble_eq_true rfl, Nat.le_of_ble_eq_true rfl⟩ rfl rfl (Nat.le_of_ble_eq_true rfl) ?_
  refine ww_iconst (pc := 8) X (v := 0) dX7_countPlanned_8 (by decide) ?_
  refine ww_istore_n (pc := 9) X (lv' := [(0, .ref (G.2.1 140)), (1, .int p1)]) dX7_countPlanned_9 rfl (by decide) rfl hF (fun x3 ex3 hF => ?_)
  exact ww_sub [1, 2, 0] rfl (lpc_ind (P := (fun (s : Int32 × gS) => WW M (gQi M G zC out.1 out.2) G zC 4 s.2 10 [(0, .ref (G.2.1 140)), (1, .int p1), (2, .int s.1)] [])) (fun rec s ih hF => wbX7_countPlanned_10 X hZ σ2 p1 (fun a2 σ1 => rec (a2, σ1)) (fun a2 σ1 h => ih (a2, σ1) h) s.1 s.2 hF) K9 (x3, σ2) hF)
set_option maxRecDepth 100000 in
set_option maxHeartbeats 4000000 in
theorem kX7_countPlanned (l : Launch) (G : gG) {ex : gEx} (hZ : ∀ s : State, G.2.2.2 s → kC ex (gA G zC.1) s) (hG : gOK G zC.1) (hT : G.2.2.1.map (fun q => q.2) = zC.2.1) (σ : gS) (p1 : Int32) (out : Int32 × gS) (hF : fX7_countPlanned σ p1 = some out) : gCi l yX7_countPlanned wsX7_countPlanned rmX7_countPlanned G zC [.ref (G.2.1 140), .int p1] σ out.1 out.2 :=
  gEnter (by decide) rfl ⟨rfl, rfl⟩ hG hT (Nat.le_of_ble_eq_true rfl) rfl (fun M X hl => wX7_countPlanned X hZ σ p1 hF)
