noncomputable def fX9_isAxis (σ : gS) (p0 : Int32) : Option (Int32) :=
  if p0 = 0 then some 1 else if p0 = 1 then some 1 else some 0
noncomputable abbrev rmX9_isAxis : Room := { frames := 0, cells := 0, slots := 0, locals := 0 }
set_option maxRecDepth 100000 in
set_option maxHeartbeats 4000000 in
theorem wX9_isAxis {M : gM} {G : gG} {out : Int32} (X : gX M G zC cX9_isAxis RX9 1 wsX9_isAxis rmX9_isAxis (some .boolean)) {ex : gEx} (hZ : ∀ s : State, G.2.2.2 s → kC ex (gA G zC.1) s) (σ : gS) (p0 : Int32) (hF : fX9_isAxis σ p0 = some out) : WW M (gQi M G zC out σ) G zC 1 σ 0 [(0, .int p0)] [] := by
  unfold fX9_isAxis at hF
  refine ww_iload_n (pc := 0) X (j := 0) dX9_isAxis_0 rfl rfl ?_
  refine ww_if_eq (pc := 1) (tgt := 9) X dX9_isAxis_1 (by decide) hF (fun h1 hF => ?_) (fun h1 hF => ?_)
  · refine ww_iconst (pc := 9) X (v := 1) dX9_isAxis_9 (by decide) ?_
    refine ww_goto (pc := 10) X (tgt := 14) dX9_isAxis_10 (by decide) ?_
    exact ww_zret (pc := 14) X dX9_isAxis_14 (by cases hF; rfl) rfl
  · refine ww_iload_n (pc := 4) X (j := 0) dX9_isAxis_4 rfl rfl ?_
    refine ww_iconst (pc := 5) X (v := 1) dX9_isAxis_5 (by decide) ?_
    refine ww_icmp_ne (pc := 6) (tgt := 13) X dX9_isAxis_6 (by decide) hF (fun h2 hF => ?_) (fun h2 hF => ?_)
    · refine ww_iconst (pc := 13) X (v := 0) dX9_isAxis_13 (by decide) ?_
      exact ww_zret (pc := 14) X dX9_isAxis_14 (by cases hF; rfl) rfl
    · refine ww_iconst (pc := 9) X (v := 1) dX9_isAxis_9 (by decide) ?_
      refine ww_goto (pc := 10) X (tgt := 14) dX9_isAxis_10 (by decide) ?_
      exact ww_zret (pc := 14) X dX9_isAxis_14 (by cases hF; rfl) rfl
set_option maxRecDepth 100000 in
set_option maxHeartbeats 4000000 in
theorem kX9_isAxis (l : Launch) (G : gG) {ex : gEx} (hZ : ∀ s : State, G.2.2.2 s → kC ex (gA G zC.1) s) (hG : gOK G zC.1) (hT : G.2.2.1.map (fun q => q.2) = zC.2.1) (σ : gS) (p0 : Int32) (out : Int32) (hF : fX9_isAxis σ p0 = some out) : gCi l yX9_isAxis wsX9_isAxis rmX9_isAxis G zC [.int p0] σ out σ :=
  gEnter (by decide) rfl ⟨rfl, rfl⟩ hG hT (Nat.le_of_ble_eq_true rfl) rfl (fun M X hl => wX9_isAxis X hZ σ p0 hF)
noncomputable def bX8_drifts_2_2 (σ : gS) (c2_1 : Int32) (rec2 : Int32 → Option (Int32)) (a2 : Int32) : Option (Int32) :=
  gd (gb 1 6) <| nm (σ.1 3 ((1 : Int32).toNatClampNeg)) fun v2 => (if v2 ≤ a2 then some 0 else gd (gb a2 12) <| nm (σ.1 8 a2.toNatClampNeg) fun v4 => (if v4 = c2_1 then gd (gb a2 12) <| nm (σ.1 20 a2.toNatClampNeg) fun v7 => (if v7 ≤ 0 then nm (a2 + 1 : Int32) fun x9 => rec2 x9 else some 1) else nm (a2 + 1 : Int32) fun x6 => rec2 x6))
noncomputable def fX8_drifts_2 (σ : gS) (p1 : Int32) : Option (Int32) :=
  nm (0 : Int32) fun x1 => lpc (S := Int32) K9 (fun rec s => bX8_drifts_2_2 σ p1 (fun a2 => rec (a2)) s) (x1)
noncomputable abbrev rmX8_drifts : Room := { frames := 0, cells := 0, slots := 0, locals := 0 }
set_option maxRecDepth 100000 in
set_option maxHeartbeats 4000000 in
theorem wbX8_drifts_2_2 {M : gM} {G : gG} {out : Int32} (X : gX M G zC cX8_drifts RX8 3 wsX8_drifts rmX8_drifts (some .boolean)) {ex : gEx} (hZ : ∀ s : State, G.2.2.2 s → kC ex (gA G zC.1) s) (σ : gS) (c2_1 : Int32) (rec2 : Int32 → Option (Int32)) (ih2 : ∀ (a2 : Int32), rec2 a2 = some out → WW M (gQi M G zC out σ) G zC 3 σ 2 [(0, .ref (G.2.1 2)), (1, .int c2_1), (2, .int a2)] []) (a2 : Int32) (hF : bX8_drifts_2_2 σ c2_1 rec2 a2 = some out) : WW M (gQi M G zC out σ) G zC 3 σ 2 [(0, .ref (G.2.1 2)), (1, .int c2_1), (2, .int a2)] [] := by
  unfold bX8_drifts_2_2 at hF
  refine ww_iload_n (pc := 2) X (j := 2) dX8_drifts_2 rfl rfl ?_
  refine ww_aload_n (pc := 3) X (j := 0) dX8_drifts_3 rfl rfl ?_
  refine ww_get (pc := 4) X (ref := "PictureBlock$Told") (T := TX8) (j := 0) dX8_drifts_4 inX8_drifts_RX8 shzC_2 clzC_8 (by decide) rfl (List.mem_of_getElem? (i := 1) rfl) rfl ?_
  refine ww_iconst (pc := 7) X (v := 1) dX8_drifts_7 (by decide) ?_
  refine ww_iald (pc := 8) X dX8_drifts_8 shzC_3 rfl hF (fun v2 ev2 bv2 hF => ?_)
  refine ww_icmp_ge (pc := 9) (tgt := 39) X dX8_drifts_9 (by decide) hF (fun h3 hF => ?_) (fun h3 hF => ?_)
  · refine ww_iconst (pc := 39) X (v := 0) dX8_drifts_39 (by decide) ?_
    exact ww_zret (pc := 40) X dX8_drifts_40 (by cases hF; rfl) rfl
  · refine ww_aload_n (pc := 12) X (j := 0) dX8_drifts_12 rfl rfl ?_
    refine ww_get (pc := 13) X (ref := "PictureBlock$Told") (T := TX8) (j := 2) dX8_drifts_13 inX8_drifts_RX8 shzC_2 clzC_8 (by decide) rfl (List.mem_of_getElem? (i := 2) rfl) rfl ?_
    refine ww_iload_n (pc := 16) X (j := 2) dX8_drifts_16 rfl rfl ?_
    refine ww_iald (pc := 17) X dX8_drifts_17 shzC_8 rfl hF (fun v4 ev4 bv4 hF => ?_)
    refine ww_iload_n (pc := 18) X (j := 1) dX8_drifts_18 rfl rfl ?_
    refine ww_icmp_ne (pc := 19) (tgt := 33) X dX8_drifts_19 (by decide) hF (fun h5 hF => ?_) (fun h5 hF => ?_)
    · refine ww_iinc (pc := 33) X (j := 2) (v := 1) (lv' := [(0, .ref (G.2.1 2)), (1, .int c2_1)]) dX8_drifts_33 rfl rfl (by decide) rfl hF (fun x6 ex6 hF => ?_)
      refine ww_goto (pc := 36) X (tgt := 2) dX8_drifts_36 (by decide) ?_
      exact ww_sub [1, 2, 0] rfl (ih2 x6 hF)
    · refine ww_aload_n (pc := 22) X (j := 0) dX8_drifts_22 rfl rfl ?_
      refine ww_get (pc := 23) X (ref := "PictureBlock$Told") (T := TX8) (j := 10) dX8_drifts_23 inX8_drifts_RX8 shzC_2 clzC_8 (by decide) rfl (List.mem_of_getElem? (i := 3) rfl) rfl ?_
      refine ww_iload_n (pc := 26) X (j := 2) dX8_drifts_26 rfl rfl ?_
      refine ww_iald (pc := 27) X dX8_drifts_27 shzC_20 rfl hF (fun v7 ev7 bv7 hF => ?_)
      refine ww_if_le (pc := 28) (tgt := 33) X dX8_drifts_28 (by decide) hF (fun h8 hF => ?_) (fun h8 hF => ?_)
      · refine ww_iinc (pc := 33) X (j := 2) (v := 1) (lv' := [(0, .ref (G.2.1 2)), (1, .int c2_1)]) dX8_drifts_33 rfl rfl (by decide) rfl hF (fun x9 ex9 hF => ?_)
        refine ww_goto (pc := 36) X (tgt := 2) dX8_drifts_36 (by decide) ?_
        exact ww_sub [1, 2, 0] rfl (ih2 x9 hF)
      · refine ww_iconst (pc := 31) X (v := 1) dX8_drifts_31 (by decide) ?_
        exact ww_zret (pc := 32) X dX8_drifts_32 (by cases hF; rfl) rfl
set_option maxRecDepth 100000 in
set_option maxHeartbeats 4000000 in
theorem wX8_drifts_2 {M : gM} {G : gG} {out : Int32} (X : gX M G zC cX8_drifts RX8 3 wsX8_drifts rmX8_drifts (some .boolean)) {ex : gEx} (hZ : ∀ s : State, G.2.2.2 s → kC ex (gA G zC.1) s) (σ : gS) (p1 : Int32) (hF : fX8_drifts_2 σ p1 = some out) : WW M (gQi M G zC out σ) G zC 3 σ 0 [(0, .ref (G.2.1 2)), (1, .int p1)] [] := by
  unfold fX8_drifts_2 at hF
  refine ww_iconst (pc := 0) X (v := 0) dX8_drifts_0 (by decide) ?_
  refine ww_istore_n (pc := 1) X (lv' := [(0, .ref (G.2.1 2)), (1, .int p1)]) dX8_drifts_1 rfl (by decide) rfl hF (fun x1 ex1 hF => ?_)
  exact ww_sub [1, 2, 0] rfl (lpc_ind (P := (fun (s : Int32) => WW M (gQi M G zC out σ) G zC 3 σ 2 [(0, .ref (G.2.1 2)), (1, .int p1), (2, .int s)] [])) (fun rec s ih hF => wbX8_drifts_2_2 X hZ σ p1 (fun a2 => rec (a2)) (fun a2 h => ih (a2) h) s hF) K9 (x1) hF)
set_option maxRecDepth 100000 in
set_option maxHeartbeats 4000000 in
theorem kX8_drifts_2 (l : Launch) (G : gG) {ex : gEx} (hZ : ∀ s : State, G.2.2.2 s → kC ex (gA G zC.1) s) (hG : gOK G zC.1) (hT : G.2.2.1.map (fun q => q.2) = zC.2.1) (σ : gS) (p1 : Int32) (out : Int32) (hF : fX8_drifts_2 σ p1 = some out) : gCi l yX8_drifts wsX8_drifts rmX8_drifts G zC [.ref (G.2.1 2), .int p1] σ out σ :=
  gEnter (by decide) rfl ⟨rfl, rfl⟩ hG hT (Nat.le_of_ble_eq_true rfl) rfl (fun M X hl => wX8_drifts_2 X hZ σ p1 hF)
noncomputable def fX9_drift (σ : gS) (p1 : Int32) (p2 : Int32) : Option (Int32) :=
  bd (fX8_exists_2 σ 0 p1) fun r2 => (if r2 = 0 then some ((-1000000000)) else bd (fX9_isAxis σ p2) fun r5 => (if r5 = 0 then some ((-1000000000)) else bd (fX8_drifts_2 σ p1) fun r8 => (if r8 = 0 then some ((-1000000000)) else gd (gb p2 2) <| gd (gb p1 6) <| nm (σ.1 (56 + p2.toNatClampNeg) p1.toNatClampNeg) fun v11 => some v11)))
noncomputable abbrev rmX9_drift : Room := { frames := 1, cells := 0, slots := 0, locals := 22 }
set_option maxRecDepth 100000 in
set_option maxHeartbeats 4000000 in
theorem wX9_drift {M : gM} {G : gG} {out : Int32} (X : gX M G zC cX9_drift RX9 3 wsX9_drift rmX9_drift (some .int)) {ex : gEx} (hZ : ∀ s : State, G.2.2.2 s → kC ex (gA G zC.1) s) (σ : gS) (p1 : Int32) (p2 : Int32) (hF : fX9_drift σ p1 p2 = some out) : WW M (gQi M G zC out σ) G zC 3 σ 0 [(0, .ref (G.2.1 0)), (1, .int p1), (2, .int p2)] [] := by
  unfold fX9_drift at hF
  refine ww_aload_n (pc := 0) X (j := 0) dX9_drift_0 rfl rfl ?_
  refine ww_get (pc := 1) X (ref := "PictureBlock") (T := TX9) (j := 2) dX9_drift_1 inX9_drift_RX9 shzC_0 clzC_9 (by decide) rfl (List.mem_of_getElem? (i := 1) rfl) rfl ?_
  refine ww_iconst (pc := 4) X (v := 0) dX9_drift_4 (by decide) ?_
  refine ww_iload_n (pc := 5) X (j := 1) dX9_drift_5 rfl rfl ?_
  obtain ⟨r2, h1, hF⟩ := bd_some hF
  refine ww_callVi (pc := 6) X (As := [.int 0, .int p1]) (rest := []) dX9_drift_6 (kX8_exists_2 (mL M) G hZ X.2.2.2.2.2.2.1 X.2.2.2.2.2.2.2.1 σ 0 p1 r2 h1) rfl shzC_2 clzC_8 gX9_drift_X8_exists hyX8_exists ⟨rfl, rfl⟩ ⟨Nat.le_of_ble_eq_true rfl, Nat.le_of_ble_eq_true rfl⟩ rfl rfl (Nat.le_of_ble_eq_true rfl) ?_
  refine ww_if_eq (pc := 9) (tgt := 30) X dX9_drift_9 (by decide) hF (fun h3 hF => ?_) (fun h3 hF => ?_)
  · refine ww_ldc (pc := 30) X (v := (-1000000000)) (List.mem_of_getElem? (i := 2) rfl) dX9_drift_30 ?_
    exact ww_iret (pc := 32) X dX9_drift_32 (Option.some.inj hF) rfl
  · refine ww_iload_n (pc := 12) X (j := 2) dX9_drift_12 rfl rfl ?_
    obtain ⟨r5, h4, hF⟩ := bd_some hF
    refine ww_callSi (pc := 13) X (As := [.int p2]) (rest := []) dX9_drift_13 (kX9_isAxis (mL M) G hZ X.2.2.2.2.2.2.1 X.2.2.2.2.2.2.2.1 σ p2 r5 h4) rfl gX9_drift_X9_isAxis hyX9_isAxis ⟨rfl, rfl⟩ ⟨Nat.le_of_ble_eq_true rfl, Nat.le_of_ble_eq_true rfl⟩ rfl rfl (Nat.le_of_ble_eq_true rfl) ?_
    refine ww_if_eq (pc := 16) (tgt := 30) X dX9_drift_16 (by decide) hF (fun h6 hF => ?_) (fun h6 hF => ?_)
    · refine ww_ldc (pc := 30) X (v := (-1000000000)) (List.mem_of_getElem? (i := 2) rfl) dX9_drift_30 ?_
      exact ww_iret (pc := 32) X dX9_drift_32 (Option.some.inj hF) rfl
    · refine ww_aload_n (pc := 19) X (j := 0) dX9_drift_19 rfl rfl ?_
      refine ww_get (pc := 20) X (ref := "PictureBlock") (T := TX9) (j := 2) dX9_drift_20 inX9_drift_RX9 shzC_0 clzC_9 (by decide) rfl (List.mem_of_getElem? (i := 1) rfl) rfl ?_
      refine ww_iload_n (pc := 23) X (j := 1) dX9_drift_23 rfl rfl ?_
      obtain ⟨r8, h7, hF⟩ := bd_some hF
      refine ww_callVi (pc := 24) X (As := [.int p1]) (rest := []) dX9_drift_24 (kX8_drifts_2 (mL M) G hZ X.2.2.2.2.2.2.1 X.2.2.2.2.2.2.2.1 σ p1 r8 h7) rfl shzC_2 clzC_8 gX9_drift_X8_drifts hyX8_drifts ⟨rfl, rfl⟩ ⟨Nat.le_of_ble_eq_true rfl, Nat.le_of_ble_eq_true rfl⟩ rfl rfl (Nat.le_of_ble_eq_true rfl) ?_
      refine ww_if_ne (pc := 27) (tgt := 33) X dX9_drift_27 (by decide) hF (fun h9 hF => ?_) (fun h9 hF => ?_)
      · refine ww_aload_n (pc := 33) X (j := 0) dX9_drift_33 rfl rfl ?_
        refine ww_get (pc := 34) X (ref := "PictureBlock") (T := TX9) (j := 5) dX9_drift_34 inX9_drift_RX9 shzC_0 clzC_9 (by decide) rfl (List.mem_of_getElem? (i := 3) rfl) rfl ?_
        refine ww_get (pc := 37) X (ref := "PictureBlock$Stand") (T := TX5) (j := 5) dX9_drift_37 inX9_drift_RX5 shzC_47 clzC_5 (by decide) rfl (List.mem_of_getElem? (i := 4) rfl) rfl ?_
        refine ww_iload_n (pc := 40) X (j := 2) dX9_drift_40 rfl rfl ?_
        refine ww_aald (pc := 41) X dX9_drift_41 shzC_55 rfl hF (fun h10 hF => ?_)
        refine ww_iload_n (pc := 42) X (j := 1) dX9_drift_42 rfl rfl ?_
        refine ww_iald (pc := 43) X dX9_drift_43 (rwzC_55 _ (gb_lt h10)) rfl hF (fun v11 ev11 bv11 hF => ?_)
        exact ww_iret (pc := 44) X dX9_drift_44 (Option.some.inj hF) rfl
      · refine ww_ldc (pc := 30) X (v := (-1000000000)) (List.mem_of_getElem? (i := 2) rfl) dX9_drift_30 ?_
        exact ww_iret (pc := 32) X dX9_drift_32 (Option.some.inj hF) rfl
set_option maxRecDepth 100000 in
set_option maxHeartbeats 4000000 in
theorem kX9_drift (l : Launch) (G : gG) {ex : gEx} (hZ : ∀ s : State, G.2.2.2 s → kC ex (gA G zC.1) s) (hG : gOK G zC.1) (hT : G.2.2.1.map (fun q => q.2) = zC.2.1) (σ : gS) (p1 : Int32) (p2 : Int32) (out : Int32) (hF : fX9_drift σ p1 p2 = some out) : gCi l yX9_drift wsX9_drift rmX9_drift G zC [.ref (G.2.1 0), .int p1, .int p2] σ out σ :=
  gEnter (by decide) rfl ⟨rfl, rfl⟩ hG hT (Nat.le_of_ble_eq_true rfl) rfl (fun M X hl => wX9_drift X hZ σ p1 p2 hF)
noncomputable def fX9_start (σ : gS) : Option (Int32 × gS) :=
  bd2 (fX6_begin σ) fun r2 σ3 => some (r2, σ3)
noncomputable abbrev rmX9_start : Room := { frames := 5, cells := 0, slots := 0, locals := 129 }
set_option maxRecDepth 100000 in
set_option maxHeartbeats 4000000 in
theorem wX9_start {M : gM} {G : gG} {out : Int32 × gS} (X : gX M G zC cX9_start RX9 1 wsX9_start rmX9_start (some .int)) {ex : gEx} (hZ : ∀ s : State, G.2.2.2 s → kC ex (gA G zC.1) s) (σ : gS) (hF : fX9_start σ = some out) : WW M (gQi M G zC out.1 out.2) G zC 1 σ 0 [(0, .ref (G.2.1 0))] [] := by
  unfold fX9_start at hF
  refine ww_aload_n (pc := 0) X (j := 0) dX9_start_0 rfl rfl ?_
  refine ww_get (pc := 1) X (ref := "PictureBlock") (T := TX9) (j := 8) dX9_start_1 inX9_start_RX9 shzC_0 clzC_9 (by decide) rfl (List.mem_of_getElem? (i := 1) rfl) rfl ?_
  obtain ⟨r2, σ3, h1, hF⟩ := bd2_some hF
  refine ww_callVi (pc := 4) X (As := []) (rest := []) dX9_start_4 (kX6_begin (mL M) G hZ X.2.2.2.2.2.2.1 X.2.2.2.2.2.2.2.1 σ (r2, σ3) h1) rfl shzC_83 clzC_6 gX9_start_X6_begin hyX6_begin ⟨rfl, rfl⟩ ⟨Nat.le_of_ble_eq_true rfl, Nat.le_of_ble_eq_true rfl⟩ rfl rfl (Nat.le_of_ble_eq_true rfl) ?_
  exact ww_iret (pc := 7) X dX9_start_7 (fst_of hF) (snd_of hF)
set_option maxRecDepth 100000 in
set_option maxHeartbeats 4000000 in
theorem kX9_start (l : Launch) (G : gG) {ex : gEx} (hZ : ∀ s : State, G.2.2.2 s → kC ex (gA G zC.1) s) (hG : gOK G zC.1) (hT : G.2.2.1.map (fun q => q.2) = zC.2.1) (σ : gS) (out : Int32 × gS) (hF : fX9_start σ = some out) : gCi l yX9_start wsX9_start rmX9_start G zC [.ref (G.2.1 0)] σ out.1 out.2 :=
  gEnter (by decide) rfl ⟨rfl, rfl⟩ hG hT (Nat.le_of_ble_eq_true rfl) rfl (fun M X hl => wX9_start X hZ σ hF)
noncomputable def bJ7_fill_d0a16_6 (σ : gS) (c6_0 : Nat) (c6_1 : Int64) (c6_4 : Int32) (rec6 : Int32 → gS → Option (gS)) (a3 : Int32) (σ1 : gS) : Option (gS) :=
  if c6_4 ≤ a3 then some σ1 else gd (gb a3 (gsz zC.1 1 2 c6_0)) <| nm (gsL σ1 c6_0 a3.toNatClampNeg c6_1) fun σ5 => nm (a3 + 1 : Int32) fun x6 => rec6 x6 σ5
noncomputable def fJ7_fill_d0a16 (σ : gS) (p0 : Nat) (p1 : Int64) : Option (gS) :=
  nm (0 : Int32) fun x1 => gd (gis zC.1 1 2 p0) <| nm (Int32.ofNat (gsz zC.1 1 2 p0) : Int32) fun x3 => lpc (S := Int32 × gS) K9 (fun rec s => bJ7_fill_d0a16_6 σ p0 p1 x3 (fun a3 σ1 => rec (a3, σ1)) s.1 s.2) (x1, σ)
noncomputable abbrev rmJ7_fill_d0a16 : Room := { frames := 0, cells := 0, slots := 0, locals := 0 }
set_option maxRecDepth 100000 in
set_option maxHeartbeats 4000000 in
theorem wbJ7_fill_d0a16_6 {M : gM} {G : gG} {out : gS} (X : gX M G zC cJ7_fill_d0a16 RJ7 5 wsJ7_fill_d0a16 rmJ7_fill_d0a16 none) {ex : gEx} (hZ : ∀ s : State, G.2.2.2 s → kC ex (gA G zC.1) s) (σ : gS) (c6_0 : Nat) (c6_1 : Int64) (c6_4 : Int32) (rec6 : Int32 → gS → Option (gS)) (ih6 : ∀ (a3 : Int32) (σ1 : gS), rec6 a3 σ1 = some out → WW M (gQv M G zC out) G zC 5 σ1 6 [(0, .ref (G.2.1 c6_0)), (1, .long c6_1), (3, .int a3), (4, .int c6_4)] []) (a3 : Int32) (σ1 : gS) (hF : bJ7_fill_d0a16_6 σ c6_0 c6_1 c6_4 rec6 a3 σ1 = some out) : WW M (gQv M G zC out) G zC 5 σ1 6 [(0, .ref (G.2.1 c6_0)), (1, .long c6_1), (3, .int a3), (4, .int c6_4)] [] := by
  unfold bJ7_fill_d0a16_6 at hF
  refine ww_iload_n (pc := 6) X (j := 2) dJ7_fill_d0a16_6 rfl rfl ?_
  refine ww_iload (pc := 7) X (j := 3) dJ7_fill_d0a16_7 rfl ?_
  refine ww_icmp_ge (pc := 9) (tgt := 22) X dJ7_fill_d0a16_9 (by decide) hF (fun h4 hF => ?_) (fun h4 hF => ?_)
  · exact ww_vret (pc := 22) X dJ7_fill_d0a16_22 (by cases hF; rfl)
  · refine ww_aload_n (pc := 12) X (j := 0) dJ7_fill_d0a16_12 rfl rfl ?_
    refine ww_iload_n (pc := 13) X (j := 2) dJ7_fill_d0a16_13 rfl rfl ?_
    refine ww_lload_n (pc := 14) X (j := 1) dJ7_fill_d0a16_14 rfl rfl ?_
    refine ww_lastS (pc := 15) X dJ7_fill_d0a16_15  (t := 2) rfl hF (fun σ5 eσ5 bσ5 hF => ?_)
    refine ww_iinc (pc := 16) X (j := 2) (v := 1) (lv' := [(0, .ref (G.2.1 c6_0)), (1, .long c6_1), (4, .int c6_4)]) dJ7_fill_d0a16_16 rfl rfl (by decide) rfl hF (fun x6 ex6 hF => ?_)
    refine ww_goto (pc := 19) X (tgt := 6) dJ7_fill_d0a16_19 (by decide) ?_
    exact ww_sub [1, 2, 0, 3] rfl (ih6 x6 σ5 hF)
set_option maxRecDepth 100000 in
set_option maxHeartbeats 4000000 in
theorem wJ7_fill_d0a16 {M : gM} {G : gG} {out : gS} (X : gX M G zC cJ7_fill_d0a16 RJ7 5 wsJ7_fill_d0a16 rmJ7_fill_d0a16 none) {ex : gEx} (hZ : ∀ s : State, G.2.2.2 s → kC ex (gA G zC.1) s) (σ : gS) (p0 : Nat) (p1 : Int64) (hF : fJ7_fill_d0a16 σ p0 p1 = some out) : WW M (gQv M G zC out) G zC 5 σ 0 [(0, .ref (G.2.1 p0)), (1, .long p1)] [] := by
  unfold fJ7_fill_d0a16 at hF
  refine ww_iconst (pc := 0) X (v := 0) dJ7_fill_d0a16_0 (by decide) ?_
  refine ww_istore_n (pc := 1) X (lv' := [(0, .ref (G.2.1 p0)), (1, .long p1)]) dJ7_fill_d0a16_1 rfl (by decide) rfl hF (fun x1 ex1 hF => ?_)
  refine ww_aload_n (pc := 2) X (j := 1) dJ7_fill_d0a16_2 rfl rfl ?_
  refine ww_alenS (pc := 3) X (by decide) dJ7_fill_d0a16_3 (t := 2) rfl hF (fun h2 hF => ?_)
  refine ww_istore (pc := 4) X (lv' := [(3, .int x1), (0, .ref (G.2.1 p0)), (1, .long p1)]) dJ7_fill_d0a16_4 (by decide) rfl hF (fun x3 ex3 hF => ?_)
  exact ww_sub [2, 3, 1, 0] rfl (lpc_ind (P := (fun (s : Int32 × gS) => WW M (gQv M G zC out) G zC 5 s.2 6 [(0, .ref (G.2.1 p0)), (1, .long p1), (3, .int s.1), (4, .int x3)] [])) (fun rec s ih hF => wbJ7_fill_d0a16_6 X hZ σ p0 p1 x3 (fun a3 σ1 => rec (a3, σ1)) (fun a3 σ1 h => ih (a3, σ1) h) s.1 s.2 hF) K9 (x1, σ) hF)
set_option maxRecDepth 100000 in
set_option maxHeartbeats 4000000 in
theorem kJ7_fill_d0a16 (l : Launch) (G : gG) {ex : gEx} (hZ : ∀ s : State, G.2.2.2 s → kC ex (gA G zC.1) s) (hG : gOK G zC.1) (hT : G.2.2.1.map (fun q => q.2) = zC.2.1) (σ : gS) (p0 : Nat) (p1 : Int64) (out : gS) (hF : fJ7_fill_d0a16 σ p0 p1 = some out) : gCv l yJ7_fill_d0a16 wsJ7_fill_d0a16 rmJ7_fill_d0a16 G zC [.ref (G.2.1 p0), .long p1] σ out :=
  gEnter (by decide) rfl ⟨rfl, rfl⟩ hG hT (Nat.le_of_ble_eq_true rfl) rfl (fun M X hl => wJ7_fill_d0a16 X hZ σ p0 p1 hF)
noncomputable def fX1_clearPulls (σ : gS) : Option (gS) :=
  bd (fJ7_fill_d0a16 σ 91 0) fun σ2 => bd (fJ7_fill_d0a16 σ2 92 0) fun σ4 => some σ4
noncomputable abbrev rmX1_clearPulls : Room := { frames := 1, cells := 0, slots := 0, locals := 24 }
set_option maxRecDepth 100000 in
set_option maxHeartbeats 4000000 in
theorem wX1_clearPulls {M : gM} {G : gG} {out : gS} (X : gX M G zC cX1_clearPulls RX1 1 wsX1_clearPulls rmX1_clearPulls none) {ex : gEx} (hZ : ∀ s : State, G.2.2.2 s → kC ex (gA G zC.1) s) (σ : gS) (hF : fX1_clearPulls σ = some out) : WW M (gQv M G zC out) G zC 1 σ 0 [(0, .ref (G.2.1 90))] [] := by
  unfold fX1_clearPulls at hF
  refine ww_aload_n (pc := 0) X (j := 0) dX1_clearPulls_0 rfl rfl ?_
  refine ww_get (pc := 1) X (ref := "PictureBlock$Mover") (T := TX1) (j := 2) dX1_clearPulls_1 inX1_clearPulls_RX1 shzC_90 clzC_1 (by decide) rfl (List.mem_of_getElem? (i := 1) rfl) rfl ?_
  refine ww_lconst (pc := 4) X (v := 0) dX1_clearPulls_4 (by decide) ?_
  obtain ⟨σ2, h1, hF⟩ := bd_some hF
  refine ww_callSv (pc := 5) X (As := [.ref (G.2.1 91), .long 0]) (rest := []) dX1_clearPulls_5 (kJ7_fill_d0a16 (mL M) G hZ X.2.2.2.2.2.2.1 X.2.2.2.2.2.2.2.1 σ 91 0 σ2 h1) rfl gX1_clearPulls_J7_fill_d0a16 hyJ7_fill_d0a16 ⟨rfl, rfl⟩ ⟨Nat.le_of_ble_eq_true rfl, Nat.le_of_ble_eq_true rfl⟩ rfl rfl (Nat.le_of_ble_eq_true rfl) ?_
  refine ww_aload_n (pc := 8) X (j := 0) dX1_clearPulls_8 rfl rfl ?_
  refine ww_get (pc := 9) X (ref := "PictureBlock$Mover") (T := TX1) (j := 3) dX1_clearPulls_9 inX1_clearPulls_RX1 shzC_90 clzC_1 (by decide) rfl (List.mem_of_getElem? (i := 2) rfl) rfl ?_
  refine ww_lconst (pc := 12) X (v := 0) dX1_clearPulls_12 (by decide) ?_
  obtain ⟨σ4, h3, hF⟩ := bd_some hF
  refine ww_callSv (pc := 13) X (As := [.ref (G.2.1 92), .long 0]) (rest := []) dX1_clearPulls_13 (kJ7_fill_d0a16 (mL M) G hZ X.2.2.2.2.2.2.1 X.2.2.2.2.2.2.2.1 σ2 92 0 σ4 h3) rfl gX1_clearPulls_J7_fill_d0a16 hyJ7_fill_d0a16 ⟨rfl, rfl⟩ ⟨Nat.le_of_ble_eq_true rfl, Nat.le_of_ble_eq_true rfl⟩ rfl rfl (Nat.le_of_ble_eq_true rfl) ?_
  exact ww_vret (pc := 16) X dX1_clearPulls_16 (by cases hF; rfl)
set_option maxRecDepth 100000 in
set_option maxHeartbeats 4000000 in
theorem kX1_clearPulls (l : Launch) (G : gG) {ex : gEx} (hZ : ∀ s : State, G.2.2.2 s → kC ex (gA G zC.1) s) (hG : gOK G zC.1) (hT : G.2.2.1.map (fun q => q.2) = zC.2.1) (σ : gS) (out : gS) (hF : fX1_clearPulls σ = some out) : gCv l yX1_clearPulls wsX1_clearPulls rmX1_clearPulls G zC [.ref (G.2.1 90)] σ out :=
  gEnter (by decide) rfl ⟨rfl, rfl⟩ hG hT (Nat.le_of_ble_eq_true rfl) rfl (fun M X hl => wX1_clearPulls X hZ σ hF)
noncomputable def fJ9_floorDiv_f86c9 (σ : gS) (p0 : Int64) (p2 : Int64) : Option (Int64) :=
  gd (decide (¬ p2 = 0)) <| nm (p0 / p2 : Int64) fun x2 => (if 0 ≤ (p0 ^^^ p2) then some x2 else if (x2 * p2) = p0 then some x2 else some (x2 - 1))
noncomputable abbrev rmJ9_floorDiv_f86c9 : Room := { frames := 0, cells := 0, slots := 0, locals := 0 }
set_option maxRecDepth 100000 in
set_option maxHeartbeats 4000000 in
theorem wJ9_floorDiv_f86c9 {M : gM} {G : gG} {out : Int64} (X : gX M G zC cJ9_floorDiv_f86c9 RJ9 6 wsJ9_floorDiv_f86c9 rmJ9_floorDiv_f86c9 (some .long)) {ex : gEx} (hZ : ∀ s : State, G.2.2.2 s → kC ex (gA G zC.1) s) (σ : gS) (p0 : Int64) (p2 : Int64) (hF : fJ9_floorDiv_f86c9 σ p0 p2 = some out) : WW M (gQl M G zC out σ) G zC 6 σ 0 [(0, .long p0), (2, .long p2)] [] := by
  unfold fJ9_floorDiv_f86c9 at hF
  refine ww_lload_n (pc := 0) X (j := 0) dJ9_floorDiv_f86c9_0 rfl rfl ?_
  refine ww_lload_n (pc := 1) X (j := 1) dJ9_floorDiv_f86c9_1 rfl rfl ?_
  refine ww_ldivG (pc := 2) X dJ9_floorDiv_f86c9_2 hF (fun h1 hF => ?_)
  refine ww_lstore (pc := 3) X (lv' := [(0, .long p0), (2, .long p2)]) dJ9_floorDiv_f86c9_3 (by decide) rfl hF (fun x2 ex2 hF => ?_)
  refine ww_lload_n (pc := 5) X (j := 1) dJ9_floorDiv_f86c9_5 rfl rfl ?_
  refine ww_lload_n (pc := 6) X (j := 2) dJ9_floorDiv_f86c9_6 rfl rfl ?_
  refine ww_lxor (pc := 7) X dJ9_floorDiv_f86c9_7 ?_
  refine ww_lconst (pc := 8) X (v := 0) dJ9_floorDiv_f86c9_8 (by decide) ?_
  refine ww_lcmp_ge (pc := 9) (tgt := 27) X dJ9_floorDiv_f86c9_9 dJ9_floorDiv_f86c9_10 (by decide) hF (fun h3 hF => ?_) (fun h3 hF => ?_)
  · refine ww_lload (pc := 27) X (j := 0) dJ9_floorDiv_f86c9_27 rfl ?_
    exact ww_lret (pc := 29) X dJ9_floorDiv_f86c9_29 (Option.some.inj hF) rfl
  · refine ww_lload (pc := 13) X (j := 0) dJ9_floorDiv_f86c9_13 rfl ?_
    refine ww_lload_n (pc := 15) X (j := 2) dJ9_floorDiv_f86c9_15 rfl rfl ?_
    refine ww_lmul (pc := 16) X dJ9_floorDiv_f86c9_16 ?_
    refine ww_lload_n (pc := 17) X (j := 1) dJ9_floorDiv_f86c9_17 rfl rfl ?_
    refine ww_lcmp_eq (pc := 18) (tgt := 27) X dJ9_floorDiv_f86c9_18 dJ9_floorDiv_f86c9_19 (by decide) hF (fun h4 hF => ?_) (fun h4 hF => ?_)
    · refine ww_lload (pc := 27) X (j := 0) dJ9_floorDiv_f86c9_27 rfl ?_
      exact ww_lret (pc := 29) X dJ9_floorDiv_f86c9_29 (Option.some.inj hF) rfl
    · refine ww_lload (pc := 22) X (j := 0) dJ9_floorDiv_f86c9_22 rfl ?_
      refine ww_lconst (pc := 24) X (v := 1) dJ9_floorDiv_f86c9_24 (by decide) ?_
      refine ww_lsub (pc := 25) X dJ9_floorDiv_f86c9_25 ?_
      exact ww_lret (pc := 26) X dJ9_floorDiv_f86c9_26 (Option.some.inj hF) rfl
set_option maxRecDepth 100000 in
set_option maxHeartbeats 4000000 in
theorem kJ9_floorDiv_f86c9 (l : Launch) (G : gG) {ex : gEx} (hZ : ∀ s : State, G.2.2.2 s → kC ex (gA G zC.1) s) (hG : gOK G zC.1) (hT : G.2.2.1.map (fun q => q.2) = zC.2.1) (σ : gS) (p0 : Int64) (p2 : Int64) (out : Int64) (hF : fJ9_floorDiv_f86c9 σ p0 p2 = some out) : gCl l yJ9_floorDiv_f86c9 wsJ9_floorDiv_f86c9 rmJ9_floorDiv_f86c9 G zC [.long p0, .long p2] σ out σ :=
  gEnterF (by decide +kernel) rfl ⟨rfl, rfl⟩ hG hT (Nat.le_of_ble_eq_true rfl) rfl (fun M X hl => wJ9_floorDiv_f86c9 X hZ σ p0 p2 hF)
noncomputable def jX1_moveEach_98 (σ : gS) (c5_1 : Nat) (c5_2 : Int32) (rec5 : Int32 → Int32 → gS → Option (Int32 × gS)) (a3 : Int32) (a4 : Int32) (a7 : Int64) : Option (Int32 × gS) :=
  gd (gb a4 (gsz zC.1 0 0 c5_1)) <| nm (σ.1 c5_1 a4.toNatClampNeg) fun v15 => (if a7 = v15.toInt64 then nm (a4 + 1 : Int32) fun x20 => rec5 a3 x20 σ else gd (gb a4 (gsz zC.1 0 0 c5_1)) <| nm (gsI σ c5_1 a4.toNatClampNeg a7.toInt32) fun σ17 => nm (1 : Int32) fun x18 => nm (a4 + 1 : Int32) fun x19 => rec5 x18 x19 σ17)
noncomputable def bX1_moveEach_5 (σ : gS) (c5_1 : Nat) (c5_2 : Int32) (rec5 : Int32 → Int32 → gS → Option (Int32 × gS)) (a3 : Int32) (a4 : Int32) (σ1 : gS) : Option (Int32 × gS) :=
  if c5_2 ≤ a4 then some (vp_nar .boolean a3, σ1) else gd (gb a4 20) <| nm (σ1.2 91 a4.toNatClampNeg) fun v4 => nm (v4 : Int64) fun x5 => (if 0 < x5 then gd (gb a4 20) <| nm (σ1.2 92 a4.toNatClampNeg) fun v7 => bd (fJ9_floorDiv_f86c9 σ1 v7 x5) fun r9 => nm (r9 : Int64) fun x10 => gd (gb a4 20) <| nm (σ1.2 92 a4.toNatClampNeg) fun v11 => nm (2 * (v11 - (x10 * x5)) : Int64) fun x12 => (if x5 < x12 then nm (x10 + 1 : Int64) fun x14 => jX1_moveEach_98 σ1 c5_1 c5_2 rec5 a3 a4 x14 else if x12 = x5 then gd (gb a4 (gsz zC.1 0 0 c5_1)) <| nm (σ1.1 c5_1 a4.toNatClampNeg) fun v22 => (if v22.toInt64 = (x10 + 1) then nm (x10 + 1 : Int64) fun x24 => jX1_moveEach_98 σ1 c5_1 c5_2 rec5 a3 a4 x24 else jX1_moveEach_98 σ1 c5_1 c5_2 rec5 a3 a4 x10) else jX1_moveEach_98 σ1 c5_1 c5_2 rec5 a3 a4 x10) else nm (a4 + 1 : Int32) fun x25 => rec5 a3 x25 σ1)
noncomputable def fX1_moveEach (σ : gS) (p1 : Nat) (p2 : Int32) : Option (Int32 × gS) :=
  nm (0 : Int32) fun x1 => nm (0 : Int32) fun x2 => lpc (S := Int32 × Int32 × gS) K9 (fun rec s => bX1_moveEach_5 σ p1 p2 (fun a3 a4 σ1 => rec (a3, a4, σ1)) s.1 s.2.1 s.2.2) (x1, x2, σ)
noncomputable abbrev rmX1_moveEach : Room := { frames := 1, cells := 0, slots := 0, locals := 25 }
set_option maxRecDepth 100000 in
set_option maxHeartbeats 4000000 in
theorem wjX1_moveEach_98 {M : gM} {G : gG} {out : Int32 × gS} (X : gX M G zC cX1_moveEach RX1 11 wsX1_moveEach rmX1_moveEach (some .boolean)) {ex : gEx} (hZ : ∀ s : State, G.2.2.2 s → kC ex (gA G zC.1) s) (σ : gS) (c5_1 : Nat) (c5_2 : Int32) (rec5 : Int32 → Int32 → gS → Option (Int32 × gS)) (ih5 : ∀ (a3 : Int32) (a4 : Int32) (σ1 : gS), rec5 a3 a4 σ1 = some out → WW M (gQi M G zC out.1 out.2) G zC 11 σ1 5 [(0, .ref (G.2.1 90)), (1, .ref (G.2.1 c5_1)), (2, .int c5_2), (3, .int a3), (4, .int a4)] []) (a3 : Int32) (a4 : Int32) (a7 : Int64) (hF : jX1_moveEach_98 σ c5_1 c5_2 rec5 a3 a4 a7 = some out) : WW M (gQi M G zC out.1 out.2) G zC 11 σ 98 [(0, .ref (G.2.1 90)), (1, .ref (G.2.1 c5_1)), (2, .int c5_2), (3, .int a3), (4, .int a4), (7, .long a7)] [] := by
  unfold jX1_moveEach_98 at hF
  refine ww_lload (pc := 98) X (j := 5) dX1_moveEach_98 rfl ?_
  refine ww_aload_n (pc := 100) X (j := 1) dX1_moveEach_100 rfl rfl ?_
  refine ww_iload (pc := 101) X (j := 4) dX1_moveEach_101 rfl ?_
  refine ww_ialdS (pc := 103) X dX1_moveEach_103  (t := 0) rfl hF (fun v15 ev15 bv15 hF => ?_)
  refine ww_i2l (pc := 104) X dX1_moveEach_104 ?_
  refine ww_lcmp_ne (pc := 105) (tgt := 112) X dX1_moveEach_105 dX1_moveEach_106 (by decide) hF (fun h16 hF => ?_) (fun h16 hF => ?_)
  · refine ww_aload_n (pc := 112) X (j := 1) dX1_moveEach_112 rfl rfl ?_
    refine ww_iload (pc := 113) X (j := 4) dX1_moveEach_113 rfl ?_
    refine ww_lload (pc := 115) X (j := 5) dX1_moveEach_115 rfl ?_
    refine ww_l2i (pc := 117) X dX1_moveEach_117 ?_
    refine ww_iastS (pc := 118) X dX1_moveEach_118  (t := 0) rfl hF (fun σ17 eσ17 bσ17 hF => ?_)
    refine ww_iconst (pc := 119) X (v := 1) dX1_moveEach_119 (by decide) ?_
    refine ww_istore_n (pc := 120) X (lv' := [(0, .ref (G.2.1 90)), (1, .ref (G.2.1 c5_1)), (2, .int c5_2), (4, .int a4), (7, .long a7)]) dX1_moveEach_120 rfl (by decide) rfl hF (fun x18 ex18 hF => ?_)
    refine ww_iinc (pc := 121) X (j := 4) (v := 1) (lv' := [(3, .int x18), (0, .ref (G.2.1 90)), (1, .ref (G.2.1 c5_1)), (2, .int c5_2), (7, .long a7)]) dX1_moveEach_121 rfl rfl (by decide) rfl hF (fun x19 ex19 hF => ?_)
    refine ww_goto (pc := 124) X (tgt := 5) dX1_moveEach_124 (by decide) ?_
    exact ww_sub [2, 3, 4, 1, 0] rfl (ih5 x18 x19 σ17 hF)
  · refine ww_goto (pc := 109) X (tgt := 121) dX1_moveEach_109 (by decide) ?_
    refine ww_iinc (pc := 121) X (j := 4) (v := 1) (lv' := [(0, .ref (G.2.1 90)), (1, .ref (G.2.1 c5_1)), (2, .int c5_2), (3, .int a3), (7, .long a7)]) dX1_moveEach_121 rfl rfl (by decide) rfl hF (fun x20 ex20 hF => ?_)
    refine ww_goto (pc := 124) X (tgt := 5) dX1_moveEach_124 (by decide) ?_
    exact ww_sub [1, 2, 3, 4, 0] rfl (ih5 a3 x20 σ hF)
set_option maxRecDepth 100000 in
set_option maxHeartbeats 4000000 in
theorem wbX1_moveEach_5 {M : gM} {G : gG} {out : Int32 × gS} (X : gX M G zC cX1_moveEach RX1 11 wsX1_moveEach rmX1_moveEach (some .boolean)) {ex : gEx} (hZ : ∀ s : State, G.2.2.2 s → kC ex (gA G zC.1) s) (σ : gS) (c5_1 : Nat) (c5_2 : Int32) (rec5 : Int32 → Int32 → gS → Option (Int32 × gS)) (ih5 : ∀ (a3 : Int32) (a4 : Int32) (σ1 : gS), rec5 a3 a4 σ1 = some out → WW M (gQi M G zC out.1 out.2) G zC 11 σ1 5 [(0, .ref (G.2.1 90)), (1, .ref (G.2.1 c5_1)), (2, .int c5_2), (3, .int a3), (4, .int a4)] []) (a3 : Int32) (a4 : Int32) (σ1 : gS) (hF : bX1_moveEach_5 σ c5_1 c5_2 rec5 a3 a4 σ1 = some out) : WW M (gQi M G zC out.1 out.2) G zC 11 σ1 5 [(0, .ref (G.2.1 90)), (1, .ref (G.2.1 c5_1)), (2, .int c5_2), (3, .int a3), (4, .int a4)] [] := by
  unfold bX1_moveEach_5 at hF
  refine ww_iload (pc := 5) X (j := 4) dX1_moveEach_5 rfl ?_
  refine ww_iload_n (pc := 7) X (j := 2) dX1_moveEach_7 rfl rfl ?_
  refine ww_icmp_ge (pc := 8) (tgt := 127) X dX1_moveEach_8 (by decide) hF (fun h3 hF => ?_) (fun h3 hF => ?_)
  · refine ww_iload_n (pc := 127) X (j := 3) dX1_moveEach_127 rfl rfl ?_
    exact ww_zret (pc := 128) X dX1_moveEach_128 (by cases hF; rfl) (by cases hF; rfl)
  · refine ww_aload_n (pc := 11) X (j := 0) dX1_moveEach_11 rfl rfl ?_
    refine ww_get (pc := 12) X (ref := "PictureBlock$Mover") (T := TX1) (j := 2) dX1_moveEach_12 inX1_moveEach_RX1 shzC_90 clzC_1 (by decide) rfl (List.mem_of_getElem? (i := 1) rfl) rfl ?_
    refine ww_iload (pc := 15) X (j := 4) dX1_moveEach_15 rfl ?_
    refine ww_lald (pc := 17) X dX1_moveEach_17 shzC_91 rfl hF (fun v4 ev4 bv4 hF => ?_)
    refine ww_lstore (pc := 18) X (lv' := [(0, .ref (G.2.1 90)), (1, .ref (G.2.1 c5_1)), (2, .int c5_2), (3, .int a3), (4, .int a4)]) dX1_moveEach_18 (by decide) rfl hF (fun x5 ex5 hF => ?_)
    refine ww_lload (pc := 20) X (j := 0) dX1_moveEach_20 rfl ?_
    refine ww_lconst (pc := 22) X (v := 0) dX1_moveEach_22 (by decide) ?_
    refine ww_lcmp_gt (pc := 23) (tgt := 30) X dX1_moveEach_23 dX1_moveEach_24 (by decide) hF (fun h6 hF => ?_) (fun h6 hF => ?_)
    · refine ww_aload_n (pc := 30) X (j := 1) dX1_moveEach_30 rfl rfl ?_
      refine ww_get (pc := 31) X (ref := "PictureBlock$Mover") (T := TX1) (j := 3) dX1_moveEach_31 inX1_moveEach_RX1 shzC_90 clzC_1 (by decide) rfl (List.mem_of_getElem? (i := 2) rfl) rfl ?_
      refine ww_iload (pc := 34) X (j := 5) dX1_moveEach_34 rfl ?_
      refine ww_lald (pc := 36) X dX1_moveEach_36 shzC_92 rfl hF (fun v7 ev7 bv7 hF => ?_)
      refine ww_lload (pc := 37) X (j := 0) dX1_moveEach_37 rfl ?_
      obtain ⟨r9, h8, hF⟩ := bd_some hF
      refine ww_callSl (pc := 39) X (As := [.long v7, .long x5]) (rest := []) dX1_moveEach_39 (kJ9_floorDiv_f86c9 (mL M) G hZ X.2.2.2.2.2.2.1 X.2.2.2.2.2.2.2.1 σ1 v7 x5 r9 h8) rfl gX1_moveEach_J9_floorDiv_f86c9 hyJ9_floorDiv_f86c9 ⟨rfl, rfl⟩ ⟨Nat.le_of_ble_eq_true rfl, Nat.le_of_ble_eq_true rfl⟩ rfl rfl (Nat.le_of_ble_eq_true rfl) ?_
      refine ww_lstore (pc := 42) X (lv' := [(5, .long x5), (0, .ref (G.2.1 90)), (1, .ref (G.2.1 c5_1)), (2, .int c5_2), (3, .int a3), (4, .int a4)]) dX1_moveEach_42 (by decide) rfl hF (fun x10 ex10 hF => ?_)
      refine ww_ldc2 (pc := 44) X (v := 2) (List.mem_of_getElem? (i := 3) rfl) dX1_moveEach_44 ?_
      refine ww_aload_n (pc := 47) X (j := 2) dX1_moveEach_47 rfl rfl ?_
      refine ww_get (pc := 48) X (ref := "PictureBlock$Mover") (T := TX1) (j := 3) dX1_moveEach_48 inX1_moveEach_RX1 shzC_90 clzC_1 (by decide) rfl (List.mem_of_getElem? (i := 2) rfl) rfl ?_
      refine ww_iload (pc := 51) X (j := 6) dX1_moveEach_51 rfl ?_
      refine ww_lald (pc := 53) X dX1_moveEach_53 shzC_92 rfl hF (fun v11 ev11 bv11 hF => ?_)
      refine ww_lload (pc := 54) X (j := 0) dX1_moveEach_54 rfl ?_
      refine ww_lload (pc := 56) X (j := 1) dX1_moveEach_56 rfl ?_
      refine ww_lmul (pc := 58) X dX1_moveEach_58 ?_
      refine ww_lsub (pc := 59) X dX1_moveEach_59 ?_
      refine ww_lmul (pc := 60) X dX1_moveEach_60 ?_
      refine ww_lstore (pc := 61) X (lv' := [(7, .long x10), (5, .long x5), (0, .ref (G.2.1 90)), (1, .ref (G.2.1 c5_1)), (2, .int c5_2), (3, .int a3), (4, .int a4)]) dX1_moveEach_61 (by decide) rfl hF (fun x12 ex12 hF => ?_)
      refine ww_lload (pc := 63) X (j := 0) dX1_moveEach_63 rfl ?_
      refine ww_lload (pc := 65) X (j := 2) dX1_moveEach_65 rfl ?_
      refine ww_lcmp_gt (pc := 67) (tgt := 92) X dX1_moveEach_67 dX1_moveEach_68 (by decide) hF (fun h13 hF => ?_) (fun h13 hF => ?_)
      · refine ww_lload (pc := 92) X (j := 1) dX1_moveEach_92 rfl ?_
        refine ww_lconst (pc := 94) X (v := 1) dX1_moveEach_94 (by decide) ?_
        refine ww_ladd (pc := 95) X dX1_moveEach_95 ?_
        refine ww_lstore (pc := 96) X (lv' := [(9, .long x12), (5, .long x5), (0, .ref (G.2.1 90)), (1, .ref (G.2.1 c5_1)), (2, .int c5_2), (3, .int a3), (4, .int a4)]) dX1_moveEach_96 (by decide) rfl hF (fun x14 ex14 hF => ?_)
        exact ww_sub [3, 4, 5, 6, 7, 0] rfl (wjX1_moveEach_98 X hZ σ1 c5_1 c5_2 rec5 ih5 a3 a4 x14 hF)
      · refine ww_lload (pc := 71) X (j := 0) dX1_moveEach_71 rfl ?_
        refine ww_lload (pc := 73) X (j := 2) dX1_moveEach_73 rfl ?_
        refine ww_lcmp_ne (pc := 75) (tgt := 98) X dX1_moveEach_75 dX1_moveEach_76 (by decide) hF (fun h21 hF => ?_) (fun h21 hF => ?_)
        · exact ww_sub [3, 4, 5, 6, 7, 1] rfl (wjX1_moveEach_98 X hZ σ1 c5_1 c5_2 rec5 ih5 a3 a4 x10 hF)
        · refine ww_aload_n (pc := 79) X (j := 4) dX1_moveEach_79 rfl rfl ?_
          refine ww_iload (pc := 80) X (j := 7) dX1_moveEach_80 rfl ?_
          refine ww_ialdS (pc := 82) X dX1_moveEach_82  (t := 0) rfl hF (fun v22 ev22 bv22 hF => ?_)
          refine ww_i2l (pc := 83) X dX1_moveEach_83 ?_
          refine ww_lload (pc := 84) X (j := 1) dX1_moveEach_84 rfl ?_
          refine ww_lconst (pc := 86) X (v := 1) dX1_moveEach_86 (by decide) ?_
          refine ww_ladd (pc := 87) X dX1_moveEach_87 ?_
          refine ww_lcmp_ne (pc := 88) (tgt := 98) X dX1_moveEach_88 dX1_moveEach_89 (by decide) hF (fun h23 hF => ?_) (fun h23 hF => ?_)
          · exact ww_sub [3, 4, 5, 6, 7, 1] rfl (wjX1_moveEach_98 X hZ σ1 c5_1 c5_2 rec5 ih5 a3 a4 x10 hF)
          · refine ww_lload (pc := 92) X (j := 1) dX1_moveEach_92 rfl ?_
            refine ww_lconst (pc := 94) X (v := 1) dX1_moveEach_94 (by decide) ?_
            refine ww_ladd (pc := 95) X dX1_moveEach_95 ?_
            refine ww_lstore (pc := 96) X (lv' := [(9, .long x12), (5, .long x5), (0, .ref (G.2.1 90)), (1, .ref (G.2.1 c5_1)), (2, .int c5_2), (3, .int a3), (4, .int a4)]) dX1_moveEach_96 (by decide) rfl hF (fun x24 ex24 hF => ?_)
            exact ww_sub [3, 4, 5, 6, 7, 0] rfl (wjX1_moveEach_98 X hZ σ1 c5_1 c5_2 rec5 ih5 a3 a4 x24 hF)
    · refine ww_goto (pc := 27) X (tgt := 121) dX1_moveEach_27 (by decide) ?_
      refine ww_iinc (pc := 121) X (j := 5) (v := 1) (lv' := [(5, .long x5), (0, .ref (G.2.1 90)), (1, .ref (G.2.1 c5_1)), (2, .int c5_2), (3, .int a3)]) dX1_moveEach_121 rfl rfl (by decide) rfl hF (fun x25 ex25 hF => ?_)
      refine ww_goto (pc := 124) X (tgt := 5) dX1_moveEach_124 (by decide) ?_
      exact ww_sub [2, 3, 4, 5, 0] rfl (ih5 a3 x25 σ1 hF)
set_option maxRecDepth 100000 in
set_option maxHeartbeats 4000000 in
theorem wX1_moveEach {M : gM} {G : gG} {out : Int32 × gS} (X : gX M G zC cX1_moveEach RX1 11 wsX1_moveEach rmX1_moveEach (some .boolean)) {ex : gEx} (hZ : ∀ s : State, G.2.2.2 s → kC ex (gA G zC.1) s) (σ : gS) (p1 : Nat) (p2 : Int32) (hF : fX1_moveEach σ p1 p2 = some out) : WW M (gQi M G zC out.1 out.2) G zC 11 σ 0 [(0, .ref (G.2.1 90)), (1, .ref (G.2.1 p1)), (2, .int p2)] [] := by
  unfold fX1_moveEach at hF
  refine ww_iconst (pc := 0) X (v := 0) dX1_moveEach_0 (by decide) ?_
  refine ww_istore_n (pc := 1) X (lv' := [(0, .ref (G.2.1 90)), (1, .ref (G.2.1 p1)), (2, .int p2)]) dX1_moveEach_1 rfl (by decide) rfl hF (fun x1 ex1 hF => ?_)
  refine ww_iconst (pc := 2) X (v := 0) dX1_moveEach_2 (by decide) ?_
  refine ww_istore (pc := 3) X (lv' := [(3, .int x1), (0, .ref (G.2.1 90)), (1, .ref (G.2.1 p1)), (2, .int p2)]) dX1_moveEach_3 (by decide) rfl hF (fun x2 ex2 hF => ?_)
  exact ww_sub [2, 3, 4, 1, 0] rfl (lpc_ind (P := (fun (s : Int32 × Int32 × gS) => WW M (gQi M G zC out.1 out.2) G zC 11 s.2.2 5 [(0, .ref (G.2.1 90)), (1, .ref (G.2.1 p1)), (2, .int p2), (3, .int s.1), (4, .int s.2.1)] [])) (fun rec s ih hF => wbX1_moveEach_5 X hZ σ p1 p2 (fun a3 a4 σ1 => rec (a3, a4, σ1)) (fun a3 a4 σ1 h => ih (a3, a4, σ1) h) s.1 s.2.1 s.2.2 hF) K9 (x1, x2, σ) hF)
set_option maxRecDepth 100000 in
set_option maxHeartbeats 4000000 in
theorem kX1_moveEach (l : Launch) (G : gG) {ex : gEx} (hZ : ∀ s : State, G.2.2.2 s → kC ex (gA G zC.1) s) (hG : gOK G zC.1) (hT : G.2.2.1.map (fun q => q.2) = zC.2.1) (σ : gS) (p1 : Nat) (p2 : Int32) (out : Int32 × gS) (hF : fX1_moveEach σ p1 p2 = some out) : gCi l yX1_moveEach wsX1_moveEach rmX1_moveEach G zC [.ref (G.2.1 90), .ref (G.2.1 p1), .int p2] σ out.1 out.2 :=
  gEnter (by decide) rfl ⟨rfl, rfl⟩ hG hT (Nat.le_of_ble_eq_true rfl) rfl (fun M X hl => wX1_moveEach X hZ σ p1 p2 hF)
noncomputable def fX1_addPull (σ : gS) (p1 : Int32) (p2 : Int32) (p3 : Int32) : Option (gS) :=
  gd (gb p1 20) <| nm (σ.2 91 p1.toNatClampNeg) fun v1 => gd (gb p1 20) <| nm (gsL σ 91 p1.toNatClampNeg (v1 + p2.toInt64)) fun σ2 => gd (gb p1 20) <| nm (σ2.2 92 p1.toNatClampNeg) fun v3 => gd (gb p1 20) <| nm (gsL σ2 92 p1.toNatClampNeg (v3 + (p2.toInt64 * p3.toInt64))) fun σ4 => some σ4
noncomputable abbrev rmX1_addPull : Room := { frames := 0, cells := 0, slots := 0, locals := 0 }
set_option maxRecDepth 100000 in
set_option maxHeartbeats 4000000 in
theorem wX1_addPull {M : gM} {G : gG} {out : gS} (X : gX M G zC cX1_addPull RX1 4 wsX1_addPull rmX1_addPull none) {ex : gEx} (hZ : ∀ s : State, G.2.2.2 s → kC ex (gA G zC.1) s) (σ : gS) (p1 : Int32) (p2 : Int32) (p3 : Int32) (hF : fX1_addPull σ p1 p2 p3 = some out) : WW M (gQv M G zC out) G zC 4 σ 0 [(0, .ref (G.2.1 90)), (1, .int p1), (2, .int p2), (3, .int p3)] [] := by
  unfold fX1_addPull at hF
  refine ww_aload_n (pc := 0) X (j := 0) dX1_addPull_0 rfl rfl ?_
  refine ww_get (pc := 1) X (ref := "PictureBlock$Mover") (T := TX1) (j := 2) dX1_addPull_1 inX1_addPull_RX1 shzC_90 clzC_1 (by decide) rfl (List.mem_of_getElem? (i := 1) rfl) rfl ?_
  refine ww_iload_n (pc := 4) X (j := 1) dX1_addPull_4 rfl rfl ?_
  refine ww_dup2_11 (pc := 5) X dX1_addPull_5 rfl rfl ?_
  refine ww_lald (pc := 6) X dX1_addPull_6 shzC_91 rfl hF (fun v1 ev1 bv1 hF => ?_)
  refine ww_iload_n (pc := 7) X (j := 2) dX1_addPull_7 rfl rfl ?_
  refine ww_i2l (pc := 8) X dX1_addPull_8 ?_
  refine ww_ladd (pc := 9) X dX1_addPull_9 ?_
  refine ww_last (pc := 10) X dX1_addPull_10 shzC_91 rfl hF (fun σ2 eσ2 bσ2 hF => ?_)
  refine ww_aload_n (pc := 11) X (j := 0) dX1_addPull_11 rfl rfl ?_
  refine ww_get (pc := 12) X (ref := "PictureBlock$Mover") (T := TX1) (j := 3) dX1_addPull_12 inX1_addPull_RX1 shzC_90 clzC_1 (by decide) rfl (List.mem_of_getElem? (i := 2) rfl) rfl ?_
  refine ww_iload_n (pc := 15) X (j := 1) dX1_addPull_15 rfl rfl ?_
  refine ww_dup2_11 (pc := 16) X dX1_addPull_16 rfl rfl ?_
  refine ww_lald (pc := 17) X dX1_addPull_17 shzC_92 rfl hF (fun v3 ev3 bv3 hF => ?_)
  refine ww_iload_n (pc := 18) X (j := 2) dX1_addPull_18 rfl rfl ?_
  refine ww_i2l (pc := 19) X dX1_addPull_19 ?_
  refine ww_iload_n (pc := 20) X (j := 3) dX1_addPull_20 rfl rfl ?_
  refine ww_i2l (pc := 21) X dX1_addPull_21 ?_
  refine ww_lmul (pc := 22) X dX1_addPull_22 ?_
  refine ww_ladd (pc := 23) X dX1_addPull_23 ?_
  refine ww_last (pc := 24) X dX1_addPull_24 shzC_92 rfl hF (fun σ4 eσ4 bσ4 hF => ?_)
  exact ww_vret (pc := 25) X dX1_addPull_25 (by cases hF; rfl)
set_option maxRecDepth 100000 in
set_option maxHeartbeats 4000000 in
theorem kX1_addPull (l : Launch) (G : gG) {ex : gEx} (hZ : ∀ s : State, G.2.2.2 s → kC ex (gA G zC.1) s) (hG : gOK G zC.1) (hT : G.2.2.1.map (fun q => q.2) = zC.2.1) (σ : gS) (p1 : Int32) (p2 : Int32) (p3 : Int32) (out : gS) (hF : fX1_addPull σ p1 p2 p3 = some out) : gCv l yX1_addPull wsX1_addPull rmX1_addPull G zC [.ref (G.2.1 90), .int p1, .int p2, .int p3] σ out :=
  gEnter (by decide) rfl ⟨rfl, rfl⟩ hG hT (Nat.le_of_ble_eq_true rfl) rfl (fun M X hl => wX1_addPull X hZ σ p1 p2 p3 hF)
noncomputable def bX1_movePoints_93 (σ : gS) (c93_1 : Int32) (rec93 : Int32 → gS → Option (Int32 × gS)) (a2 : Int32) (σ1 : gS) : Option (Int32 × gS) :=
  gd (gb 2 6) <| nm (σ1.1 3 ((2 : Int32).toNatClampNeg)) fun v7 => (if v7 ≤ a2 then gd (gb c93_1 2) <| gd (gb 2 6) <| nm (σ1.1 3 ((2 : Int32).toNatClampNeg)) fun v10 => bd2 (fX1_moveEach σ1 (53 + c93_1.toNatClampNeg) v10) fun r12 σ13 => some (vp_nar .boolean r12, σ13) else bd (fX5_isFixed_47 σ1 a2) fun r15 => (if r15 = 0 then nm (a2 + 1 : Int32) fun x17 => rec93 x17 σ1 else gd (gb a2 20) <| nm (gsL σ1 91 a2.toNatClampNeg 0) fun σ18 => nm (a2 + 1 : Int32) fun x19 => rec93 x19 σ18))
noncomputable def bX1_movePoints_6 (σ : gS) (c6_1 : Int32) (rec6 : Int32 → gS → Option (Int32 × gS)) (a2 : Int32) (σ1 : gS) : Option (Int32 × gS) :=
  gd (gb 3 6) <| nm (σ1.1 3 ((3 : Int32).toNatClampNeg)) fun v4 => (if v4 ≤ a2 then nm (0 : Int32) fun x6 => lpc (S := Int32 × gS) K9 (fun rec s => bX1_movePoints_93 σ1 c6_1 (fun a2 σ1 => rec (a2, σ1)) s.1 s.2) (x6, σ1) else bd (fX5_uses_47 σ1 a2) fun r21 => (if r21 = 0 then nm (a2 + 1 : Int32) fun x34 => rec6 x34 σ1 else gd (gb c6_1 2) <| gd (gb a2 60) <| nm (σ1.1 10 a2.toNatClampNeg) fun v24 => gd (gb v24 12) <| nm (σ1.1 (50 + c6_1.toNatClampNeg) v24.toNatClampNeg) fun v25 => gd (gb c6_1 2) <| gd (gb a2 60) <| nm (σ1.1 (94 + c6_1.toNatClampNeg) a2.toNatClampNeg) fun v27 => nm (v25 + v27 : Int32) fun x28 => gd (gb a2 60) <| nm (σ1.1 11 a2.toNatClampNeg) fun v29 => gd (gb a2 60) <| nm (σ1.1 15 a2.toNatClampNeg) fun v30 => bd (fX1_addPull σ1 v29 v30 x28) fun σ32 => nm (a2 + 1 : Int32) fun x33 => rec6 x33 σ32))
noncomputable def fX1_movePoints (σ : gS) (p1 : Int32) : Option (Int32 × gS) :=
  bd (fX1_clearPulls σ) fun σ2 => nm (0 : Int32) fun x3 => lpc (S := Int32 × gS) K9 (fun rec s => bX1_movePoints_6 σ2 p1 (fun a2 σ1 => rec (a2, σ1)) s.1 s.2) (x3, σ2)
noncomputable abbrev rmX1_movePoints : Room := { frames := 2, cells := 0, slots := 0, locals := 55 }
set_option maxRecDepth 100000 in
set_option maxHeartbeats 4000000 in
theorem wbX1_movePoints_93 {M : gM} {G : gG} {out : Int32 × gS} (X : gX M G zC cX1_movePoints RX1 4 wsX1_movePoints rmX1_movePoints (some .boolean)) {ex : gEx} (hZ : ∀ s : State, G.2.2.2 s → kC ex (gA G zC.1) s) (σ : gS) (c93_1 : Int32) (rec93 : Int32 → gS → Option (Int32 × gS)) (ih93 : ∀ (a2 : Int32) (σ1 : gS), rec93 a2 σ1 = some out → WW M (gQi M G zC out.1 out.2) G zC 4 σ1 93 [(0, .ref (G.2.1 90)), (1, .int c93_1), (2, .int a2)] []) (a2 : Int32) (σ1 : gS) (hF : bX1_movePoints_93 σ c93_1 rec93 a2 σ1 = some out) : WW M (gQi M G zC out.1 out.2) G zC 4 σ1 93 [(0, .ref (G.2.1 90)), (1, .int c93_1), (2, .int a2)] [] := by
  unfold bX1_movePoints_93 at hF
  refine ww_iload_n (pc := 93) X (j := 2) dX1_movePoints_93 rfl rfl ?_
  refine ww_aload_n (pc := 94) X (j := 0) dX1_movePoints_94 rfl rfl ?_
  refine ww_get (pc := 95) X (ref := "PictureBlock$Mover") (T := TX1) (j := 0) dX1_movePoints_95 inX1_movePoints_RX1 shzC_90 clzC_1 (by decide) rfl (List.mem_of_getElem? (i := 1) rfl) rfl ?_
  refine ww_get (pc := 98) X (ref := "PictureBlock$Told") (T := TX8) (j := 0) dX1_movePoints_98 inX1_movePoints_RX8 shzC_2 clzC_8 (by decide) rfl (List.mem_of_getElem? (i := 2) rfl) rfl ?_
  refine ww_iconst (pc := 101) X (v := 2) dX1_movePoints_101 (by decide) ?_
  refine ww_iald (pc := 102) X dX1_movePoints_102 shzC_3 rfl hF (fun v7 ev7 bv7 hF => ?_)
  refine ww_icmp_ge (pc := 103) (tgt := 130) X dX1_movePoints_103 (by decide) hF (fun h8 hF => ?_) (fun h8 hF => ?_)
  · refine ww_aload_n (pc := 130) X (j := 0) dX1_movePoints_130 rfl rfl ?_
    refine ww_aload_n (pc := 131) X (j := 0) dX1_movePoints_131 rfl rfl ?_
    refine ww_get (pc := 132) X (ref := "PictureBlock$Mover") (T := TX1) (j := 1) dX1_movePoints_132 inX1_movePoints_RX1 shzC_90 clzC_1 (by decide) rfl (List.mem_of_getElem? (i := 3) rfl) rfl ?_
    refine ww_get (pc := 135) X (ref := "PictureBlock$Stand") (T := TX5) (j := 4) dX1_movePoints_135 inX1_movePoints_RX5 shzC_47 clzC_5 (by decide) rfl (List.mem_of_getElem? (i := 10) rfl) rfl ?_
    refine ww_iload_n (pc := 138) X (j := 1) dX1_movePoints_138 rfl rfl ?_
    refine ww_aald (pc := 139) X dX1_movePoints_139 shzC_52 rfl hF (fun h9 hF => ?_)
    refine ww_aload_n (pc := 140) X (j := 0) dX1_movePoints_140 rfl rfl ?_
    refine ww_get (pc := 141) X (ref := "PictureBlock$Mover") (T := TX1) (j := 0) dX1_movePoints_141 inX1_movePoints_RX1 shzC_90 clzC_1 (by decide) rfl (List.mem_of_getElem? (i := 1) rfl) rfl ?_
    refine ww_get (pc := 144) X (ref := "PictureBlock$Told") (T := TX8) (j := 0) dX1_movePoints_144 inX1_movePoints_RX8 shzC_2 clzC_8 (by decide) rfl (List.mem_of_getElem? (i := 2) rfl) rfl ?_
    refine ww_iconst (pc := 147) X (v := 2) dX1_movePoints_147 (by decide) ?_
    refine ww_iald (pc := 148) X dX1_movePoints_148 shzC_3 rfl hF (fun v10 ev10 bv10 hF => ?_)
    obtain ⟨r12, σ13, h11, hF⟩ := bd2_some hF
    refine ww_callVi (pc := 149) X (As := [.ref (G.2.1 (53 + c93_1.toNatClampNeg)), .int v10]) (rest := []) dX1_movePoints_149 (kX1_moveEach (mL M) G hZ X.2.2.2.2.2.2.1 X.2.2.2.2.2.2.2.1 σ1 (53 + c93_1.toNatClampNeg) v10 (r12, σ13) h11) rfl shzC_90 clzC_1 gX1_movePoints_X1_moveEach hyX1_moveEach ⟨rfl, rfl⟩ ⟨Nat.le_of_ble_eq_true rfl, Nat.le_of_ble_eq_true rfl⟩ rfl rfl (Nat.le_of_ble_eq_true rfl) ?_
    exact ww_zret (pc := 152) X dX1_movePoints_152 (by cases hF; rfl) (by cases hF; rfl)
  · refine ww_aload_n (pc := 106) X (j := 0) dX1_movePoints_106 rfl rfl ?_
    refine ww_get (pc := 107) X (ref := "PictureBlock$Mover") (T := TX1) (j := 1) dX1_movePoints_107 inX1_movePoints_RX1 shzC_90 clzC_1 (by decide) rfl (List.mem_of_getElem? (i := 3) rfl) rfl ?_
    refine ww_iload_n (pc := 110) X (j := 2) dX1_movePoints_110 rfl rfl ?_
    obtain ⟨r15, h14, hF⟩ := bd_some hF
    refine ww_callVi (pc := 111) X (As := [.int a2]) (rest := []) dX1_movePoints_111 (kX5_isFixed_47 (mL M) G hZ X.2.2.2.2.2.2.1 X.2.2.2.2.2.2.2.1 σ1 a2 r15 h14) rfl shzC_47 clzC_5 gX1_movePoints_X5_isFixed hyX5_isFixed ⟨rfl, rfl⟩ ⟨Nat.le_of_ble_eq_true rfl, Nat.le_of_ble_eq_true rfl⟩ rfl rfl (Nat.le_of_ble_eq_true rfl) ?_
    refine ww_if_eq (pc := 114) (tgt := 124) X dX1_movePoints_114 (by decide) hF (fun h16 hF => ?_) (fun h16 hF => ?_)
    · refine ww_iinc (pc := 124) X (j := 2) (v := 1) (lv' := [(0, .ref (G.2.1 90)), (1, .int c93_1)]) dX1_movePoints_124 rfl rfl (by decide) rfl hF (fun x17 ex17 hF => ?_)
      refine ww_goto (pc := 127) X (tgt := 93) dX1_movePoints_127 (by decide) ?_
      exact ww_sub [1, 2, 0] rfl (ih93 x17 σ1 hF)
    · refine ww_aload_n (pc := 117) X (j := 0) dX1_movePoints_117 rfl rfl ?_
      refine ww_get (pc := 118) X (ref := "PictureBlock$Mover") (T := TX1) (j := 2) dX1_movePoints_118 inX1_movePoints_RX1 shzC_90 clzC_1 (by decide) rfl (List.mem_of_getElem? (i := 9) rfl) rfl ?_
      refine ww_iload_n (pc := 121) X (j := 2) dX1_movePoints_121 rfl rfl ?_
      refine ww_lconst (pc := 122) X (v := 0) dX1_movePoints_122 (by decide) ?_
      refine ww_last (pc := 123) X dX1_movePoints_123 shzC_91 rfl hF (fun σ18 eσ18 bσ18 hF => ?_)
      refine ww_iinc (pc := 124) X (j := 2) (v := 1) (lv' := [(0, .ref (G.2.1 90)), (1, .int c93_1)]) dX1_movePoints_124 rfl rfl (by decide) rfl hF (fun x19 ex19 hF => ?_)
      refine ww_goto (pc := 127) X (tgt := 93) dX1_movePoints_127 (by decide) ?_
      exact ww_sub [1, 2, 0] rfl (ih93 x19 σ18 hF)
set_option maxRecDepth 100000 in
set_option maxHeartbeats 4000000 in
theorem wbX1_movePoints_6 {M : gM} {G : gG} {out : Int32 × gS} (X : gX M G zC cX1_movePoints RX1 4 wsX1_movePoints rmX1_movePoints (some .boolean)) {ex : gEx} (hZ : ∀ s : State, G.2.2.2 s → kC ex (gA G zC.1) s) (σ : gS) (c6_1 : Int32) (rec6 : Int32 → gS → Option (Int32 × gS)) (ih6 : ∀ (a2 : Int32) (σ1 : gS), rec6 a2 σ1 = some out → WW M (gQi M G zC out.1 out.2) G zC 4 σ1 6 [(0, .ref (G.2.1 90)), (1, .int c6_1), (2, .int a2)] []) (a2 : Int32) (σ1 : gS) (hF : bX1_movePoints_6 σ c6_1 rec6 a2 σ1 = some out) : WW M (gQi M G zC out.1 out.2) G zC 4 σ1 6 [(0, .ref (G.2.1 90)), (1, .int c6_1), (2, .int a2)] [] := by
  unfold bX1_movePoints_6 at hF
  refine ww_iload_n (pc := 6) X (j := 2) dX1_movePoints_6 rfl rfl ?_
  refine ww_aload_n (pc := 7) X (j := 0) dX1_movePoints_7 rfl rfl ?_
  refine ww_get (pc := 8) X (ref := "PictureBlock$Mover") (T := TX1) (j := 0) dX1_movePoints_8 inX1_movePoints_RX1 shzC_90 clzC_1 (by decide) rfl (List.mem_of_getElem? (i := 1) rfl) rfl ?_
  refine ww_get (pc := 11) X (ref := "PictureBlock$Told") (T := TX8) (j := 0) dX1_movePoints_11 inX1_movePoints_RX8 shzC_2 clzC_8 (by decide) rfl (List.mem_of_getElem? (i := 2) rfl) rfl ?_
  refine ww_iconst (pc := 14) X (v := 3) dX1_movePoints_14 (by decide) ?_
  refine ww_iald (pc := 15) X dX1_movePoints_15 shzC_3 rfl hF (fun v4 ev4 bv4 hF => ?_)
  refine ww_icmp_ge (pc := 16) (tgt := 91) X dX1_movePoints_16 (by decide) hF (fun h5 hF => ?_) (fun h5 hF => ?_)
  · refine ww_iconst (pc := 91) X (v := 0) dX1_movePoints_91 (by decide) ?_
    refine ww_istore_n (pc := 92) X (lv' := [(0, .ref (G.2.1 90)), (1, .int c6_1)]) dX1_movePoints_92 rfl (by decide) rfl hF (fun x6 ex6 hF => ?_)
    exact ww_sub [1, 2, 0] rfl (lpc_ind (P := (fun (s : Int32 × gS) => WW M (gQi M G zC out.1 out.2) G zC 4 s.2 93 [(0, .ref (G.2.1 90)), (1, .int c6_1), (2, .int s.1)] [])) (fun rec s ih hF => wbX1_movePoints_93 X hZ σ1 c6_1 (fun a2 σ1 => rec (a2, σ1)) (fun a2 σ1 h => ih (a2, σ1) h) s.1 s.2 hF) K9 (x6, σ1) hF)
  · refine ww_aload_n (pc := 19) X (j := 0) dX1_movePoints_19 rfl rfl ?_
    refine ww_get (pc := 20) X (ref := "PictureBlock$Mover") (T := TX1) (j := 1) dX1_movePoints_20 inX1_movePoints_RX1 shzC_90 clzC_1 (by decide) rfl (List.mem_of_getElem? (i := 3) rfl) rfl ?_
    refine ww_iload_n (pc := 23) X (j := 2) dX1_movePoints_23 rfl rfl ?_
    obtain ⟨r21, h20, hF⟩ := bd_some hF
    refine ww_callVi (pc := 24) X (As := [.int a2]) (rest := []) dX1_movePoints_24 (kX5_uses_47 (mL M) G hZ X.2.2.2.2.2.2.1 X.2.2.2.2.2.2.2.1 σ1 a2 r21 h20) rfl shzC_47 clzC_5 gX1_movePoints_X5_uses hyX5_uses ⟨rfl, rfl⟩ ⟨Nat.le_of_ble_eq_true rfl, Nat.le_of_ble_eq_true rfl⟩ rfl rfl (Nat.le_of_ble_eq_true rfl) ?_
    refine ww_if_ne (pc := 27) (tgt := 33) X dX1_movePoints_27 (by decide) hF (fun h22 hF => ?_) (fun h22 hF => ?_)
    · refine ww_aload_n (pc := 33) X (j := 0) dX1_movePoints_33 rfl rfl ?_
      refine ww_get (pc := 34) X (ref := "PictureBlock$Mover") (T := TX1) (j := 1) dX1_movePoints_34 inX1_movePoints_RX1 shzC_90 clzC_1 (by decide) rfl (List.mem_of_getElem? (i := 3) rfl) rfl ?_
      refine ww_get (pc := 37) X (ref := "PictureBlock$Stand") (T := TX5) (j := 3) dX1_movePoints_37 inX1_movePoints_RX5 shzC_47 clzC_5 (by decide) rfl (List.mem_of_getElem? (i := 4) rfl) rfl ?_
      refine ww_iload_n (pc := 40) X (j := 1) dX1_movePoints_40 rfl rfl ?_
      refine ww_aald (pc := 41) X dX1_movePoints_41 shzC_49 rfl hF (fun h23 hF => ?_)
      refine ww_aload_n (pc := 42) X (j := 0) dX1_movePoints_42 rfl rfl ?_
      refine ww_get (pc := 43) X (ref := "PictureBlock$Mover") (T := TX1) (j := 0) dX1_movePoints_43 inX1_movePoints_RX1 shzC_90 clzC_1 (by decide) rfl (List.mem_of_getElem? (i := 1) rfl) rfl ?_
      refine ww_get (pc := 46) X (ref := "PictureBlock$Told") (T := TX8) (j := 4) dX1_movePoints_46 inX1_movePoints_RX8 shzC_2 clzC_8 (by decide) rfl (List.mem_of_getElem? (i := 5) rfl) rfl ?_
      refine ww_iload_n (pc := 49) X (j := 2) dX1_movePoints_49 rfl rfl ?_
      refine ww_iald (pc := 50) X dX1_movePoints_50 shzC_10 rfl hF (fun v24 ev24 bv24 hF => ?_)
      refine ww_iald (pc := 51) X dX1_movePoints_51 (rwzC_49 _ (gb_lt h23)) rfl hF (fun v25 ev25 bv25 hF => ?_)
      refine ww_aload_n (pc := 52) X (j := 0) dX1_movePoints_52 rfl rfl ?_
      refine ww_get (pc := 53) X (ref := "PictureBlock$Mover") (T := TX1) (j := 4) dX1_movePoints_53 inX1_movePoints_RX1 shzC_90 clzC_1 (by decide) rfl (List.mem_of_getElem? (i := 6) rfl) rfl ?_
      refine ww_iload_n (pc := 56) X (j := 1) dX1_movePoints_56 rfl rfl ?_
      refine ww_aald (pc := 57) X dX1_movePoints_57 shzC_93 rfl hF (fun h26 hF => ?_)
      refine ww_iload_n (pc := 58) X (j := 2) dX1_movePoints_58 rfl rfl ?_
      refine ww_iald (pc := 59) X dX1_movePoints_59 (rwzC_93 _ (gb_lt h26)) rfl hF (fun v27 ev27 bv27 hF => ?_)
      refine ww_iadd (pc := 60) X dX1_movePoints_60 ?_
      refine ww_istore_n (pc := 61) X (lv' := [(0, .ref (G.2.1 90)), (1, .int c6_1), (2, .int a2)]) dX1_movePoints_61 rfl (by decide) rfl hF (fun x28 ex28 hF => ?_)
      refine ww_aload_n (pc := 62) X (j := 1) dX1_movePoints_62 rfl rfl ?_
      refine ww_aload_n (pc := 63) X (j := 1) dX1_movePoints_63 rfl rfl ?_
      refine ww_get (pc := 64) X (ref := "PictureBlock$Mover") (T := TX1) (j := 0) dX1_movePoints_64 inX1_movePoints_RX1 shzC_90 clzC_1 (by decide) rfl (List.mem_of_getElem? (i := 1) rfl) rfl ?_
      refine ww_get (pc := 67) X (ref := "PictureBlock$Told") (T := TX8) (j := 5) dX1_movePoints_67 inX1_movePoints_RX8 shzC_2 clzC_8 (by decide) rfl (List.mem_of_getElem? (i := 7) rfl) rfl ?_
      refine ww_iload_n (pc := 70) X (j := 3) dX1_movePoints_70 rfl rfl ?_
      refine ww_iald (pc := 71) X dX1_movePoints_71 shzC_11 rfl hF (fun v29 ev29 bv29 hF => ?_)
      refine ww_aload_n (pc := 72) X (j := 1) dX1_movePoints_72 rfl rfl ?_
      refine ww_get (pc := 73) X (ref := "PictureBlock$Mover") (T := TX1) (j := 0) dX1_movePoints_73 inX1_movePoints_RX1 shzC_90 clzC_1 (by decide) rfl (List.mem_of_getElem? (i := 1) rfl) rfl ?_
      refine ww_get (pc := 76) X (ref := "PictureBlock$Told") (T := TX8) (j := 7) dX1_movePoints_76 inX1_movePoints_RX8 shzC_2 clzC_8 (by decide) rfl (List.mem_of_getElem? (i := 8) rfl) rfl ?_
      refine ww_iload_n (pc := 79) X (j := 3) dX1_movePoints_79 rfl rfl ?_
      refine ww_iald (pc := 80) X dX1_movePoints_80 shzC_15 rfl hF (fun v30 ev30 bv30 hF => ?_)
      refine ww_iload_n (pc := 81) X (j := 0) dX1_movePoints_81 rfl rfl ?_
      obtain ⟨σ32, h31, hF⟩ := bd_some hF
      refine ww_callVv (pc := 82) X (As := [.int v29, .int v30, .int x28]) (rest := []) dX1_movePoints_82 (kX1_addPull (mL M) G hZ X.2.2.2.2.2.2.1 X.2.2.2.2.2.2.2.1 σ1 v29 v30 x28 σ32 h31) rfl shzC_90 clzC_1 gX1_movePoints_X1_addPull hyX1_addPull ⟨rfl, rfl⟩ ⟨Nat.le_of_ble_eq_true rfl, Nat.le_of_ble_eq_true rfl⟩ rfl rfl (Nat.le_of_ble_eq_true rfl) ?_
      refine ww_iinc (pc := 85) X (j := 3) (v := 1) (lv' := [(3, .int x28), (0, .ref (G.2.1 90)), (1, .int c6_1)]) dX1_movePoints_85 rfl rfl (by decide) rfl hF (fun x33 ex33 hF => ?_)
      refine ww_goto (pc := 88) X (tgt := 6) dX1_movePoints_88 (by decide) ?_
      exact ww_sub [2, 3, 0] rfl (ih6 x33 σ32 hF)
    · refine ww_goto (pc := 30) X (tgt := 85) dX1_movePoints_30 (by decide) ?_
      refine ww_iinc (pc := 85) X (j := 2) (v := 1) (lv' := [(0, .ref (G.2.1 90)), (1, .int c6_1)]) dX1_movePoints_85 rfl rfl (by decide) rfl hF (fun x34 ex34 hF => ?_)
      refine ww_goto (pc := 88) X (tgt := 6) dX1_movePoints_88 (by decide) ?_
      exact ww_sub [1, 2, 0] rfl (ih6 x34 σ1 hF)
set_option maxRecDepth 100000 in
set_option maxHeartbeats 4000000 in
theorem wX1_movePoints {M : gM} {G : gG} {out : Int32 × gS} (X : gX M G zC cX1_movePoints RX1 4 wsX1_movePoints rmX1_movePoints (some .boolean)) {ex : gEx} (hZ : ∀ s : State, G.2.2.2 s → kC ex (gA G zC.1) s) (σ : gS) (p1 : Int32) (hF : fX1_movePoints σ p1 = some out) : WW M (gQi M G zC out.1 out.2) G zC 4 σ 0 [(0, .ref (G.2.1 90)), (1, .int p1)] [] := by
  unfold fX1_movePoints at hF
  refine ww_aload_n (pc := 0) X (j := 0) dX1_movePoints_0 rfl rfl ?_
  obtain ⟨σ2, h1, hF⟩ := bd_some hF
  refine ww_callVv (pc := 1) X (As := []) (rest := []) dX1_movePoints_1 (kX1_clearPulls (mL M) G hZ X.2.2.2.2.2.2.1 X.2.2.2.2.2.2.2.1 σ σ2 h1) rfl shzC_90 clzC_1 gX1_movePoints_X1_clearPulls hyX1_clearPulls ⟨rfl, rfl⟩ ⟨Nat.le_of_ble_eq_true rfl, Nat.le_of_ble_eq_true rfl⟩ rfl rfl (Nat.le_of_ble_eq_true rfl) ?_
  refine ww_iconst (pc := 4) X (v := 0) dX1_movePoints_4 (by decide) ?_
  refine ww_istore_n (pc := 5) X (lv' := [(0, .ref (G.2.1 90)), (1, .int p1)]) dX1_movePoints_5 rfl (by decide) rfl hF (fun x3 ex3 hF => ?_)
  exact ww_sub [1, 2, 0] rfl (lpc_ind (P := (fun (s : Int32 × gS) => WW M (gQi M G zC out.1 out.2) G zC 4 s.2 6 [(0, .ref (G.2.1 90)), (1, .int p1), (2, .int s.1)] [])) (fun rec s ih hF => wbX1_movePoints_6 X hZ σ2 p1 (fun a2 σ1 => rec (a2, σ1)) (fun a2 σ1 h => ih (a2, σ1) h) s.1 s.2 hF) K9 (x3, σ2) hF)
set_option maxRecDepth 100000 in
set_option maxHeartbeats 4000000 in
theorem kX1_movePoints (l : Launch) (G : gG) {ex : gEx} (hZ : ∀ s : State, G.2.2.2 s → kC ex (gA G zC.1) s) (hG : gOK G zC.1) (hT : G.2.2.1.map (fun q => q.2) = zC.2.1) (σ : gS) (p1 : Int32) (out : Int32 × gS) (hF : fX1_movePoints σ p1 = some out) : gCi l yX1_movePoints wsX1_movePoints rmX1_movePoints G zC [.ref (G.2.1 90), .int p1] σ out.1 out.2 :=
  gEnter (by decide) rfl ⟨rfl, rfl⟩ hG hT (Nat.le_of_ble_eq_true rfl) rfl (fun M X hl => wX1_movePoints X hZ σ p1 hF)
noncomputable def fX5_centreAt_47 (σ : gS) (p1 : Int32) (p2 : Int32) : Option (Int32) :=
  gd (gb p2 2) <| gd (gb p1 12) <| nm (σ.1 8 p1.toNatClampNeg) fun v2 => gd (gb v2 6) <| nm (σ.1 (56 + p2.toNatClampNeg) v2.toNatClampNeg) fun v3 => gd (gb p2 2) <| gd (gb p1 12) <| nm (σ.1 (22 + p2.toNatClampNeg) p1.toNatClampNeg) fun v5 => some (v3 + (100 * v5))
noncomputable abbrev rmX5_centreAt : Room := { frames := 0, cells := 0, slots := 0, locals := 0 }
set_option maxRecDepth 100000 in
set_option maxHeartbeats 4000000 in
theorem wX5_centreAt_47 {M : gM} {G : gG} {out : Int32} (X : gX M G zC cX5_centreAt RX5 3 wsX5_centreAt rmX5_centreAt (some .int)) {ex : gEx} (hZ : ∀ s : State, G.2.2.2 s → kC ex (gA G zC.1) s) (σ : gS) (p1 : Int32) (p2 : Int32) (hF : fX5_centreAt_47 σ p1 p2 = some out) : WW M (gQi M G zC out σ) G zC 3 σ 0 [(0, .ref (G.2.1 47)), (1, .int p1), (2, .int p2)] [] := by
  unfold fX5_centreAt_47 at hF
  refine ww_aload_n (pc := 0) X (j := 0) dX5_centreAt_0 rfl rfl ?_
  refine ww_get (pc := 1) X (ref := "PictureBlock$Stand") (T := TX5) (j := 5) dX5_centreAt_1 inX5_centreAt_RX5 shzC_47 clzC_5 (by decide) rfl (List.mem_of_getElem? (i := 1) rfl) rfl ?_
  refine ww_iload_n (pc := 4) X (j := 2) dX5_centreAt_4 rfl rfl ?_
  refine ww_aald (pc := 5) X dX5_centreAt_5 shzC_55 rfl hF (fun h1 hF => ?_)
  refine ww_aload_n (pc := 6) X (j := 0) dX5_centreAt_6 rfl rfl ?_
  refine ww_get (pc := 7) X (ref := "PictureBlock$Stand") (T := TX5) (j := 0) dX5_centreAt_7 inX5_centreAt_RX5 shzC_47 clzC_5 (by decide) rfl (List.mem_of_getElem? (i := 2) rfl) rfl ?_
  refine ww_get (pc := 10) X (ref := "PictureBlock$Told") (T := TX8) (j := 2) dX5_centreAt_10 inX5_centreAt_RX8 shzC_2 clzC_8 (by decide) rfl (List.mem_of_getElem? (i := 3) rfl) rfl ?_
  refine ww_iload_n (pc := 13) X (j := 1) dX5_centreAt_13 rfl rfl ?_
  refine ww_iald (pc := 14) X dX5_centreAt_14 shzC_8 rfl hF (fun v2 ev2 bv2 hF => ?_)
  refine ww_iald (pc := 15) X dX5_centreAt_15 (rwzC_55 _ (gb_lt h1)) rfl hF (fun v3 ev3 bv3 hF => ?_)
  refine ww_bipush (pc := 16) X (v := 100) dX5_centreAt_16 (by decide) ?_
  refine ww_aload_n (pc := 18) X (j := 0) dX5_centreAt_18 rfl rfl ?_
  refine ww_get (pc := 19) X (ref := "PictureBlock$Stand") (T := TX5) (j := 0) dX5_centreAt_19 inX5_centreAt_RX5 shzC_47 clzC_5 (by decide) rfl (List.mem_of_getElem? (i := 2) rfl) rfl ?_
  refine ww_get (pc := 22) X (ref := "PictureBlock$Told") (T := TX8) (j := 11) dX5_centreAt_22 inX5_centreAt_RX8 shzC_2 clzC_8 (by decide) rfl (List.mem_of_getElem? (i := 4) rfl) rfl ?_
  refine ww_iload_n (pc := 25) X (j := 2) dX5_centreAt_25 rfl rfl ?_
  refine ww_aald (pc := 26) X dX5_centreAt_26 shzC_21 rfl hF (fun h4 hF => ?_)
  refine ww_iload_n (pc := 27) X (j := 1) dX5_centreAt_27 rfl rfl ?_
  refine ww_iald (pc := 28) X dX5_centreAt_28 (rwzC_21 _ (gb_lt h4)) rfl hF (fun v5 ev5 bv5 hF => ?_)
  refine ww_imul (pc := 29) X dX5_centreAt_29 ?_
  refine ww_iadd (pc := 30) X dX5_centreAt_30 ?_
  exact ww_iret (pc := 31) X dX5_centreAt_31 (Option.some.inj hF) rfl
set_option maxRecDepth 100000 in
set_option maxHeartbeats 4000000 in
theorem kX5_centreAt_47 (l : Launch) (G : gG) {ex : gEx} (hZ : ∀ s : State, G.2.2.2 s → kC ex (gA G zC.1) s) (hG : gOK G zC.1) (hT : G.2.2.1.map (fun q => q.2) = zC.2.1) (σ : gS) (p1 : Int32) (p2 : Int32) (out : Int32) (hF : fX5_centreAt_47 σ p1 p2 = some out) : gCi l yX5_centreAt wsX5_centreAt rmX5_centreAt G zC [.ref (G.2.1 47), .int p1, .int p2] σ out σ :=
  gEnter (by decide) rfl ⟨rfl, rfl⟩ hG hT (Nat.le_of_ble_eq_true rfl) rfl (fun M X hl => wX5_centreAt_47 X hZ σ p1 p2 hF)
noncomputable def bX1_movePictures_93 (σ : gS) (c93_1 : Int32) (rec93 : Int32 → gS → Option (Int32 × gS)) (a2 : Int32) (σ1 : gS) : Option (Int32 × gS) :=
  gd (gb 1 6) <| nm (σ1.1 3 ((1 : Int32).toNatClampNeg)) fun v7 => (if v7 ≤ a2 then gd (gb c93_1 2) <| gd (gb 1 6) <| nm (σ1.1 3 ((1 : Int32).toNatClampNeg)) fun v10 => bd2 (fX1_moveEach σ1 (50 + c93_1.toNatClampNeg) v10) fun r12 σ13 => some (vp_nar .boolean r12, σ13) else gd (gb a2 12) <| nm (σ1.1 20 a2.toNatClampNeg) fun v14 => bd (fX5_centreAt_47 σ1 a2 c93_1) fun r16 => bd (fX1_addPull σ1 a2 v14 r16) fun σ18 => nm (a2 + 1 : Int32) fun x19 => rec93 x19 σ18)
noncomputable def bX1_movePictures_6 (σ : gS) (c6_1 : Int32) (rec6 : Int32 → gS → Option (Int32 × gS)) (a2 : Int32) (σ1 : gS) : Option (Int32 × gS) :=
  gd (gb 3 6) <| nm (σ1.1 3 ((3 : Int32).toNatClampNeg)) fun v4 => (if v4 ≤ a2 then nm (0 : Int32) fun x6 => lpc (S := Int32 × gS) K9 (fun rec s => bX1_movePictures_93 σ1 c6_1 (fun a2 σ1 => rec (a2, σ1)) s.1 s.2) (x6, σ1) else bd (fX5_uses_47 σ1 a2) fun r21 => (if r21 = 0 then nm (a2 + 1 : Int32) fun x34 => rec6 x34 σ1 else gd (gb c6_1 2) <| gd (gb a2 60) <| nm (σ1.1 11 a2.toNatClampNeg) fun v24 => gd (gb v24 20) <| nm (σ1.1 (53 + c6_1.toNatClampNeg) v24.toNatClampNeg) fun v25 => gd (gb c6_1 2) <| gd (gb a2 60) <| nm (σ1.1 (94 + c6_1.toNatClampNeg) a2.toNatClampNeg) fun v27 => nm (v25 - v27 : Int32) fun x28 => gd (gb a2 60) <| nm (σ1.1 10 a2.toNatClampNeg) fun v29 => gd (gb a2 60) <| nm (σ1.1 15 a2.toNatClampNeg) fun v30 => bd (fX1_addPull σ1 v29 v30 x28) fun σ32 => nm (a2 + 1 : Int32) fun x33 => rec6 x33 σ32))
noncomputable def fX1_movePictures (σ : gS) (p1 : Int32) : Option (Int32 × gS) :=
  bd (fX1_clearPulls σ) fun σ2 => nm (0 : Int32) fun x3 => lpc (S := Int32 × gS) K9 (fun rec s => bX1_movePictures_6 σ2 p1 (fun a2 σ1 => rec (a2, σ1)) s.1 s.2) (x3, σ2)
noncomputable abbrev rmX1_movePictures : Room := { frames := 2, cells := 0, slots := 0, locals := 55 }
set_option maxRecDepth 100000 in
set_option maxHeartbeats 4000000 in
theorem wbX1_movePictures_93 {M : gM} {G : gG} {out : Int32 × gS} (X : gX M G zC cX1_movePictures RX1 4 wsX1_movePictures rmX1_movePictures (some .boolean)) {ex : gEx} (hZ : ∀ s : State, G.2.2.2 s → kC ex (gA G zC.1) s) (σ : gS) (c93_1 : Int32) (rec93 : Int32 → gS → Option (Int32 × gS)) (ih93 : ∀ (a2 : Int32) (σ1 : gS), rec93 a2 σ1 = some out → WW M (gQi M G zC out.1 out.2) G zC 4 σ1 93 [(0, .ref (G.2.1 90)), (1, .int c93_1), (2, .int a2)] []) (a2 : Int32) (σ1 : gS) (hF : bX1_movePictures_93 σ c93_1 rec93 a2 σ1 = some out) : WW M (gQi M G zC out.1 out.2) G zC 4 σ1 93 [(0, .ref (G.2.1 90)), (1, .int c93_1), (2, .int a2)] [] := by
  unfold bX1_movePictures_93 at hF
  refine ww_iload_n (pc := 93) X (j := 2) dX1_movePictures_93 rfl rfl ?_
  refine ww_aload_n (pc := 94) X (j := 0) dX1_movePictures_94 rfl rfl ?_
  refine ww_get (pc := 95) X (ref := "PictureBlock$Mover") (T := TX1) (j := 0) dX1_movePictures_95 inX1_movePictures_RX1 shzC_90 clzC_1 (by decide) rfl (List.mem_of_getElem? (i := 1) rfl) rfl ?_
  refine ww_get (pc := 98) X (ref := "PictureBlock$Told") (T := TX8) (j := 0) dX1_movePictures_98 inX1_movePictures_RX8 shzC_2 clzC_8 (by decide) rfl (List.mem_of_getElem? (i := 2) rfl) rfl ?_
  refine ww_iconst (pc := 101) X (v := 1) dX1_movePictures_101 (by decide) ?_
  refine ww_iald (pc := 102) X dX1_movePictures_102 shzC_3 rfl hF (fun v7 ev7 bv7 hF => ?_)
  refine ww_icmp_ge (pc := 103) (tgt := 135) X dX1_movePictures_103 (by decide) hF (fun h8 hF => ?_) (fun h8 hF => ?_)
  · refine ww_aload_n (pc := 135) X (j := 0) dX1_movePictures_135 rfl rfl ?_
    refine ww_aload_n (pc := 136) X (j := 0) dX1_movePictures_136 rfl rfl ?_
    refine ww_get (pc := 137) X (ref := "PictureBlock$Mover") (T := TX1) (j := 1) dX1_movePictures_137 inX1_movePictures_RX1 shzC_90 clzC_1 (by decide) rfl (List.mem_of_getElem? (i := 3) rfl) rfl ?_
    refine ww_get (pc := 140) X (ref := "PictureBlock$Stand") (T := TX5) (j := 3) dX1_movePictures_140 inX1_movePictures_RX5 shzC_47 clzC_5 (by decide) rfl (List.mem_of_getElem? (i := 10) rfl) rfl ?_
    refine ww_iload_n (pc := 143) X (j := 1) dX1_movePictures_143 rfl rfl ?_
    refine ww_aald (pc := 144) X dX1_movePictures_144 shzC_49 rfl hF (fun h9 hF => ?_)
    refine ww_aload_n (pc := 145) X (j := 0) dX1_movePictures_145 rfl rfl ?_
    refine ww_get (pc := 146) X (ref := "PictureBlock$Mover") (T := TX1) (j := 0) dX1_movePictures_146 inX1_movePictures_RX1 shzC_90 clzC_1 (by decide) rfl (List.mem_of_getElem? (i := 1) rfl) rfl ?_
    refine ww_get (pc := 149) X (ref := "PictureBlock$Told") (T := TX8) (j := 0) dX1_movePictures_149 inX1_movePictures_RX8 shzC_2 clzC_8 (by decide) rfl (List.mem_of_getElem? (i := 2) rfl) rfl ?_
    refine ww_iconst (pc := 152) X (v := 1) dX1_movePictures_152 (by decide) ?_
    refine ww_iald (pc := 153) X dX1_movePictures_153 shzC_3 rfl hF (fun v10 ev10 bv10 hF => ?_)
    obtain ⟨r12, σ13, h11, hF⟩ := bd2_some hF
    refine ww_callVi (pc := 154) X (As := [.ref (G.2.1 (50 + c93_1.toNatClampNeg)), .int v10]) (rest := []) dX1_movePictures_154 (kX1_moveEach (mL M) G hZ X.2.2.2.2.2.2.1 X.2.2.2.2.2.2.2.1 σ1 (50 + c93_1.toNatClampNeg) v10 (r12, σ13) h11) rfl shzC_90 clzC_1 gX1_movePictures_X1_moveEach hyX1_moveEach ⟨rfl, rfl⟩ ⟨Nat.le_of_ble_eq_true rfl, Nat.le_of_ble_eq_true rfl⟩ rfl rfl (Nat.le_of_ble_eq_true rfl) ?_
    exact ww_zret (pc := 157) X dX1_movePictures_157 (by cases hF; rfl) (by cases hF; rfl)
  · refine ww_aload_n (pc := 106) X (j := 0) dX1_movePictures_106 rfl rfl ?_
    refine ww_iload_n (pc := 107) X (j := 2) dX1_movePictures_107 rfl rfl ?_
    refine ww_aload_n (pc := 108) X (j := 0) dX1_movePictures_108 rfl rfl ?_
    refine ww_get (pc := 109) X (ref := "PictureBlock$Mover") (T := TX1) (j := 0) dX1_movePictures_109 inX1_movePictures_RX1 shzC_90 clzC_1 (by decide) rfl (List.mem_of_getElem? (i := 1) rfl) rfl ?_
    refine ww_get (pc := 112) X (ref := "PictureBlock$Told") (T := TX8) (j := 10) dX1_movePictures_112 inX1_movePictures_RX8 shzC_2 clzC_8 (by decide) rfl (List.mem_of_getElem? (i := 9) rfl) rfl ?_
    refine ww_iload_n (pc := 115) X (j := 2) dX1_movePictures_115 rfl rfl ?_
    refine ww_iald (pc := 116) X dX1_movePictures_116 shzC_20 rfl hF (fun v14 ev14 bv14 hF => ?_)
    refine ww_aload_n (pc := 117) X (j := 0) dX1_movePictures_117 rfl rfl ?_
    refine ww_get (pc := 118) X (ref := "PictureBlock$Mover") (T := TX1) (j := 1) dX1_movePictures_118 inX1_movePictures_RX1 shzC_90 clzC_1 (by decide) rfl (List.mem_of_getElem? (i := 3) rfl) rfl ?_
    refine ww_iload_n (pc := 121) X (j := 2) dX1_movePictures_121 rfl rfl ?_
    refine ww_iload_n (pc := 122) X (j := 1) dX1_movePictures_122 rfl rfl ?_
    obtain ⟨r16, h15, hF⟩ := bd_some hF
    refine ww_callVi (pc := 123) X (As := [.int a2, .int c93_1]) (rest := [.int v14, .int a2, .ref (G.2.1 90)]) dX1_movePictures_123 (kX5_centreAt_47 (mL M) G hZ X.2.2.2.2.2.2.1 X.2.2.2.2.2.2.2.1 σ1 a2 c93_1 r16 h15) rfl shzC_47 clzC_5 gX1_movePictures_X5_centreAt hyX5_centreAt ⟨rfl, rfl⟩ ⟨Nat.le_of_ble_eq_true rfl, Nat.le_of_ble_eq_true rfl⟩ rfl rfl (Nat.le_of_ble_eq_true rfl) ?_
    obtain ⟨σ18, h17, hF⟩ := bd_some hF
    refine ww_callVv (pc := 126) X (As := [.int a2, .int v14, .int r16]) (rest := []) dX1_movePictures_126 (kX1_addPull (mL M) G hZ X.2.2.2.2.2.2.1 X.2.2.2.2.2.2.2.1 σ1 a2 v14 r16 σ18 h17) rfl shzC_90 clzC_1 gX1_movePictures_X1_addPull hyX1_addPull ⟨rfl, rfl⟩ ⟨Nat.le_of_ble_eq_true rfl, Nat.le_of_ble_eq_true rfl⟩ rfl rfl (Nat.le_of_ble_eq_true rfl) ?_
    refine ww_iinc (pc := 129) X (j := 2) (v := 1) (lv' := [(0, .ref (G.2.1 90)), (1, .int c93_1)]) dX1_movePictures_129 rfl rfl (by decide) rfl hF (fun x19 ex19 hF => ?_)
    refine ww_goto (pc := 132) X (tgt := 93) dX1_movePictures_132 (by decide) ?_
    exact ww_sub [1, 2, 0] rfl (ih93 x19 σ18 hF)
set_option maxRecDepth 100000 in
set_option maxHeartbeats 4000000 in
theorem wbX1_movePictures_6 {M : gM} {G : gG} {out : Int32 × gS} (X : gX M G zC cX1_movePictures RX1 4 wsX1_movePictures rmX1_movePictures (some .boolean)) {ex : gEx} (hZ : ∀ s : State, G.2.2.2 s → kC ex (gA G zC.1) s) (σ : gS) (c6_1 : Int32) (rec6 : Int32 → gS → Option (Int32 × gS)) (ih6 : ∀ (a2 : Int32) (σ1 : gS), rec6 a2 σ1 = some out → WW M (gQi M G zC out.1 out.2) G zC 4 σ1 6 [(0, .ref (G.2.1 90)), (1, .int c6_1), (2, .int a2)] []) (a2 : Int32) (σ1 : gS) (hF : bX1_movePictures_6 σ c6_1 rec6 a2 σ1 = some out) : WW M (gQi M G zC out.1 out.2) G zC 4 σ1 6 [(0, .ref (G.2.1 90)), (1, .int c6_1), (2, .int a2)] [] := by
  unfold bX1_movePictures_6 at hF
  refine ww_iload_n (pc := 6) X (j := 2) dX1_movePictures_6 rfl rfl ?_
  refine ww_aload_n (pc := 7) X (j := 0) dX1_movePictures_7 rfl rfl ?_
  refine ww_get (pc := 8) X (ref := "PictureBlock$Mover") (T := TX1) (j := 0) dX1_movePictures_8 inX1_movePictures_RX1 shzC_90 clzC_1 (by decide) rfl (List.mem_of_getElem? (i := 1) rfl) rfl ?_
  refine ww_get (pc := 11) X (ref := "PictureBlock$Told") (T := TX8) (j := 0) dX1_movePictures_11 inX1_movePictures_RX8 shzC_2 clzC_8 (by decide) rfl (List.mem_of_getElem? (i := 2) rfl) rfl ?_
  refine ww_iconst (pc := 14) X (v := 3) dX1_movePictures_14 (by decide) ?_
  refine ww_iald (pc := 15) X dX1_movePictures_15 shzC_3 rfl hF (fun v4 ev4 bv4 hF => ?_)
  refine ww_icmp_ge (pc := 16) (tgt := 91) X dX1_movePictures_16 (by decide) hF (fun h5 hF => ?_) (fun h5 hF => ?_)
  · refine ww_iconst (pc := 91) X (v := 0) dX1_movePictures_91 (by decide) ?_
    refine ww_istore_n (pc := 92) X (lv' := [(0, .ref (G.2.1 90)), (1, .int c6_1)]) dX1_movePictures_92 rfl (by decide) rfl hF (fun x6 ex6 hF => ?_)
    exact ww_sub [1, 2, 0] rfl (lpc_ind (P := (fun (s : Int32 × gS) => WW M (gQi M G zC out.1 out.2) G zC 4 s.2 93 [(0, .ref (G.2.1 90)), (1, .int c6_1), (2, .int s.1)] [])) (fun rec s ih hF => wbX1_movePictures_93 X hZ σ1 c6_1 (fun a2 σ1 => rec (a2, σ1)) (fun a2 σ1 h => ih (a2, σ1) h) s.1 s.2 hF) K9 (x6, σ1) hF)
  · refine ww_aload_n (pc := 19) X (j := 0) dX1_movePictures_19 rfl rfl ?_
    refine ww_get (pc := 20) X (ref := "PictureBlock$Mover") (T := TX1) (j := 1) dX1_movePictures_20 inX1_movePictures_RX1 shzC_90 clzC_1 (by decide) rfl (List.mem_of_getElem? (i := 3) rfl) rfl ?_
    refine ww_iload_n (pc := 23) X (j := 2) dX1_movePictures_23 rfl rfl ?_
    obtain ⟨r21, h20, hF⟩ := bd_some hF
    refine ww_callVi (pc := 24) X (As := [.int a2]) (rest := []) dX1_movePictures_24 (kX5_uses_47 (mL M) G hZ X.2.2.2.2.2.2.1 X.2.2.2.2.2.2.2.1 σ1 a2 r21 h20) rfl shzC_47 clzC_5 gX1_movePictures_X5_uses hyX5_uses ⟨rfl, rfl⟩ ⟨Nat.le_of_ble_eq_true rfl, Nat.le_of_ble_eq_true rfl⟩ rfl rfl (Nat.le_of_ble_eq_true rfl) ?_
    refine ww_if_ne (pc := 27) (tgt := 33) X dX1_movePictures_27 (by decide) hF (fun h22 hF => ?_) (fun h22 hF => ?_)
    · refine ww_aload_n (pc := 33) X (j := 0) dX1_movePictures_33 rfl rfl ?_
      refine ww_get (pc := 34) X (ref := "PictureBlock$Mover") (T := TX1) (j := 1) dX1_movePictures_34 inX1_movePictures_RX1 shzC_90 clzC_1 (by decide) rfl (List.mem_of_getElem? (i := 3) rfl) rfl ?_
      refine ww_get (pc := 37) X (ref := "PictureBlock$Stand") (T := TX5) (j := 4) dX1_movePictures_37 inX1_movePictures_RX5 shzC_47 clzC_5 (by decide) rfl (List.mem_of_getElem? (i := 4) rfl) rfl ?_
      refine ww_iload_n (pc := 40) X (j := 1) dX1_movePictures_40 rfl rfl ?_
      refine ww_aald (pc := 41) X dX1_movePictures_41 shzC_52 rfl hF (fun h23 hF => ?_)
      refine ww_aload_n (pc := 42) X (j := 0) dX1_movePictures_42 rfl rfl ?_
      refine ww_get (pc := 43) X (ref := "PictureBlock$Mover") (T := TX1) (j := 0) dX1_movePictures_43 inX1_movePictures_RX1 shzC_90 clzC_1 (by decide) rfl (List.mem_of_getElem? (i := 1) rfl) rfl ?_
      refine ww_get (pc := 46) X (ref := "PictureBlock$Told") (T := TX8) (j := 5) dX1_movePictures_46 inX1_movePictures_RX8 shzC_2 clzC_8 (by decide) rfl (List.mem_of_getElem? (i := 5) rfl) rfl ?_
      refine ww_iload_n (pc := 49) X (j := 2) dX1_movePictures_49 rfl rfl ?_
      refine ww_iald (pc := 50) X dX1_movePictures_50 shzC_11 rfl hF (fun v24 ev24 bv24 hF => ?_)
      refine ww_iald (pc := 51) X dX1_movePictures_51 (rwzC_52 _ (gb_lt h23)) rfl hF (fun v25 ev25 bv25 hF => ?_)
      refine ww_aload_n (pc := 52) X (j := 0) dX1_movePictures_52 rfl rfl ?_
      refine ww_get (pc := 53) X (ref := "PictureBlock$Mover") (T := TX1) (j := 4) dX1_movePictures_53 inX1_movePictures_RX1 shzC_90 clzC_1 (by decide) rfl (List.mem_of_getElem? (i := 6) rfl) rfl ?_
      refine ww_iload_n (pc := 56) X (j := 1) dX1_movePictures_56 rfl rfl ?_
      refine ww_aald (pc := 57) X dX1_movePictures_57 shzC_93 rfl hF (fun h26 hF => ?_)
      refine ww_iload_n (pc := 58) X (j := 2) dX1_movePictures_58 rfl rfl ?_
      refine ww_iald (pc := 59) X dX1_movePictures_59 (rwzC_93 _ (gb_lt h26)) rfl hF (fun v27 ev27 bv27 hF => ?_)
      refine ww_isub (pc := 60) X dX1_movePictures_60 ?_
      refine ww_istore_n (pc := 61) X (lv' := [(0, .ref (G.2.1 90)), (1, .int c6_1), (2, .int a2)]) dX1_movePictures_61 rfl (by decide) rfl hF (fun x28 ex28 hF => ?_)
      refine ww_aload_n (pc := 62) X (j := 1) dX1_movePictures_62 rfl rfl ?_
      refine ww_aload_n (pc := 63) X (j := 1) dX1_movePictures_63 rfl rfl ?_
      refine ww_get (pc := 64) X (ref := "PictureBlock$Mover") (T := TX1) (j := 0) dX1_movePictures_64 inX1_movePictures_RX1 shzC_90 clzC_1 (by decide) rfl (List.mem_of_getElem? (i := 1) rfl) rfl ?_
      refine ww_get (pc := 67) X (ref := "PictureBlock$Told") (T := TX8) (j := 4) dX1_movePictures_67 inX1_movePictures_RX8 shzC_2 clzC_8 (by decide) rfl (List.mem_of_getElem? (i := 7) rfl) rfl ?_
      refine ww_iload_n (pc := 70) X (j := 3) dX1_movePictures_70 rfl rfl ?_
      refine ww_iald (pc := 71) X dX1_movePictures_71 shzC_10 rfl hF (fun v29 ev29 bv29 hF => ?_)
      refine ww_aload_n (pc := 72) X (j := 1) dX1_movePictures_72 rfl rfl ?_
      refine ww_get (pc := 73) X (ref := "PictureBlock$Mover") (T := TX1) (j := 0) dX1_movePictures_73 inX1_movePictures_RX1 shzC_90 clzC_1 (by decide) rfl (List.mem_of_getElem? (i := 1) rfl) rfl ?_
      refine ww_get (pc := 76) X (ref := "PictureBlock$Told") (T := TX8) (j := 7) dX1_movePictures_76 inX1_movePictures_RX8 shzC_2 clzC_8 (by decide) rfl (List.mem_of_getElem? (i := 8) rfl) rfl ?_
      refine ww_iload_n (pc := 79) X (j := 3) dX1_movePictures_79 rfl rfl ?_
      refine ww_iald (pc := 80) X dX1_movePictures_80 shzC_15 rfl hF (fun v30 ev30 bv30 hF => ?_)
      refine ww_iload_n (pc := 81) X (j := 0) dX1_movePictures_81 rfl rfl ?_
      obtain ⟨σ32, h31, hF⟩ := bd_some hF
      refine ww_callVv (pc := 82) X (As := [.int v29, .int v30, .int x28]) (rest := []) dX1_movePictures_82 (kX1_addPull (mL M) G hZ X.2.2.2.2.2.2.1 X.2.2.2.2.2.2.2.1 σ1 v29 v30 x28 σ32 h31) rfl shzC_90 clzC_1 gX1_movePictures_X1_addPull hyX1_addPull ⟨rfl, rfl⟩ ⟨Nat.le_of_ble_eq_true rfl, Nat.le_of_ble_eq_true rfl⟩ rfl rfl (Nat.le_of_ble_eq_true rfl) ?_
      refine ww_iinc (pc := 85) X (j := 3) (v := 1) (lv' := [(3, .int x28), (0, .ref (G.2.1 90)), (1, .int c6_1)]) dX1_movePictures_85 rfl rfl (by decide) rfl hF (fun x33 ex33 hF => ?_)
      refine ww_goto (pc := 88) X (tgt := 6) dX1_movePictures_88 (by decide) ?_
      exact ww_sub [2, 3, 0] rfl (ih6 x33 σ32 hF)
    · refine ww_goto (pc := 30) X (tgt := 85) dX1_movePictures_30 (by decide) ?_
      refine ww_iinc (pc := 85) X (j := 2) (v := 1) (lv' := [(0, .ref (G.2.1 90)), (1, .int c6_1)]) dX1_movePictures_85 rfl rfl (by decide) rfl hF (fun x34 ex34 hF => ?_)
      refine ww_goto (pc := 88) X (tgt := 6) dX1_movePictures_88 (by decide) ?_
      exact ww_sub [1, 2, 0] rfl (ih6 x34 σ1 hF)
set_option maxRecDepth 100000 in
set_option maxHeartbeats 4000000 in
theorem wX1_movePictures {M : gM} {G : gG} {out : Int32 × gS} (X : gX M G zC cX1_movePictures RX1 4 wsX1_movePictures rmX1_movePictures (some .boolean)) {ex : gEx} (hZ : ∀ s : State, G.2.2.2 s → kC ex (gA G zC.1) s) (σ : gS) (p1 : Int32) (hF : fX1_movePictures σ p1 = some out) : WW M (gQi M G zC out.1 out.2) G zC 4 σ 0 [(0, .ref (G.2.1 90)), (1, .int p1)] [] := by
  unfold fX1_movePictures at hF
  refine ww_aload_n (pc := 0) X (j := 0) dX1_movePictures_0 rfl rfl ?_
  obtain ⟨σ2, h1, hF⟩ := bd_some hF
  refine ww_callVv (pc := 1) X (As := []) (rest := []) dX1_movePictures_1 (kX1_clearPulls (mL M) G hZ X.2.2.2.2.2.2.1 X.2.2.2.2.2.2.2.1 σ σ2 h1) rfl shzC_90 clzC_1 gX1_movePictures_X1_clearPulls hyX1_clearPulls ⟨rfl, rfl⟩ ⟨Nat.le_of_ble_eq_true rfl, Nat.le_of_ble_eq_true rfl⟩ rfl rfl (Nat.le_of_ble_eq_true rfl) ?_
  refine ww_iconst (pc := 4) X (v := 0) dX1_movePictures_4 (by decide) ?_
  refine ww_istore_n (pc := 5) X (lv' := [(0, .ref (G.2.1 90)), (1, .int p1)]) dX1_movePictures_5 rfl (by decide) rfl hF (fun x3 ex3 hF => ?_)
  exact ww_sub [1, 2, 0] rfl (lpc_ind (P := (fun (s : Int32 × gS) => WW M (gQi M G zC out.1 out.2) G zC 4 s.2 6 [(0, .ref (G.2.1 90)), (1, .int p1), (2, .int s.1)] [])) (fun rec s ih hF => wbX1_movePictures_6 X hZ σ2 p1 (fun a2 σ1 => rec (a2, σ1)) (fun a2 σ1 h => ih (a2, σ1) h) s.1 s.2 hF) K9 (x3, σ2) hF)
set_option maxRecDepth 100000 in
set_option maxHeartbeats 4000000 in
theorem kX1_movePictures (l : Launch) (G : gG) {ex : gEx} (hZ : ∀ s : State, G.2.2.2 s → kC ex (gA G zC.1) s) (hG : gOK G zC.1) (hT : G.2.2.1.map (fun q => q.2) = zC.2.1) (σ : gS) (p1 : Int32) (out : Int32 × gS) (hF : fX1_movePictures σ p1 = some out) : gCi l yX1_movePictures wsX1_movePictures rmX1_movePictures G zC [.ref (G.2.1 90), .int p1] σ out.1 out.2 :=
  gEnter (by decide) rfl ⟨rfl, rfl⟩ hG hT (Nat.le_of_ble_eq_true rfl) rfl (fun M X hl => wX1_movePictures X hZ σ p1 hF)
noncomputable def bX1_moveDrifts_6 (σ : gS) (c6_1 : Int32) (rec6 : Int32 → gS → Option (Int32 × gS)) (a2 : Int32) (σ1 : gS) : Option (Int32 × gS) :=
  gd (gb 1 6) <| nm (σ1.1 3 ((1 : Int32).toNatClampNeg)) fun v4 => (if v4 ≤ a2 then gd (gb c6_1 2) <| gd (gb 0 6) <| nm (σ1.1 3 ((0 : Int32).toNatClampNeg)) fun v7 => bd2 (fX1_moveEach σ1 (56 + c6_1.toNatClampNeg) v7) fun r9 σ10 => some (vp_nar .boolean r9, σ10) else gd (gb c6_1 2) <| gd (gb a2 12) <| nm (σ1.1 (50 + c6_1.toNatClampNeg) a2.toNatClampNeg) fun v12 => gd (gb c6_1 2) <| gd (gb a2 12) <| nm (σ1.1 (22 + c6_1.toNatClampNeg) a2.toNatClampNeg) fun v14 => nm (v12 - (100 * v14) : Int32) fun x15 => gd (gb a2 12) <| nm (σ1.1 8 a2.toNatClampNeg) fun v16 => gd (gb a2 12) <| nm (σ1.1 20 a2.toNatClampNeg) fun v17 => bd (fX1_addPull σ1 v16 v17 x15) fun σ19 => nm (a2 + 1 : Int32) fun x20 => rec6 x20 σ19)
noncomputable def fX1_moveDrifts (σ : gS) (p1 : Int32) : Option (Int32 × gS) :=
  bd (fX1_clearPulls σ) fun σ2 => nm (0 : Int32) fun x3 => lpc (S := Int32 × gS) K9 (fun rec s => bX1_moveDrifts_6 σ2 p1 (fun a2 σ1 => rec (a2, σ1)) s.1 s.2) (x3, σ2)
noncomputable abbrev rmX1_moveDrifts : Room := { frames := 2, cells := 0, slots := 0, locals := 55 }
set_option maxRecDepth 100000 in
set_option maxHeartbeats 4000000 in
theorem wbX1_moveDrifts_6 {M : gM} {G : gG} {out : Int32 × gS} (X : gX M G zC cX1_moveDrifts RX1 4 wsX1_moveDrifts rmX1_moveDrifts (some .boolean)) {ex : gEx} (hZ : ∀ s : State, G.2.2.2 s → kC ex (gA G zC.1) s) (σ : gS) (c6_1 : Int32) (rec6 : Int32 → gS → Option (Int32 × gS)) (ih6 : ∀ (a2 : Int32) (σ1 : gS), rec6 a2 σ1 = some out → WW M (gQi M G zC out.1 out.2) G zC 4 σ1 6 [(0, .ref (G.2.1 90)), (1, .int c6_1), (2, .int a2)] []) (a2 : Int32) (σ1 : gS) (hF : bX1_moveDrifts_6 σ c6_1 rec6 a2 σ1 = some out) : WW M (gQi M G zC out.1 out.2) G zC 4 σ1 6 [(0, .ref (G.2.1 90)), (1, .int c6_1), (2, .int a2)] [] := by
  unfold bX1_moveDrifts_6 at hF
  refine ww_iload_n (pc := 6) X (j := 2) dX1_moveDrifts_6 rfl rfl ?_
  refine ww_aload_n (pc := 7) X (j := 0) dX1_moveDrifts_7 rfl rfl ?_
  refine ww_get (pc := 8) X (ref := "PictureBlock$Mover") (T := TX1) (j := 0) dX1_moveDrifts_8 inX1_moveDrifts_RX1 shzC_90 clzC_1 (by decide) rfl (List.mem_of_getElem? (i := 1) rfl) rfl ?_
  refine ww_get (pc := 11) X (ref := "PictureBlock$Told") (T := TX8) (j := 0) dX1_moveDrifts_11 inX1_moveDrifts_RX8 shzC_2 clzC_8 (by decide) rfl (List.mem_of_getElem? (i := 2) rfl) rfl ?_
  refine ww_iconst (pc := 14) X (v := 1) dX1_moveDrifts_14 (by decide) ?_
  refine ww_iald (pc := 15) X dX1_moveDrifts_15 shzC_3 rfl hF (fun v4 ev4 bv4 hF => ?_)
  refine ww_icmp_ge (pc := 16) (tgt := 75) X dX1_moveDrifts_16 (by decide) hF (fun h5 hF => ?_) (fun h5 hF => ?_)
  · refine ww_aload_n (pc := 75) X (j := 0) dX1_moveDrifts_75 rfl rfl ?_
    refine ww_aload_n (pc := 76) X (j := 0) dX1_moveDrifts_76 rfl rfl ?_
    refine ww_get (pc := 77) X (ref := "PictureBlock$Mover") (T := TX1) (j := 1) dX1_moveDrifts_77 inX1_moveDrifts_RX1 shzC_90 clzC_1 (by decide) rfl (List.mem_of_getElem? (i := 3) rfl) rfl ?_
    refine ww_get (pc := 80) X (ref := "PictureBlock$Stand") (T := TX5) (j := 5) dX1_moveDrifts_80 inX1_moveDrifts_RX5 shzC_47 clzC_5 (by decide) rfl (List.mem_of_getElem? (i := 8) rfl) rfl ?_
    refine ww_iload_n (pc := 83) X (j := 1) dX1_moveDrifts_83 rfl rfl ?_
    refine ww_aald (pc := 84) X dX1_moveDrifts_84 shzC_55 rfl hF (fun h6 hF => ?_)
    refine ww_aload_n (pc := 85) X (j := 0) dX1_moveDrifts_85 rfl rfl ?_
    refine ww_get (pc := 86) X (ref := "PictureBlock$Mover") (T := TX1) (j := 0) dX1_moveDrifts_86 inX1_moveDrifts_RX1 shzC_90 clzC_1 (by decide) rfl (List.mem_of_getElem? (i := 1) rfl) rfl ?_
    refine ww_get (pc := 89) X (ref := "PictureBlock$Told") (T := TX8) (j := 0) dX1_moveDrifts_89 inX1_moveDrifts_RX8 shzC_2 clzC_8 (by decide) rfl (List.mem_of_getElem? (i := 2) rfl) rfl ?_
    refine ww_iconst (pc := 92) X (v := 0) dX1_moveDrifts_92 (by decide) ?_
    refine ww_iald (pc := 93) X dX1_moveDrifts_93 shzC_3 rfl hF (fun v7 ev7 bv7 hF => ?_)
    obtain ⟨r9, σ10, h8, hF⟩ := bd2_some hF
    refine ww_callVi (pc := 94) X (As := [.ref (G.2.1 (56 + c6_1.toNatClampNeg)), .int v7]) (rest := []) dX1_moveDrifts_94 (kX1_moveEach (mL M) G hZ X.2.2.2.2.2.2.1 X.2.2.2.2.2.2.2.1 σ1 (56 + c6_1.toNatClampNeg) v7 (r9, σ10) h8) rfl shzC_90 clzC_1 gX1_moveDrifts_X1_moveEach hyX1_moveEach ⟨rfl, rfl⟩ ⟨Nat.le_of_ble_eq_true rfl, Nat.le_of_ble_eq_true rfl⟩ rfl rfl (Nat.le_of_ble_eq_true rfl) ?_
    exact ww_zret (pc := 97) X dX1_moveDrifts_97 (by cases hF; rfl) (by cases hF; rfl)
  · refine ww_aload_n (pc := 19) X (j := 0) dX1_moveDrifts_19 rfl rfl ?_
    refine ww_get (pc := 20) X (ref := "PictureBlock$Mover") (T := TX1) (j := 1) dX1_moveDrifts_20 inX1_moveDrifts_RX1 shzC_90 clzC_1 (by decide) rfl (List.mem_of_getElem? (i := 3) rfl) rfl ?_
    refine ww_get (pc := 23) X (ref := "PictureBlock$Stand") (T := TX5) (j := 3) dX1_moveDrifts_23 inX1_moveDrifts_RX5 shzC_47 clzC_5 (by decide) rfl (List.mem_of_getElem? (i := 4) rfl) rfl ?_
    refine ww_iload_n (pc := 26) X (j := 1) dX1_moveDrifts_26 rfl rfl ?_
    refine ww_aald (pc := 27) X dX1_moveDrifts_27 shzC_49 rfl hF (fun h11 hF => ?_)
    refine ww_iload_n (pc := 28) X (j := 2) dX1_moveDrifts_28 rfl rfl ?_
    refine ww_iald (pc := 29) X dX1_moveDrifts_29 (rwzC_49 _ (gb_lt h11)) rfl hF (fun v12 ev12 bv12 hF => ?_)
    refine ww_bipush (pc := 30) X (v := 100) dX1_moveDrifts_30 (by decide) ?_
    refine ww_aload_n (pc := 32) X (j := 0) dX1_moveDrifts_32 rfl rfl ?_
    refine ww_get (pc := 33) X (ref := "PictureBlock$Mover") (T := TX1) (j := 0) dX1_moveDrifts_33 inX1_moveDrifts_RX1 shzC_90 clzC_1 (by decide) rfl (List.mem_of_getElem? (i := 1) rfl) rfl ?_
    refine ww_get (pc := 36) X (ref := "PictureBlock$Told") (T := TX8) (j := 11) dX1_moveDrifts_36 inX1_moveDrifts_RX8 shzC_2 clzC_8 (by decide) rfl (List.mem_of_getElem? (i := 5) rfl) rfl ?_
    refine ww_iload_n (pc := 39) X (j := 1) dX1_moveDrifts_39 rfl rfl ?_
    refine ww_aald (pc := 40) X dX1_moveDrifts_40 shzC_21 rfl hF (fun h13 hF => ?_)
    refine ww_iload_n (pc := 41) X (j := 2) dX1_moveDrifts_41 rfl rfl ?_
    refine ww_iald (pc := 42) X dX1_moveDrifts_42 (rwzC_21 _ (gb_lt h13)) rfl hF (fun v14 ev14 bv14 hF => ?_)
    refine ww_imul (pc := 43) X dX1_moveDrifts_43 ?_
    refine ww_isub (pc := 44) X dX1_moveDrifts_44 ?_
    refine ww_istore_n (pc := 45) X (lv' := [(0, .ref (G.2.1 90)), (1, .int c6_1), (2, .int a2)]) dX1_moveDrifts_45 rfl (by decide) rfl hF (fun x15 ex15 hF => ?_)
    refine ww_aload_n (pc := 46) X (j := 1) dX1_moveDrifts_46 rfl rfl ?_
    refine ww_aload_n (pc := 47) X (j := 1) dX1_moveDrifts_47 rfl rfl ?_
    refine ww_get (pc := 48) X (ref := "PictureBlock$Mover") (T := TX1) (j := 0) dX1_moveDrifts_48 inX1_moveDrifts_RX1 shzC_90 clzC_1 (by decide) rfl (List.mem_of_getElem? (i := 1) rfl) rfl ?_
    refine ww_get (pc := 51) X (ref := "PictureBlock$Told") (T := TX8) (j := 2) dX1_moveDrifts_51 inX1_moveDrifts_RX8 shzC_2 clzC_8 (by decide) rfl (List.mem_of_getElem? (i := 6) rfl) rfl ?_
    refine ww_iload_n (pc := 54) X (j := 3) dX1_moveDrifts_54 rfl rfl ?_
    refine ww_iald (pc := 55) X dX1_moveDrifts_55 shzC_8 rfl hF (fun v16 ev16 bv16 hF => ?_)
    refine ww_aload_n (pc := 56) X (j := 1) dX1_moveDrifts_56 rfl rfl ?_
    refine ww_get (pc := 57) X (ref := "PictureBlock$Mover") (T := TX1) (j := 0) dX1_moveDrifts_57 inX1_moveDrifts_RX1 shzC_90 clzC_1 (by decide) rfl (List.mem_of_getElem? (i := 1) rfl) rfl ?_
    refine ww_get (pc := 60) X (ref := "PictureBlock$Told") (T := TX8) (j := 10) dX1_moveDrifts_60 inX1_moveDrifts_RX8 shzC_2 clzC_8 (by decide) rfl (List.mem_of_getElem? (i := 7) rfl) rfl ?_
    refine ww_iload_n (pc := 63) X (j := 3) dX1_moveDrifts_63 rfl rfl ?_
    refine ww_iald (pc := 64) X dX1_moveDrifts_64 shzC_20 rfl hF (fun v17 ev17 bv17 hF => ?_)
    refine ww_iload_n (pc := 65) X (j := 0) dX1_moveDrifts_65 rfl rfl ?_
    obtain ⟨σ19, h18, hF⟩ := bd_some hF
    refine ww_callVv (pc := 66) X (As := [.int v16, .int v17, .int x15]) (rest := []) dX1_moveDrifts_66 (kX1_addPull (mL M) G hZ X.2.2.2.2.2.2.1 X.2.2.2.2.2.2.2.1 σ1 v16 v17 x15 σ19 h18) rfl shzC_90 clzC_1 gX1_moveDrifts_X1_addPull hyX1_addPull ⟨rfl, rfl⟩ ⟨Nat.le_of_ble_eq_true rfl, Nat.le_of_ble_eq_true rfl⟩ rfl rfl (Nat.le_of_ble_eq_true rfl) ?_
    refine ww_iinc (pc := 69) X (j := 3) (v := 1) (lv' := [(3, .int x15), (0, .ref (G.2.1 90)), (1, .int c6_1)]) dX1_moveDrifts_69 rfl rfl (by decide) rfl hF (fun x20 ex20 hF => ?_)
    refine ww_goto (pc := 72) X (tgt := 6) dX1_moveDrifts_72 (by decide) ?_
    exact ww_sub [2, 3, 0] rfl (ih6 x20 σ19 hF)
set_option maxRecDepth 100000 in
set_option maxHeartbeats 4000000 in
theorem wX1_moveDrifts {M : gM} {G : gG} {out : Int32 × gS} (X : gX M G zC cX1_moveDrifts RX1 4 wsX1_moveDrifts rmX1_moveDrifts (some .boolean)) {ex : gEx} (hZ : ∀ s : State, G.2.2.2 s → kC ex (gA G zC.1) s) (σ : gS) (p1 : Int32) (hF : fX1_moveDrifts σ p1 = some out) : WW M (gQi M G zC out.1 out.2) G zC 4 σ 0 [(0, .ref (G.2.1 90)), (1, .int p1)] [] := by
  unfold fX1_moveDrifts at hF
  refine ww_aload_n (pc := 0) X (j := 0) dX1_moveDrifts_0 rfl rfl ?_
  obtain ⟨σ2, h1, hF⟩ := bd_some hF
  refine ww_callVv (pc := 1) X (As := []) (rest := []) dX1_moveDrifts_1 (kX1_clearPulls (mL M) G hZ X.2.2.2.2.2.2.1 X.2.2.2.2.2.2.2.1 σ σ2 h1) rfl shzC_90 clzC_1 gX1_moveDrifts_X1_clearPulls hyX1_clearPulls ⟨rfl, rfl⟩ ⟨Nat.le_of_ble_eq_true rfl, Nat.le_of_ble_eq_true rfl⟩ rfl rfl (Nat.le_of_ble_eq_true rfl) ?_
  refine ww_iconst (pc := 4) X (v := 0) dX1_moveDrifts_4 (by decide) ?_
  refine ww_istore_n (pc := 5) X (lv' := [(0, .ref (G.2.1 90)), (1, .int p1)]) dX1_moveDrifts_5 rfl (by decide) rfl hF (fun x3 ex3 hF => ?_)
  exact ww_sub [1, 2, 0] rfl (lpc_ind (P := (fun (s : Int32 × gS) => WW M (gQi M G zC out.1 out.2) G zC 4 s.2 6 [(0, .ref (G.2.1 90)), (1, .int p1), (2, .int s.1)] [])) (fun rec s ih hF => wbX1_moveDrifts_6 X hZ σ2 p1 (fun a2 σ1 => rec (a2, σ1)) (fun a2 σ1 h => ih (a2, σ1) h) s.1 s.2 hF) K9 (x3, σ2) hF)
set_option maxRecDepth 100000 in
set_option maxHeartbeats 4000000 in
theorem kX1_moveDrifts (l : Launch) (G : gG) {ex : gEx} (hZ : ∀ s : State, G.2.2.2 s → kC ex (gA G zC.1) s) (hG : gOK G zC.1) (hT : G.2.2.1.map (fun q => q.2) = zC.2.1) (σ : gS) (p1 : Int32) (out : Int32 × gS) (hF : fX1_moveDrifts σ p1 = some out) : gCi l yX1_moveDrifts wsX1_moveDrifts rmX1_moveDrifts G zC [.ref (G.2.1 90), .int p1] σ out.1 out.2 :=
  gEnter (by decide) rfl ⟨rfl, rfl⟩ hG hT (Nat.le_of_ble_eq_true rfl) rfl (fun M X hl => wX1_moveDrifts X hZ σ p1 hF)
noncomputable def jX1_makeRound_29 (σ : gS) (rec4 : Int32 → Int32 → gS → Option (Int32 × gS)) (a1 : Int32) (a2 : Int32) : Option (Int32 × gS) :=
  bd2 (fX1_moveDrifts σ a2) fun r13 σ14 => (if r13 = 0 then nm (a2 + 1 : Int32) fun x16 => rec4 a1 x16 σ14 else nm (1 : Int32) fun x17 => nm (a2 + 1 : Int32) fun x18 => rec4 x17 x18 σ14)
noncomputable def jX1_makeRound_19 (σ : gS) (rec4 : Int32 → Int32 → gS → Option (Int32 × gS)) (a1 : Int32) (a2 : Int32) : Option (Int32 × gS) :=
  bd2 (fX1_movePictures σ a2) fun r9 σ10 => (if r9 = 0 then jX1_makeRound_29 σ10 rec4 a1 a2 else nm (1 : Int32) fun x19 => jX1_makeRound_29 σ10 rec4 x19 a2)
noncomputable def bX1_makeRound_4 (σ : gS) (rec4 : Int32 → Int32 → gS → Option (Int32 × gS)) (a1 : Int32) (a2 : Int32) (σ1 : gS) : Option (Int32 × gS) :=
  if 2 ≤ a2 then some (vp_nar .boolean a1, σ1) else bd2 (fX1_movePoints σ1 a2) fun r5 σ6 => (if r5 = 0 then jX1_makeRound_19 σ6 rec4 a1 a2 else nm (1 : Int32) fun x20 => jX1_makeRound_19 σ6 rec4 x20 a2)
noncomputable def fX1_makeRound (σ : gS) : Option (Int32 × gS) :=
  nm (0 : Int32) fun x1 => nm (0 : Int32) fun x2 => lpc (S := Int32 × Int32 × gS) K9 (fun rec s => bX1_makeRound_4 σ (fun a1 a2 σ1 => rec (a1, a2, σ1)) s.1 s.2.1 s.2.2) (x1, x2, σ)
noncomputable abbrev rmX1_makeRound : Room := { frames := 3, cells := 0, slots := 0, locals := 78 }
set_option maxRecDepth 100000 in
set_option maxHeartbeats 4000000 in
theorem wjX1_makeRound_29 {M : gM} {G : gG} {out : Int32 × gS} (X : gX M G zC cX1_makeRound RX1 3 wsX1_makeRound rmX1_makeRound (some .boolean)) {ex : gEx} (hZ : ∀ s : State, G.2.2.2 s → kC ex (gA G zC.1) s) (σ : gS) (rec4 : Int32 → Int32 → gS → Option (Int32 × gS)) (ih4 : ∀ (a1 : Int32) (a2 : Int32) (σ1 : gS), rec4 a1 a2 σ1 = some out → WW M (gQi M G zC out.1 out.2) G zC 3 σ1 4 [(0, .ref (G.2.1 90)), (1, .int a1), (2, .int a2)] []) (a1 : Int32) (a2 : Int32) (hF : jX1_makeRound_29 σ rec4 a1 a2 = some out) : WW M (gQi M G zC out.1 out.2) G zC 3 σ 29 [(0, .ref (G.2.1 90)), (1, .int a1), (2, .int a2)] [] := by
  unfold jX1_makeRound_29 at hF
  refine ww_aload_n (pc := 29) X (j := 0) dX1_makeRound_29 rfl rfl ?_
  refine ww_iload_n (pc := 30) X (j := 2) dX1_makeRound_30 rfl rfl ?_
  obtain ⟨r13, σ14, h12, hF⟩ := bd2_some hF
  refine ww_callVi (pc := 31) X (As := [.int a2]) (rest := []) dX1_makeRound_31 (kX1_moveDrifts (mL M) G hZ X.2.2.2.2.2.2.1 X.2.2.2.2.2.2.2.1 σ a2 (r13, σ14) h12) rfl shzC_90 clzC_1 gX1_makeRound_X1_moveDrifts hyX1_moveDrifts ⟨rfl, rfl⟩ ⟨Nat.le_of_ble_eq_true rfl, Nat.le_of_ble_eq_true rfl⟩ rfl rfl (Nat.le_of_ble_eq_true rfl) ?_
  refine ww_if_eq (pc := 34) (tgt := 39) X dX1_makeRound_34 (by decide) hF (fun h15 hF => ?_) (fun h15 hF => ?_)
  · refine ww_iinc (pc := 39) X (j := 2) (v := 1) (lv' := [(0, .ref (G.2.1 90)), (1, .int a1)]) dX1_makeRound_39 rfl rfl (by decide) rfl hF (fun x16 ex16 hF => ?_)
    refine ww_goto (pc := 42) X (tgt := 4) dX1_makeRound_42 (by decide) ?_
    exact ww_sub [1, 2, 0] rfl (ih4 a1 x16 σ14 hF)
  · refine ww_iconst (pc := 37) X (v := 1) dX1_makeRound_37 (by decide) ?_
    refine ww_istore_n (pc := 38) X (lv' := [(0, .ref (G.2.1 90)), (2, .int a2)]) dX1_makeRound_38 rfl (by decide) rfl hF (fun x17 ex17 hF => ?_)
    refine ww_iinc (pc := 39) X (j := 2) (v := 1) (lv' := [(1, .int x17), (0, .ref (G.2.1 90))]) dX1_makeRound_39 rfl rfl (by decide) rfl hF (fun x18 ex18 hF => ?_)
    refine ww_goto (pc := 42) X (tgt := 4) dX1_makeRound_42 (by decide) ?_
    exact ww_sub [2, 1, 0] rfl (ih4 x17 x18 σ14 hF)
set_option maxRecDepth 100000 in
set_option maxHeartbeats 4000000 in
theorem wjX1_makeRound_19 {M : gM} {G : gG} {out : Int32 × gS} (X : gX M G zC cX1_makeRound RX1 3 wsX1_makeRound rmX1_makeRound (some .boolean)) {ex : gEx} (hZ : ∀ s : State, G.2.2.2 s → kC ex (gA G zC.1) s) (σ : gS) (rec4 : Int32 → Int32 → gS → Option (Int32 × gS)) (ih4 : ∀ (a1 : Int32) (a2 : Int32) (σ1 : gS), rec4 a1 a2 σ1 = some out → WW M (gQi M G zC out.1 out.2) G zC 3 σ1 4 [(0, .ref (G.2.1 90)), (1, .int a1), (2, .int a2)] []) (a1 : Int32) (a2 : Int32) (hF : jX1_makeRound_19 σ rec4 a1 a2 = some out) : WW M (gQi M G zC out.1 out.2) G zC 3 σ 19 [(0, .ref (G.2.1 90)), (1, .int a1), (2, .int a2)] [] := by
  unfold jX1_makeRound_19 at hF
  refine ww_aload_n (pc := 19) X (j := 0) dX1_makeRound_19 rfl rfl ?_
  refine ww_iload_n (pc := 20) X (j := 2) dX1_makeRound_20 rfl rfl ?_
  obtain ⟨r9, σ10, h8, hF⟩ := bd2_some hF
  refine ww_callVi (pc := 21) X (As := [.int a2]) (rest := []) dX1_makeRound_21 (kX1_movePictures (mL M) G hZ X.2.2.2.2.2.2.1 X.2.2.2.2.2.2.2.1 σ a2 (r9, σ10) h8) rfl shzC_90 clzC_1 gX1_makeRound_X1_movePictures hyX1_movePictures ⟨rfl, rfl⟩ ⟨Nat.le_of_ble_eq_true rfl, Nat.le_of_ble_eq_true rfl⟩ rfl rfl (Nat.le_of_ble_eq_true rfl) ?_
  refine ww_if_eq (pc := 24) (tgt := 29) X dX1_makeRound_24 (by decide) hF (fun h11 hF => ?_) (fun h11 hF => ?_)
  · exact ww_sub [0, 1, 2] rfl (wjX1_makeRound_29 X hZ σ10 rec4 ih4 a1 a2 hF)
  · refine ww_iconst (pc := 27) X (v := 1) dX1_makeRound_27 (by decide) ?_
    refine ww_istore_n (pc := 28) X (lv' := [(0, .ref (G.2.1 90)), (2, .int a2)]) dX1_makeRound_28 rfl (by decide) rfl hF (fun x19 ex19 hF => ?_)
    exact ww_sub [1, 0, 2] rfl (wjX1_makeRound_29 X hZ σ10 rec4 ih4 x19 a2 hF)
set_option maxRecDepth 100000 in
set_option maxHeartbeats 4000000 in
theorem wbX1_makeRound_4 {M : gM} {G : gG} {out : Int32 × gS} (X : gX M G zC cX1_makeRound RX1 3 wsX1_makeRound rmX1_makeRound (some .boolean)) {ex : gEx} (hZ : ∀ s : State, G.2.2.2 s → kC ex (gA G zC.1) s) (σ : gS) (rec4 : Int32 → Int32 → gS → Option (Int32 × gS)) (ih4 : ∀ (a1 : Int32) (a2 : Int32) (σ1 : gS), rec4 a1 a2 σ1 = some out → WW M (gQi M G zC out.1 out.2) G zC 3 σ1 4 [(0, .ref (G.2.1 90)), (1, .int a1), (2, .int a2)] []) (a1 : Int32) (a2 : Int32) (σ1 : gS) (hF : bX1_makeRound_4 σ rec4 a1 a2 σ1 = some out) : WW M (gQi M G zC out.1 out.2) G zC 3 σ1 4 [(0, .ref (G.2.1 90)), (1, .int a1), (2, .int a2)] [] := by
  unfold bX1_makeRound_4 at hF
  refine ww_iload_n (pc := 4) X (j := 2) dX1_makeRound_4 rfl rfl ?_
  refine ww_iconst (pc := 5) X (v := 2) dX1_makeRound_5 (by decide) ?_
  refine ww_icmp_ge (pc := 6) (tgt := 45) X dX1_makeRound_6 (by decide) hF (fun h3 hF => ?_) (fun h3 hF => ?_)
  · refine ww_iload_n (pc := 45) X (j := 1) dX1_makeRound_45 rfl rfl ?_
    exact ww_zret (pc := 46) X dX1_makeRound_46 (by cases hF; rfl) (by cases hF; rfl)
  · refine ww_aload_n (pc := 9) X (j := 0) dX1_makeRound_9 rfl rfl ?_
    refine ww_iload_n (pc := 10) X (j := 2) dX1_makeRound_10 rfl rfl ?_
    obtain ⟨r5, σ6, h4, hF⟩ := bd2_some hF
    refine ww_callVi (pc := 11) X (As := [.int a2]) (rest := []) dX1_makeRound_11 (kX1_movePoints (mL M) G hZ X.2.2.2.2.2.2.1 X.2.2.2.2.2.2.2.1 σ1 a2 (r5, σ6) h4) rfl shzC_90 clzC_1 gX1_makeRound_X1_movePoints hyX1_movePoints ⟨rfl, rfl⟩ ⟨Nat.le_of_ble_eq_true rfl, Nat.le_of_ble_eq_true rfl⟩ rfl rfl (Nat.le_of_ble_eq_true rfl) ?_
    refine ww_if_eq (pc := 14) (tgt := 19) X dX1_makeRound_14 (by decide) hF (fun h7 hF => ?_) (fun h7 hF => ?_)
    · exact ww_sub [0, 1, 2] rfl (wjX1_makeRound_19 X hZ σ6 rec4 ih4 a1 a2 hF)
    · refine ww_iconst (pc := 17) X (v := 1) dX1_makeRound_17 (by decide) ?_
      refine ww_istore_n (pc := 18) X (lv' := [(0, .ref (G.2.1 90)), (2, .int a2)]) dX1_makeRound_18 rfl (by decide) rfl hF (fun x20 ex20 hF => ?_)
      exact ww_sub [1, 0, 2] rfl (wjX1_makeRound_19 X hZ σ6 rec4 ih4 x20 a2 hF)
set_option maxRecDepth 100000 in
set_option maxHeartbeats 4000000 in
theorem wX1_makeRound {M : gM} {G : gG} {out : Int32 × gS} (X : gX M G zC cX1_makeRound RX1 3 wsX1_makeRound rmX1_makeRound (some .boolean)) {ex : gEx} (hZ : ∀ s : State, G.2.2.2 s → kC ex (gA G zC.1) s) (σ : gS) (hF : fX1_makeRound σ = some out) : WW M (gQi M G zC out.1 out.2) G zC 3 σ 0 [(0, .ref (G.2.1 90))] [] := by
  unfold fX1_makeRound at hF
  refine ww_iconst (pc := 0) X (v := 0) dX1_makeRound_0 (by decide) ?_
  refine ww_istore_n (pc := 1) X (lv' := [(0, .ref (G.2.1 90))]) dX1_makeRound_1 rfl (by decide) rfl hF (fun x1 ex1 hF => ?_)
  refine ww_iconst (pc := 2) X (v := 0) dX1_makeRound_2 (by decide) ?_
  refine ww_istore_n (pc := 3) X (lv' := [(1, .int x1), (0, .ref (G.2.1 90))]) dX1_makeRound_3 rfl (by decide) rfl hF (fun x2 ex2 hF => ?_)
  exact ww_sub [2, 1, 0] rfl (lpc_ind (P := (fun (s : Int32 × Int32 × gS) => WW M (gQi M G zC out.1 out.2) G zC 3 s.2.2 4 [(0, .ref (G.2.1 90)), (1, .int s.1), (2, .int s.2.1)] [])) (fun rec s ih hF => wbX1_makeRound_4 X hZ σ (fun a1 a2 σ1 => rec (a1, a2, σ1)) (fun a1 a2 σ1 h => ih (a1, a2, σ1) h) s.1 s.2.1 s.2.2 hF) K9 (x1, x2, σ) hF)
set_option maxRecDepth 100000 in
set_option maxHeartbeats 4000000 in
theorem kX1_makeRound (l : Launch) (G : gG) {ex : gEx} (hZ : ∀ s : State, G.2.2.2 s → kC ex (gA G zC.1) s) (hG : gOK G zC.1) (hT : G.2.2.1.map (fun q => q.2) = zC.2.1) (σ : gS) (out : Int32 × gS) (hF : fX1_makeRound σ = some out) : gCi l yX1_makeRound wsX1_makeRound rmX1_makeRound G zC [.ref (G.2.1 90)] σ out.1 out.2 :=
  gEnter (by decide) rfl ⟨rfl, rfl⟩ hG hT (Nat.le_of_ble_eq_true rfl) rfl (fun M X hl => wX1_makeRound X hZ σ hF)
