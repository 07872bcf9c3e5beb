noncomputable def fJ0_coder_7d493_K3 (σ : gS) : Option (Int32) :=
  if (1 : Int32) = 0 then none else some (vp_nar .byte (0 : Int32))
set_option maxRecDepth 100000 in
set_option maxHeartbeats 4000000 in
theorem wJ0_coder_7d493_K3 {M : gM} {G : gG} {out : Int32} (X : gX M G zC cJ0_coder_7d493 RJ0 1 wsJ0_coder_7d493 rmJ0_coder_7d493 (some .byte)) {ex : gEx} (hZ : ∀ s : State, G.2.2.2 s → kC ex (gA G zC.1) s) (σ : gS) (hF : fJ0_coder_7d493_K3 σ = some out) : WW M (gQi M G zC out σ) G zC 1 σ 0 [(0, .ref (ex.1 3))] [] := by
  unfold fJ0_coder_7d493_K3 at hF
  refine ww_getsE (pc := 0) X (v := .int 1) dJ0_coder_7d493_0 (eC_compact (hZ _ (gXk X))) (List.mem_of_getElem? (i := 1) rfl) rfl ?_
  refine ww_if_eq (pc := 3) (tgt := 13) X dJ0_coder_7d493_3 (by decide) hF (fun h1 hF => ?_) (fun h1 hF => ?_)
  · cases hF
  · refine ww_aload_n (pc := 6) X (j := 0) dJ0_coder_7d493_6 rfl rfl ?_
    refine ww_getE (pc := 7) X dJ0_coder_7d493_7 (eC_coder (hZ _ (gXk X)) 3 (by decide)) (List.mem_of_getElem? (i := 2) rfl) rfl ?_
    refine ww_goto (pc := 10) X (tgt := 14) dJ0_coder_7d493_10 (by decide) ?_
    exact ww_nret (pc := 14) X dJ0_coder_7d493_14 rfl (Option.some.inj hF) rfl
set_option maxRecDepth 100000 in
set_option maxHeartbeats 4000000 in
theorem kJ0_coder_7d493_K3 (l : Launch) (G : gG) {ex : gEx} (hZ : ∀ s : State, G.2.2.2 s → kC ex (gA G zC.1) s) (hG : gOK G zC.1) (hT : G.2.2.1.map (fun q => q.2) = zC.2.1) (σ : gS) (out : Int32) (hF : fJ0_coder_7d493_K3 σ = some out) : gCi l yJ0_coder_7d493 wsJ0_coder_7d493 rmJ0_coder_7d493 G zC [.ref (ex.1 3)] σ out σ :=
  gEnter (by decide) rfl ⟨rfl, rfl⟩ hG hT (Nat.le_of_ble_eq_true rfl) rfl (fun M X hl => wJ0_coder_7d493_K3 X hZ σ hF)
noncomputable def fJ0_length_8abf5_K3 (σ : gS) : Option (Int32) :=
  bd (fJ0_coder_7d493_K3 σ) fun r2 => some (3 >>> (r2 &&& 31))
set_option maxRecDepth 100000 in
set_option maxHeartbeats 4000000 in
theorem wJ0_length_8abf5_K3 {M : gM} {G : gG} {out : Int32} (X : gX M G zC cJ0_length_8abf5 RJ0 1 wsJ0_length_8abf5 rmJ0_length_8abf5 (some .int)) {ex : gEx} (hZ : ∀ s : State, G.2.2.2 s → kC ex (gA G zC.1) s) (σ : gS) (hF : fJ0_length_8abf5_K3 σ = some out) : WW M (gQi M G zC out σ) G zC 1 σ 0 [(0, .ref (ex.1 3))] [] := by
  unfold fJ0_length_8abf5_K3 at hF
  refine ww_aload_n (pc := 0) X (j := 0) dJ0_length_8abf5_0 rfl rfl ?_
  refine ww_getE (pc := 1) X dJ0_length_8abf5_1 (eC_value (hZ _ (gXk X)) 3 (by decide)) (List.mem_of_getElem? (i := 1) rfl) rfl ?_
  refine ww_lenE (pc := 4) X (N := 3) (v := 3) dJ0_length_8abf5_4 (eC_bytes (hZ _ (gXk X)) 3 (by decide)) (by decide) ?_
  refine ww_aload_n (pc := 5) X (j := 0) dJ0_length_8abf5_5 rfl rfl ?_
  obtain ⟨r2, h1, hF⟩ := bd_some hF
  refine ww_callXi (pc := 6) X (As := []) (rest := [.int 3]) dJ0_length_8abf5_6 (kJ0_coder_7d493_K3 (mL M) G hZ X.2.2.2.2.2.2.1 X.2.2.2.2.2.2.2.1 σ r2 h1) rfl ((hZ _ (gXk X)).1.1 3 (by decide)).1 gJ0_length_8abf5_J0_coder_7d493 hyJ0_coder_7d493 ⟨rfl, rfl⟩ ⟨Nat.le_of_ble_eq_true rfl, Nat.le_of_ble_eq_true rfl⟩ rfl rfl (Nat.le_of_ble_eq_true rfl) ?_
  refine ww_ishr (pc := 9) X dJ0_length_8abf5_9 ?_
  exact ww_iret (pc := 10) X dJ0_length_8abf5_10 (Option.some.inj hF) rfl
set_option maxRecDepth 100000 in
set_option maxHeartbeats 4000000 in
theorem kJ0_length_8abf5_K3 (l : Launch) (G : gG) {ex : gEx} (hZ : ∀ s : State, G.2.2.2 s → kC ex (gA G zC.1) s) (hG : gOK G zC.1) (hT : G.2.2.1.map (fun q => q.2) = zC.2.1) (σ : gS) (out : Int32) (hF : fJ0_length_8abf5_K3 σ = some out) : gCi l yJ0_length_8abf5 wsJ0_length_8abf5 rmJ0_length_8abf5 G zC [.ref (ex.1 3)] σ out σ :=
  gEnter (by decide) rfl ⟨rfl, rfl⟩ hG hT (Nat.le_of_ble_eq_true rfl) rfl (fun M X hl => wJ0_length_8abf5_K3 X hZ σ hF)
noncomputable def fJ0_isLatin1_aae02_K3 (σ : gS) : Option (Int32) :=
  if (1 : Int32) = 0 then none else if (0 : Int32) = 0 then some 1 else none
set_option maxRecDepth 100000 in
set_option maxHeartbeats 4000000 in
theorem wJ0_isLatin1_aae02_K3 {M : gM} {G : gG} {out : Int32} (X : gX M G zC cJ0_isLatin1_aae02 RJ0 1 wsJ0_isLatin1_aae02 rmJ0_isLatin1_aae02 (some .boolean)) {ex : gEx} (hZ : ∀ s : State, G.2.2.2 s → kC ex (gA G zC.1) s) (σ : gS) (hF : fJ0_isLatin1_aae02_K3 σ = some out) : WW M (gQi M G zC out σ) G zC 1 σ 0 [(0, .ref (ex.1 3))] [] := by
  unfold fJ0_isLatin1_aae02_K3 at hF
  refine ww_getsE (pc := 0) X (v := .int 1) dJ0_isLatin1_aae02_0 (eC_compact (hZ _ (gXk X))) (List.mem_of_getElem? (i := 1) rfl) rfl ?_
  refine ww_if_eq (pc := 3) (tgt := 17) X dJ0_isLatin1_aae02_3 (by decide) hF (fun h1 hF => ?_) (fun h1 hF => ?_)
  · cases hF
  · refine ww_aload_n (pc := 6) X (j := 0) dJ0_isLatin1_aae02_6 rfl rfl ?_
    refine ww_getE (pc := 7) X dJ0_isLatin1_aae02_7 (eC_coder (hZ _ (gXk X)) 3 (by decide)) (List.mem_of_getElem? (i := 2) rfl) rfl ?_
    refine ww_if_ne (pc := 10) (tgt := 17) X dJ0_isLatin1_aae02_10 (by decide) hF (fun h2 hF => ?_) (fun h2 hF => ?_)
    · cases hF
    · refine ww_iconst (pc := 13) X (v := 1) dJ0_isLatin1_aae02_13 (by decide) ?_
      refine ww_goto (pc := 14) X (tgt := 18) dJ0_isLatin1_aae02_14 (by decide) ?_
      exact ww_zret (pc := 18) X dJ0_isLatin1_aae02_18 (by cases hF; rfl) rfl
set_option maxRecDepth 100000 in
set_option maxHeartbeats 4000000 in
theorem kJ0_isLatin1_aae02_K3 (l : Launch) (G : gG) {ex : gEx} (hZ : ∀ s : State, G.2.2.2 s → kC ex (gA G zC.1) s) (hG : gOK G zC.1) (hT : G.2.2.1.map (fun q => q.2) = zC.2.1) (σ : gS) (out : Int32) (hF : fJ0_isLatin1_aae02_K3 σ = some out) : gCi l yJ0_isLatin1_aae02 wsJ0_isLatin1_aae02 rmJ0_isLatin1_aae02 G zC [.ref (ex.1 3)] σ out σ :=
  gEnter (by decide) rfl ⟨rfl, rfl⟩ hG hT (Nat.le_of_ble_eq_true rfl) rfl (fun M X hl => wJ0_isLatin1_aae02_K3 X hZ σ hF)
noncomputable def fJ1_charAt_3b067_V3 (σ : gS) (p1 : Int32) : Option (Int32) :=
  bd (fJ0_checkIndex_df160 σ p1 3) fun u2 => gd (gb p1 3) <| nm ((bytC 3) p1.toNatClampNeg) fun v3 => some (vp_nar .char (((v3 &&& 255).toUInt32 % 65536).toInt32))
set_option maxRecDepth 100000 in
set_option maxHeartbeats 4000000 in
theorem wJ1_charAt_3b067_V3 {M : gM} {G : gG} {out : Int32} (X : gX M G zC cJ1_charAt_3b067 RJ1 2 wsJ1_charAt_3b067 rmJ1_charAt_3b067 (some .char)) {ex : gEx} (hZ : ∀ s : State, G.2.2.2 s → kC ex (gA G zC.1) s) (σ : gS) (p1 : Int32) (hF : fJ1_charAt_3b067_V3 σ p1 = some out) : WW M (gQi M G zC out σ) G zC 2 σ 0 [(0, .ref (ex.2.1 3)), (1, .int p1)] [] := by
  unfold fJ1_charAt_3b067_V3 at hF
  refine ww_iload_n (pc := 0) X (j := 1) dJ1_charAt_3b067_0 rfl rfl ?_
  refine ww_aload_n (pc := 1) X (j := 0) dJ1_charAt_3b067_1 rfl rfl ?_
  refine ww_lenE (pc := 2) X (N := 3) (v := 3) dJ1_charAt_3b067_2 (eC_bytes (hZ _ (gXk X)) 3 (by decide)) (by decide) ?_
  obtain ⟨u2, h1, hF⟩ := bd_some hF
  refine ww_callSv (pc := 3) X (As := [.int p1, .int 3]) (rest := []) dJ1_charAt_3b067_3 (kJ0_checkIndex_df160 (mL M) G hZ X.2.2.2.2.2.2.1 X.2.2.2.2.2.2.2.1 σ p1 3 h1) rfl gJ1_charAt_3b067_J0_checkIndex_df160 hyJ0_checkIndex_df160 ⟨rfl, rfl⟩ ⟨Nat.le_of_ble_eq_true rfl, Nat.le_of_ble_eq_true rfl⟩ rfl rfl (Nat.le_of_ble_eq_true rfl) ?_
  refine ww_aload_n (pc := 6) X (j := 0) dJ1_charAt_3b067_6 rfl rfl ?_
  refine ww_iload_n (pc := 7) X (j := 1) dJ1_charAt_3b067_7 rfl rfl ?_
  refine ww_tbE (pc := 8) X (N := 3) (g := (bytC 3)) dJ1_charAt_3b067_8 (eC_bytes (hZ _ (gXk X)) 3 (by decide)) hF (fun v3 ev3 bv3 hF => ?_)
  refine ww_sipush (pc := 9) X (v := 255) dJ1_charAt_3b067_9 (by decide) ?_
  refine ww_iand (pc := 12) X dJ1_charAt_3b067_12 ?_
  refine ww_i2c (pc := 13) X dJ1_charAt_3b067_13 ?_
  exact ww_nret (pc := 14) X dJ1_charAt_3b067_14 rfl (Option.some.inj hF) rfl
set_option maxRecDepth 100000 in
set_option maxHeartbeats 4000000 in
theorem kJ1_charAt_3b067_V3 (l : Launch) (G : gG) {ex : gEx} (hZ : ∀ s : State, G.2.2.2 s → kC ex (gA G zC.1) s) (hG : gOK G zC.1) (hT : G.2.2.1.map (fun q => q.2) = zC.2.1) (σ : gS) (p1 : Int32) (out : Int32) (hF : fJ1_charAt_3b067_V3 σ p1 = some out) : gCi l yJ1_charAt_3b067 wsJ1_charAt_3b067 rmJ1_charAt_3b067 G zC [.ref (ex.2.1 3), .int p1] σ out σ :=
  gEnter (by decide) rfl ⟨rfl, rfl⟩ hG hT (Nat.le_of_ble_eq_true rfl) rfl (fun M X hl => wJ1_charAt_3b067_V3 X hZ σ p1 hF)
noncomputable def fJ0_charAt_5068e_K3 (σ : gS) (p1 : Int32) : Option (Int32) :=
  bd (fJ0_isLatin1_aae02_K3 σ) fun r2 => (if r2 = 0 then none else bd (fJ1_charAt_3b067_V3 σ p1) fun r5 => some (vp_nar .char r5))
set_option maxRecDepth 100000 in
set_option maxHeartbeats 4000000 in
theorem wJ0_charAt_5068e_K3 {M : gM} {G : gG} {out : Int32} (X : gX M G zC cJ0_charAt_5068e RJ0 2 wsJ0_charAt_5068e rmJ0_charAt_5068e (some .char)) {ex : gEx} (hZ : ∀ s : State, G.2.2.2 s → kC ex (gA G zC.1) s) (σ : gS) (p1 : Int32) (hF : fJ0_charAt_5068e_K3 σ p1 = some out) : WW M (gQi M G zC out σ) G zC 2 σ 0 [(0, .ref (ex.1 3)), (1, .int p1)] [] := by
  unfold fJ0_charAt_5068e_K3 at hF
  refine ww_aload_n (pc := 0) X (j := 0) dJ0_charAt_5068e_0 rfl rfl ?_
  obtain ⟨r2, h1, hF⟩ := bd_some hF
  refine ww_callXi (pc := 1) X (As := []) (rest := []) dJ0_charAt_5068e_1 (kJ0_isLatin1_aae02_K3 (mL M) G hZ X.2.2.2.2.2.2.1 X.2.2.2.2.2.2.2.1 σ r2 h1) rfl ((hZ _ (gXk X)).1.1 3 (by decide)).1 gJ0_charAt_5068e_J0_isLatin1_aae02 hyJ0_isLatin1_aae02 ⟨rfl, rfl⟩ ⟨Nat.le_of_ble_eq_true rfl, Nat.le_of_ble_eq_true rfl⟩ rfl rfl (Nat.le_of_ble_eq_true rfl) ?_
  refine ww_if_eq (pc := 4) (tgt := 16) X dJ0_charAt_5068e_4 (by decide) hF (fun h3 hF => ?_) (fun h3 hF => ?_)
  · refine ww_aload_n (pc := 16) X (j := 0) dJ0_charAt_5068e_16 rfl rfl ?_
    refine ww_getE (pc := 17) X dJ0_charAt_5068e_17 (eC_value (hZ _ (gXk X)) 3 (by decide)) (List.mem_of_getElem? (i := 1) rfl) rfl ?_
    refine ww_iload_n (pc := 20) X (j := 1) dJ0_charAt_5068e_20 rfl rfl ?_
    cases hF
  · refine ww_aload_n (pc := 7) X (j := 0) dJ0_charAt_5068e_7 rfl rfl ?_
    refine ww_getE (pc := 8) X dJ0_charAt_5068e_8 (eC_value (hZ _ (gXk X)) 3 (by decide)) (List.mem_of_getElem? (i := 1) rfl) rfl ?_
    refine ww_iload_n (pc := 11) X (j := 1) dJ0_charAt_5068e_11 rfl rfl ?_
    obtain ⟨r5, h4, hF⟩ := bd_some hF
    refine ww_callSi (pc := 12) X (As := [.ref (ex.2.1 3), .int p1]) (rest := []) dJ0_charAt_5068e_12 (kJ1_charAt_3b067_V3 (mL M) G hZ X.2.2.2.2.2.2.1 X.2.2.2.2.2.2.2.1 σ p1 r5 h4) rfl gJ0_charAt_5068e_J1_charAt_3b067 hyJ1_charAt_3b067 ⟨rfl, rfl⟩ ⟨Nat.le_of_ble_eq_true rfl, Nat.le_of_ble_eq_true rfl⟩ rfl rfl (Nat.le_of_ble_eq_true rfl) ?_
    exact ww_nret (pc := 15) X dJ0_charAt_5068e_15 rfl (Option.some.inj hF) rfl
set_option maxRecDepth 100000 in
set_option maxHeartbeats 4000000 in
theorem kJ0_charAt_5068e_K3 (l : Launch) (G : gG) {ex : gEx} (hZ : ∀ s : State, G.2.2.2 s → kC ex (gA G zC.1) s) (hG : gOK G zC.1) (hT : G.2.2.1.map (fun q => q.2) = zC.2.1) (σ : gS) (p1 : Int32) (out : Int32) (hF : fJ0_charAt_5068e_K3 σ p1 = some out) : gCi l yJ0_charAt_5068e wsJ0_charAt_5068e rmJ0_charAt_5068e G zC [.ref (ex.1 3), .int p1] σ out σ :=
  gEnter (by decide) rfl ⟨rfl, rfl⟩ hG hT (Nat.le_of_ble_eq_true rfl) rfl (fun M X hl => wJ0_charAt_5068e_K3 X hZ σ p1 hF)
noncomputable def bX3_isWord_K3_20 (σ : gS) (rec20 : Int32 → Option (Int32)) (a2 : Int32) : Option (Int32) :=
  bd (fJ0_length_8abf5_K3 σ) fun r6 => (if r6 ≤ a2 then some 1 else gd (gb ((σ.1 46 6) + a2) 1600) <| nm (σ.1 1 ((σ.1 46 6) + a2).toNatClampNeg) fun v8 => bd (fJ0_charAt_5068e_K3 σ a2) fun r10 => (if v8 = r10 then nm (a2 + 1 : Int32) fun x12 => rec20 x12 else some 0))
noncomputable def fX3_isWord_K3 (σ : gS) : Option (Int32) :=
  bd (fJ0_length_8abf5_K3 σ) fun r2 => (if ((σ.1 46 7) - (σ.1 46 6)) = r2 then nm (0 : Int32) fun x4 => lpc (S := Int32) K9 (fun rec s => bX3_isWord_K3_20 σ (fun a2 => rec (a2)) s) (x4) else some 0)
set_option maxRecDepth 100000 in
set_option maxHeartbeats 4000000 in
theorem wbX3_isWord_K3_20 {M : gM} {G : gG} {out : Int32} (X : gX M G zC cX3_isWord RX3 3 wsX3_isWord rmX3_isWord (some .boolean)) {ex : gEx} (hZ : ∀ s : State, G.2.2.2 s → kC ex (gA G zC.1) s) (σ : gS) (rec20 : Int32 → Option (Int32)) (ih20 : ∀ (a2 : Int32), rec20 a2 = some out → WW M (gQi M G zC out σ) G zC 3 σ 20 [(0, .ref (G.2.1 46)), (1, .ref (ex.1 3)), (2, .int a2)] []) (a2 : Int32) (hF : bX3_isWord_K3_20 σ rec20 a2 = some out) : WW M (gQi M G zC out σ) G zC 3 σ 20 [(0, .ref (G.2.1 46)), (1, .ref (ex.1 3)), (2, .int a2)] [] := by
  unfold bX3_isWord_K3_20 at hF
  refine ww_iload_n (pc := 20) X (j := 2) dX3_isWord_20 rfl rfl ?_
  refine ww_aload_n (pc := 21) X (j := 1) dX3_isWord_21 rfl rfl ?_
  obtain ⟨r6, h5, hF⟩ := bd_some hF
  refine ww_callXi (pc := 22) X (As := []) (rest := [.int a2]) dX3_isWord_22 (kJ0_length_8abf5_K3 (mL M) G hZ X.2.2.2.2.2.2.1 X.2.2.2.2.2.2.2.1 σ r6 h5) rfl ((hZ _ (gXk X)).1.1 3 (by decide)).1 gX3_isWord_J0_length_8abf5 hyJ0_length_8abf5 ⟨rfl, rfl⟩ ⟨Nat.le_of_ble_eq_true rfl, Nat.le_of_ble_eq_true rfl⟩ rfl rfl (Nat.le_of_ble_eq_true rfl) ?_
  refine ww_icmp_ge (pc := 25) (tgt := 55) X dX3_isWord_25 (by decide) hF (fun h7 hF => ?_) (fun h7 hF => ?_)
  · refine ww_iconst (pc := 55) X (v := 1) dX3_isWord_55 (by decide) ?_
    exact ww_zret (pc := 56) X dX3_isWord_56 (by cases hF; rfl) rfl
  · refine ww_aload_n (pc := 28) X (j := 0) dX3_isWord_28 rfl rfl ?_
    refine ww_get (pc := 29) X (ref := "PictureBlock$Reader") (T := TX3) (j := 0) dX3_isWord_29 inX3_isWord_RX3 shzC_46 clzC_3 (by decide) rfl (List.mem_of_getElem? (i := 3) rfl) rfl ?_
    refine ww_aload_n (pc := 32) X (j := 0) dX3_isWord_32 rfl rfl ?_
    refine ww_get (pc := 33) X (ref := "PictureBlock$Reader") (T := TX3) (j := 6) dX3_isWord_33 inX3_isWord_RX3 shzC_46 clzC_3 (by decide) rfl (List.mem_of_getElem? (i := 2) rfl) rfl ?_
    refine ww_iload_n (pc := 36) X (j := 2) dX3_isWord_36 rfl rfl ?_
    refine ww_iadd (pc := 37) X dX3_isWord_37 ?_
    refine ww_iald (pc := 38) X dX3_isWord_38 shzC_1 rfl hF (fun v8 ev8 bv8 hF => ?_)
    refine ww_aload_n (pc := 39) X (j := 1) dX3_isWord_39 rfl rfl ?_
    refine ww_iload_n (pc := 40) X (j := 2) dX3_isWord_40 rfl rfl ?_
    obtain ⟨r10, h9, hF⟩ := bd_some hF
    refine ww_callXi (pc := 41) X (As := [.int a2]) (rest := [.int v8]) dX3_isWord_41 (kJ0_charAt_5068e_K3 (mL M) G hZ X.2.2.2.2.2.2.1 X.2.2.2.2.2.2.2.1 σ a2 r10 h9) rfl ((hZ _ (gXk X)).1.1 3 (by decide)).1 gX3_isWord_J0_charAt_5068e hyJ0_charAt_5068e ⟨rfl, rfl⟩ ⟨Nat.le_of_ble_eq_true rfl, Nat.le_of_ble_eq_true rfl⟩ rfl rfl (Nat.le_of_ble_eq_true rfl) ?_
    refine ww_icmp_eq (pc := 44) (tgt := 49) X dX3_isWord_44 (by decide) hF (fun h11 hF => ?_) (fun h11 hF => ?_)
    · refine ww_iinc (pc := 49) X (j := 2) (v := 1) (lv' := [(0, .ref (G.2.1 46)), (1, .ref (ex.1 3))]) dX3_isWord_49 rfl rfl (by decide) rfl hF (fun x12 ex12 hF => ?_)
      refine ww_goto (pc := 52) X (tgt := 20) dX3_isWord_52 (by decide) ?_
      exact ww_sub [1, 2, 0] rfl (ih20 x12 hF)
    · refine ww_iconst (pc := 47) X (v := 0) dX3_isWord_47 (by decide) ?_
      exact ww_zret (pc := 48) X dX3_isWord_48 (by cases hF; rfl) rfl
set_option maxRecDepth 100000 in
set_option maxHeartbeats 4000000 in
theorem wX3_isWord_K3 {M : gM} {G : gG} {out : Int32} (X : gX M G zC cX3_isWord RX3 3 wsX3_isWord rmX3_isWord (some .boolean)) {ex : gEx} (hZ : ∀ s : State, G.2.2.2 s → kC ex (gA G zC.1) s) (σ : gS) (hF : fX3_isWord_K3 σ = some out) : WW M (gQi M G zC out σ) G zC 3 σ 0 [(0, .ref (G.2.1 46)), (1, .ref (ex.1 3))] [] := by
  unfold fX3_isWord_K3 at hF
  refine ww_aload_n (pc := 0) X (j := 0) dX3_isWord_0 rfl rfl ?_
  refine ww_get (pc := 1) X (ref := "PictureBlock$Reader") (T := TX3) (j := 7) dX3_isWord_1 inX3_isWord_RX3 shzC_46 clzC_3 (by decide) rfl (List.mem_of_getElem? (i := 1) rfl) rfl ?_
  refine ww_aload_n (pc := 4) X (j := 0) dX3_isWord_4 rfl rfl ?_
  refine ww_get (pc := 5) X (ref := "PictureBlock$Reader") (T := TX3) (j := 6) dX3_isWord_5 inX3_isWord_RX3 shzC_46 clzC_3 (by decide) rfl (List.mem_of_getElem? (i := 2) rfl) rfl ?_
  refine ww_isub (pc := 8) X dX3_isWord_8 ?_
  refine ww_aload_n (pc := 9) X (j := 1) dX3_isWord_9 rfl rfl ?_
  obtain ⟨r2, h1, hF⟩ := bd_some hF
  refine ww_callXi (pc := 10) X (As := []) (rest := [.int ((σ.1 46 7) - (σ.1 46 6))]) dX3_isWord_10 (kJ0_length_8abf5_K3 (mL M) G hZ X.2.2.2.2.2.2.1 X.2.2.2.2.2.2.2.1 σ r2 h1) rfl ((hZ _ (gXk X)).1.1 3 (by decide)).1 gX3_isWord_J0_length_8abf5 hyJ0_length_8abf5 ⟨rfl, rfl⟩ ⟨Nat.le_of_ble_eq_true rfl, Nat.le_of_ble_eq_true rfl⟩ rfl rfl (Nat.le_of_ble_eq_true rfl) ?_
  refine ww_icmp_eq (pc := 13) (tgt := 18) X dX3_isWord_13 (by decide) hF (fun h3 hF => ?_) (fun h3 hF => ?_)
  · refine ww_iconst (pc := 18) X (v := 0) dX3_isWord_18 (by decide) ?_
    refine ww_istore_n (pc := 19) X (lv' := [(0, .ref (G.2.1 46)), (1, .ref (ex.1 3))]) dX3_isWord_19 rfl (by decide) rfl hF (fun x4 ex4 hF => ?_)
    exact ww_sub [1, 2, 0] rfl (lpc_ind (P := (fun (s : Int32) => WW M (gQi M G zC out σ) G zC 3 σ 20 [(0, .ref (G.2.1 46)), (1, .ref (ex.1 3)), (2, .int s)] [])) (fun rec s ih hF => wbX3_isWord_K3_20 X hZ σ (fun a2 => rec (a2)) (fun a2 h => ih (a2) h) s hF) K9 (x4) hF)
  · refine ww_iconst (pc := 16) X (v := 0) dX3_isWord_16 (by decide) ?_
    exact ww_zret (pc := 17) X dX3_isWord_17 (by cases hF; rfl) rfl
set_option maxRecDepth 100000 in
set_option maxHeartbeats 4000000 in
theorem kX3_isWord_K3 (l : Launch) (G : gG) {ex : gEx} (hZ : ∀ s : State, G.2.2.2 s → kC ex (gA G zC.1) s) (hG : gOK G zC.1) (hT : G.2.2.1.map (fun q => q.2) = zC.2.1) (σ : gS) (out : Int32) (hF : fX3_isWord_K3 σ = some out) : gCi l yX3_isWord wsX3_isWord rmX3_isWord G zC [.ref (G.2.1 46), .ref (ex.1 3)] σ out σ :=
  gEnter (by decide) rfl ⟨rfl, rfl⟩ hG hT (Nat.le_of_ble_eq_true rfl) rfl (fun M X hl => wX3_isWord_K3 X hZ σ hF)
noncomputable def fJ0_coder_7d493_K4 (σ : gS) : Option (Int32) :=
  if (1 : Int32) = 0 then none else some (vp_nar .byte (0 : Int32))
set_option maxRecDepth 100000 in
set_option maxHeartbeats 4000000 in
theorem wJ0_coder_7d493_K4 {M : gM} {G : gG} {out : Int32} (X : gX M G zC cJ0_coder_7d493 RJ0 1 wsJ0_coder_7d493 rmJ0_coder_7d493 (some .byte)) {ex : gEx} (hZ : ∀ s : State, G.2.2.2 s → kC ex (gA G zC.1) s) (σ : gS) (hF : fJ0_coder_7d493_K4 σ = some out) : WW M (gQi M G zC out σ) G zC 1 σ 0 [(0, .ref (ex.1 4))] [] := by
  unfold fJ0_coder_7d493_K4 at hF
  refine ww_getsE (pc := 0) X (v := .int 1) dJ0_coder_7d493_0 (eC_compact (hZ _ (gXk X))) (List.mem_of_getElem? (i := 1) rfl) rfl ?_
  refine ww_if_eq (pc := 3) (tgt := 13) X dJ0_coder_7d493_3 (by decide) hF (fun h1 hF => ?_) (fun h1 hF => ?_)
  · cases hF
  · refine ww_aload_n (pc := 6) X (j := 0) dJ0_coder_7d493_6 rfl rfl ?_
    refine ww_getE (pc := 7) X dJ0_coder_7d493_7 (eC_coder (hZ _ (gXk X)) 4 (by decide)) (List.mem_of_getElem? (i := 2) rfl) rfl ?_
    refine ww_goto (pc := 10) X (tgt := 14) dJ0_coder_7d493_10 (by decide) ?_
    exact ww_nret (pc := 14) X dJ0_coder_7d493_14 rfl (Option.some.inj hF) rfl
set_option maxRecDepth 100000 in
set_option maxHeartbeats 4000000 in
theorem kJ0_coder_7d493_K4 (l : Launch) (G : gG) {ex : gEx} (hZ : ∀ s : State, G.2.2.2 s → kC ex (gA G zC.1) s) (hG : gOK G zC.1) (hT : G.2.2.1.map (fun q => q.2) = zC.2.1) (σ : gS) (out : Int32) (hF : fJ0_coder_7d493_K4 σ = some out) : gCi l yJ0_coder_7d493 wsJ0_coder_7d493 rmJ0_coder_7d493 G zC [.ref (ex.1 4)] σ out σ :=
  gEnter (by decide) rfl ⟨rfl, rfl⟩ hG hT (Nat.le_of_ble_eq_true rfl) rfl (fun M X hl => wJ0_coder_7d493_K4 X hZ σ hF)
noncomputable def fJ0_length_8abf5_K4 (σ : gS) : Option (Int32) :=
  bd (fJ0_coder_7d493_K4 σ) fun r2 => some (7 >>> (r2 &&& 31))
set_option maxRecDepth 100000 in
set_option maxHeartbeats 4000000 in
theorem wJ0_length_8abf5_K4 {M : gM} {G : gG} {out : Int32} (X : gX M G zC cJ0_length_8abf5 RJ0 1 wsJ0_length_8abf5 rmJ0_length_8abf5 (some .int)) {ex : gEx} (hZ : ∀ s : State, G.2.2.2 s → kC ex (gA G zC.1) s) (σ : gS) (hF : fJ0_length_8abf5_K4 σ = some out) : WW M (gQi M G zC out σ) G zC 1 σ 0 [(0, .ref (ex.1 4))] [] := by
  unfold fJ0_length_8abf5_K4 at hF
  refine ww_aload_n (pc := 0) X (j := 0) dJ0_length_8abf5_0 rfl rfl ?_
  refine ww_getE (pc := 1) X dJ0_length_8abf5_1 (eC_value (hZ _ (gXk X)) 4 (by decide)) (List.mem_of_getElem? (i := 1) rfl) rfl ?_
  refine ww_lenE (pc := 4) X (N := 7) (v := 7) dJ0_length_8abf5_4 (eC_bytes (hZ _ (gXk X)) 4 (by decide)) (by decide) ?_
  refine ww_aload_n (pc := 5) X (j := 0) dJ0_length_8abf5_5 rfl rfl ?_
  obtain ⟨r2, h1, hF⟩ := bd_some hF
  refine ww_callXi (pc := 6) X (As := []) (rest := [.int 7]) dJ0_length_8abf5_6 (kJ0_coder_7d493_K4 (mL M) G hZ X.2.2.2.2.2.2.1 X.2.2.2.2.2.2.2.1 σ r2 h1) rfl ((hZ _ (gXk X)).1.1 4 (by decide)).1 gJ0_length_8abf5_J0_coder_7d493 hyJ0_coder_7d493 ⟨rfl, rfl⟩ ⟨Nat.le_of_ble_eq_true rfl, Nat.le_of_ble_eq_true rfl⟩ rfl rfl (Nat.le_of_ble_eq_true rfl) ?_
  refine ww_ishr (pc := 9) X dJ0_length_8abf5_9 ?_
  exact ww_iret (pc := 10) X dJ0_length_8abf5_10 (Option.some.inj hF) rfl
set_option maxRecDepth 100000 in
set_option maxHeartbeats 4000000 in
theorem kJ0_length_8abf5_K4 (l : Launch) (G : gG) {ex : gEx} (hZ : ∀ s : State, G.2.2.2 s → kC ex (gA G zC.1) s) (hG : gOK G zC.1) (hT : G.2.2.1.map (fun q => q.2) = zC.2.1) (σ : gS) (out : Int32) (hF : fJ0_length_8abf5_K4 σ = some out) : gCi l yJ0_length_8abf5 wsJ0_length_8abf5 rmJ0_length_8abf5 G zC [.ref (ex.1 4)] σ out σ :=
  gEnter (by decide) rfl ⟨rfl, rfl⟩ hG hT (Nat.le_of_ble_eq_true rfl) rfl (fun M X hl => wJ0_length_8abf5_K4 X hZ σ hF)
noncomputable def fJ0_isLatin1_aae02_K4 (σ : gS) : Option (Int32) :=
  if (1 : Int32) = 0 then none else if (0 : Int32) = 0 then some 1 else none
set_option maxRecDepth 100000 in
set_option maxHeartbeats 4000000 in
theorem wJ0_isLatin1_aae02_K4 {M : gM} {G : gG} {out : Int32} (X : gX M G zC cJ0_isLatin1_aae02 RJ0 1 wsJ0_isLatin1_aae02 rmJ0_isLatin1_aae02 (some .boolean)) {ex : gEx} (hZ : ∀ s : State, G.2.2.2 s → kC ex (gA G zC.1) s) (σ : gS) (hF : fJ0_isLatin1_aae02_K4 σ = some out) : WW M (gQi M G zC out σ) G zC 1 σ 0 [(0, .ref (ex.1 4))] [] := by
  unfold fJ0_isLatin1_aae02_K4 at hF
  refine ww_getsE (pc := 0) X (v := .int 1) dJ0_isLatin1_aae02_0 (eC_compact (hZ _ (gXk X))) (List.mem_of_getElem? (i := 1) rfl) rfl ?_
  refine ww_if_eq (pc := 3) (tgt := 17) X dJ0_isLatin1_aae02_3 (by decide) hF (fun h1 hF => ?_) (fun h1 hF => ?_)
  · cases hF
  · refine ww_aload_n (pc := 6) X (j := 0) dJ0_isLatin1_aae02_6 rfl rfl ?_
    refine ww_getE (pc := 7) X dJ0_isLatin1_aae02_7 (eC_coder (hZ _ (gXk X)) 4 (by decide)) (List.mem_of_getElem? (i := 2) rfl) rfl ?_
    refine ww_if_ne (pc := 10) (tgt := 17) X dJ0_isLatin1_aae02_10 (by decide) hF (fun h2 hF => ?_) (fun h2 hF => ?_)
    · cases hF
    · refine ww_iconst (pc := 13) X (v := 1) dJ0_isLatin1_aae02_13 (by decide) ?_
      refine ww_goto (pc := 14) X (tgt := 18) dJ0_isLatin1_aae02_14 (by decide) ?_
      exact ww_zret (pc := 18) X dJ0_isLatin1_aae02_18 (by cases hF; rfl) rfl
set_option maxRecDepth 100000 in
set_option maxHeartbeats 4000000 in
theorem kJ0_isLatin1_aae02_K4 (l : Launch) (G : gG) {ex : gEx} (hZ : ∀ s : State, G.2.2.2 s → kC ex (gA G zC.1) s) (hG : gOK G zC.1) (hT : G.2.2.1.map (fun q => q.2) = zC.2.1) (σ : gS) (out : Int32) (hF : fJ0_isLatin1_aae02_K4 σ = some out) : gCi l yJ0_isLatin1_aae02 wsJ0_isLatin1_aae02 rmJ0_isLatin1_aae02 G zC [.ref (ex.1 4)] σ out σ :=
  gEnter (by decide) rfl ⟨rfl, rfl⟩ hG hT (Nat.le_of_ble_eq_true rfl) rfl (fun M X hl => wJ0_isLatin1_aae02_K4 X hZ σ hF)
noncomputable def fJ1_charAt_3b067_V4 (σ : gS) (p1 : Int32) : Option (Int32) :=
  bd (fJ0_checkIndex_df160 σ p1 7) fun u2 => gd (gb p1 7) <| nm ((bytC 4) p1.toNatClampNeg) fun v3 => some (vp_nar .char (((v3 &&& 255).toUInt32 % 65536).toInt32))
set_option maxRecDepth 100000 in
set_option maxHeartbeats 4000000 in
theorem wJ1_charAt_3b067_V4 {M : gM} {G : gG} {out : Int32} (X : gX M G zC cJ1_charAt_3b067 RJ1 2 wsJ1_charAt_3b067 rmJ1_charAt_3b067 (some .char)) {ex : gEx} (hZ : ∀ s : State, G.2.2.2 s → kC ex (gA G zC.1) s) (σ : gS) (p1 : Int32) (hF : fJ1_charAt_3b067_V4 σ p1 = some out) : WW M (gQi M G zC out σ) G zC 2 σ 0 [(0, .ref (ex.2.1 4)), (1, .int p1)] [] := by
  unfold fJ1_charAt_3b067_V4 at hF
  refine ww_iload_n (pc := 0) X (j := 1) dJ1_charAt_3b067_0 rfl rfl ?_
  refine ww_aload_n (pc := 1) X (j := 0) dJ1_charAt_3b067_1 rfl rfl ?_
  refine ww_lenE (pc := 2) X (N := 7) (v := 7) dJ1_charAt_3b067_2 (eC_bytes (hZ _ (gXk X)) 4 (by decide)) (by decide) ?_
  obtain ⟨u2, h1, hF⟩ := bd_some hF
  refine ww_callSv (pc := 3) X (As := [.int p1, .int 7]) (rest := []) dJ1_charAt_3b067_3 (kJ0_checkIndex_df160 (mL M) G hZ X.2.2.2.2.2.2.1 X.2.2.2.2.2.2.2.1 σ p1 7 h1) rfl gJ1_charAt_3b067_J0_checkIndex_df160 hyJ0_checkIndex_df160 ⟨rfl, rfl⟩ ⟨Nat.le_of_ble_eq_true rfl, Nat.le_of_ble_eq_true rfl⟩ rfl rfl (Nat.le_of_ble_eq_true rfl) ?_
  refine ww_aload_n (pc := 6) X (j := 0) dJ1_charAt_3b067_6 rfl rfl ?_
  refine ww_iload_n (pc := 7) X (j := 1) dJ1_charAt_3b067_7 rfl rfl ?_
  refine ww_tbE (pc := 8) X (N := 7) (g := (bytC 4)) dJ1_charAt_3b067_8 (eC_bytes (hZ _ (gXk X)) 4 (by decide)) hF (fun v3 ev3 bv3 hF => ?_)
  refine ww_sipush (pc := 9) X (v := 255) dJ1_charAt_3b067_9 (by decide) ?_
  refine ww_iand (pc := 12) X dJ1_charAt_3b067_12 ?_
  refine ww_i2c (pc := 13) X dJ1_charAt_3b067_13 ?_
  exact ww_nret (pc := 14) X dJ1_charAt_3b067_14 rfl (Option.some.inj hF) rfl
set_option maxRecDepth 100000 in
set_option maxHeartbeats 4000000 in
theorem kJ1_charAt_3b067_V4 (l : Launch) (G : gG) {ex : gEx} (hZ : ∀ s : State, G.2.2.2 s → kC ex (gA G zC.1) s) (hG : gOK G zC.1) (hT : G.2.2.1.map (fun q => q.2) = zC.2.1) (σ : gS) (p1 : Int32) (out : Int32) (hF : fJ1_charAt_3b067_V4 σ p1 = some out) : gCi l yJ1_charAt_3b067 wsJ1_charAt_3b067 rmJ1_charAt_3b067 G zC [.ref (ex.2.1 4), .int p1] σ out σ :=
  gEnter (by decide) rfl ⟨rfl, rfl⟩ hG hT (Nat.le_of_ble_eq_true rfl) rfl (fun M X hl => wJ1_charAt_3b067_V4 X hZ σ p1 hF)
noncomputable def fJ0_charAt_5068e_K4 (σ : gS) (p1 : Int32) : Option (Int32) :=
  bd (fJ0_isLatin1_aae02_K4 σ) fun r2 => (if r2 = 0 then none else bd (fJ1_charAt_3b067_V4 σ p1) fun r5 => some (vp_nar .char r5))
set_option maxRecDepth 100000 in
set_option maxHeartbeats 4000000 in
theorem wJ0_charAt_5068e_K4 {M : gM} {G : gG} {out : Int32} (X : gX M G zC cJ0_charAt_5068e RJ0 2 wsJ0_charAt_5068e rmJ0_charAt_5068e (some .char)) {ex : gEx} (hZ : ∀ s : State, G.2.2.2 s → kC ex (gA G zC.1) s) (σ : gS) (p1 : Int32) (hF : fJ0_charAt_5068e_K4 σ p1 = some out) : WW M (gQi M G zC out σ) G zC 2 σ 0 [(0, .ref (ex.1 4)), (1, .int p1)] [] := by
  unfold fJ0_charAt_5068e_K4 at hF
  refine ww_aload_n (pc := 0) X (j := 0) dJ0_charAt_5068e_0 rfl rfl ?_
  obtain ⟨r2, h1, hF⟩ := bd_some hF
  refine ww_callXi (pc := 1) X (As := []) (rest := []) dJ0_charAt_5068e_1 (kJ0_isLatin1_aae02_K4 (mL M) G hZ X.2.2.2.2.2.2.1 X.2.2.2.2.2.2.2.1 σ r2 h1) rfl ((hZ _ (gXk X)).1.1 4 (by decide)).1 gJ0_charAt_5068e_J0_isLatin1_aae02 hyJ0_isLatin1_aae02 ⟨rfl, rfl⟩ ⟨Nat.le_of_ble_eq_true rfl, Nat.le_of_ble_eq_true rfl⟩ rfl rfl (Nat.le_of_ble_eq_true rfl) ?_
  refine ww_if_eq (pc := 4) (tgt := 16) X dJ0_charAt_5068e_4 (by decide) hF (fun h3 hF => ?_) (fun h3 hF => ?_)
  · refine ww_aload_n (pc := 16) X (j := 0) dJ0_charAt_5068e_16 rfl rfl ?_
    refine ww_getE (pc := 17) X dJ0_charAt_5068e_17 (eC_value (hZ _ (gXk X)) 4 (by decide)) (List.mem_of_getElem? (i := 1) rfl) rfl ?_
    refine ww_iload_n (pc := 20) X (j := 1) dJ0_charAt_5068e_20 rfl rfl ?_
    cases hF
  · refine ww_aload_n (pc := 7) X (j := 0) dJ0_charAt_5068e_7 rfl rfl ?_
    refine ww_getE (pc := 8) X dJ0_charAt_5068e_8 (eC_value (hZ _ (gXk X)) 4 (by decide)) (List.mem_of_getElem? (i := 1) rfl) rfl ?_
    refine ww_iload_n (pc := 11) X (j := 1) dJ0_charAt_5068e_11 rfl rfl ?_
    obtain ⟨r5, h4, hF⟩ := bd_some hF
    refine ww_callSi (pc := 12) X (As := [.ref (ex.2.1 4), .int p1]) (rest := []) dJ0_charAt_5068e_12 (kJ1_charAt_3b067_V4 (mL M) G hZ X.2.2.2.2.2.2.1 X.2.2.2.2.2.2.2.1 σ p1 r5 h4) rfl gJ0_charAt_5068e_J1_charAt_3b067 hyJ1_charAt_3b067 ⟨rfl, rfl⟩ ⟨Nat.le_of_ble_eq_true rfl, Nat.le_of_ble_eq_true rfl⟩ rfl rfl (Nat.le_of_ble_eq_true rfl) ?_
    exact ww_nret (pc := 15) X dJ0_charAt_5068e_15 rfl (Option.some.inj hF) rfl
set_option maxRecDepth 100000 in
set_option maxHeartbeats 4000000 in
theorem kJ0_charAt_5068e_K4 (l : Launch) (G : gG) {ex : gEx} (hZ : ∀ s : State, G.2.2.2 s → kC ex (gA G zC.1) s) (hG : gOK G zC.1) (hT : G.2.2.1.map (fun q => q.2) = zC.2.1) (σ : gS) (p1 : Int32) (out : Int32) (hF : fJ0_charAt_5068e_K4 σ p1 = some out) : gCi l yJ0_charAt_5068e wsJ0_charAt_5068e rmJ0_charAt_5068e G zC [.ref (ex.1 4), .int p1] σ out σ :=
  gEnter (by decide) rfl ⟨rfl, rfl⟩ hG hT (Nat.le_of_ble_eq_true rfl) rfl (fun M X hl => wJ0_charAt_5068e_K4 X hZ σ p1 hF)
noncomputable def bX3_isWord_K4_20 (σ : gS) (rec20 : Int32 → Option (Int32)) (a2 : Int32) : Option (Int32) :=
  bd (fJ0_length_8abf5_K4 σ) fun r6 => (if r6 ≤ a2 then some 1 else gd (gb ((σ.1 46 6) + a2) 1600) <| nm (σ.1 1 ((σ.1 46 6) + a2).toNatClampNeg) fun v8 => bd (fJ0_charAt_5068e_K4 σ a2) fun r10 => (if v8 = r10 then nm (a2 + 1 : Int32) fun x12 => rec20 x12 else some 0))
noncomputable def fX3_isWord_K4 (σ : gS) : Option (Int32) :=
  bd (fJ0_length_8abf5_K4 σ) fun r2 => (if ((σ.1 46 7) - (σ.1 46 6)) = r2 then nm (0 : Int32) fun x4 => lpc (S := Int32) K9 (fun rec s => bX3_isWord_K4_20 σ (fun a2 => rec (a2)) s) (x4) else some 0)
set_option maxRecDepth 100000 in
set_option maxHeartbeats 4000000 in
theorem wbX3_isWord_K4_20 {M : gM} {G : gG} {out : Int32} (X : gX M G zC cX3_isWord RX3 3 wsX3_isWord rmX3_isWord (some .boolean)) {ex : gEx} (hZ : ∀ s : State, G.2.2.2 s → kC ex (gA G zC.1) s) (σ : gS) (rec20 : Int32 → Option (Int32)) (ih20 : ∀ (a2 : Int32), rec20 a2 = some out → WW M (gQi M G zC out σ) G zC 3 σ 20 [(0, .ref (G.2.1 46)), (1, .ref (ex.1 4)), (2, .int a2)] []) (a2 : Int32) (hF : bX3_isWord_K4_20 σ rec20 a2 = some out) : WW M (gQi M G zC out σ) G zC 3 σ 20 [(0, .ref (G.2.1 46)), (1, .ref (ex.1 4)), (2, .int a2)] [] := by
  unfold bX3_isWord_K4_20 at hF
  refine ww_iload_n (pc := 20) X (j := 2) dX3_isWord_20 rfl rfl ?_
  refine ww_aload_n (pc := 21) X (j := 1) dX3_isWord_21 rfl rfl ?_
  obtain ⟨r6, h5, hF⟩ := bd_some hF
  refine ww_callXi (pc := 22) X (As := []) (rest := [.int a2]) dX3_isWord_22 (kJ0_length_8abf5_K4 (mL M) G hZ X.2.2.2.2.2.2.1 X.2.2.2.2.2.2.2.1 σ r6 h5) rfl ((hZ _ (gXk X)).1.1 4 (by decide)).1 gX3_isWord_J0_length_8abf5 hyJ0_length_8abf5 ⟨rfl, rfl⟩ ⟨Nat.le_of_ble_eq_true rfl, Nat.le_of_ble_eq_true rfl⟩ rfl rfl (Nat.le_of_ble_eq_true rfl) ?_
  refine ww_icmp_ge (pc := 25) (tgt := 55) X dX3_isWord_25 (by decide) hF (fun h7 hF => ?_) (fun h7 hF => ?_)
  · refine ww_iconst (pc := 55) X (v := 1) dX3_isWord_55 (by decide) ?_
    exact ww_zret (pc := 56) X dX3_isWord_56 (by cases hF; rfl) rfl
  · refine ww_aload_n (pc := 28) X (j := 0) dX3_isWord_28 rfl rfl ?_
    refine ww_get (pc := 29) X (ref := "PictureBlock$Reader") (T := TX3) (j := 0) dX3_isWord_29 inX3_isWord_RX3 shzC_46 clzC_3 (by decide) rfl (List.mem_of_getElem? (i := 3) rfl) rfl ?_
    refine ww_aload_n (pc := 32) X (j := 0) dX3_isWord_32 rfl rfl ?_
    refine ww_get (pc := 33) X (ref := "PictureBlock$Reader") (T := TX3) (j := 6) dX3_isWord_33 inX3_isWord_RX3 shzC_46 clzC_3 (by decide) rfl (List.mem_of_getElem? (i := 2) rfl) rfl ?_
    refine ww_iload_n (pc := 36) X (j := 2) dX3_isWord_36 rfl rfl ?_
    refine ww_iadd (pc := 37) X dX3_isWord_37 ?_
    refine ww_iald (pc := 38) X dX3_isWord_38 shzC_1 rfl hF (fun v8 ev8 bv8 hF => ?_)
    refine ww_aload_n (pc := 39) X (j := 1) dX3_isWord_39 rfl rfl ?_
    refine ww_iload_n (pc := 40) X (j := 2) dX3_isWord_40 rfl rfl ?_
    obtain ⟨r10, h9, hF⟩ := bd_some hF
    refine ww_callXi (pc := 41) X (As := [.int a2]) (rest := [.int v8]) dX3_isWord_41 (kJ0_charAt_5068e_K4 (mL M) G hZ X.2.2.2.2.2.2.1 X.2.2.2.2.2.2.2.1 σ a2 r10 h9) rfl ((hZ _ (gXk X)).1.1 4 (by decide)).1 gX3_isWord_J0_charAt_5068e hyJ0_charAt_5068e ⟨rfl, rfl⟩ ⟨Nat.le_of_ble_eq_true rfl, Nat.le_of_ble_eq_true rfl⟩ rfl rfl (Nat.le_of_ble_eq_true rfl) ?_
    refine ww_icmp_eq (pc := 44) (tgt := 49) X dX3_isWord_44 (by decide) hF (fun h11 hF => ?_) (fun h11 hF => ?_)
    · refine ww_iinc (pc := 49) X (j := 2) (v := 1) (lv' := [(0, .ref (G.2.1 46)), (1, .ref (ex.1 4))]) dX3_isWord_49 rfl rfl (by decide) rfl hF (fun x12 ex12 hF => ?_)
      refine ww_goto (pc := 52) X (tgt := 20) dX3_isWord_52 (by decide) ?_
      exact ww_sub [1, 2, 0] rfl (ih20 x12 hF)
    · refine ww_iconst (pc := 47) X (v := 0) dX3_isWord_47 (by decide) ?_
      exact ww_zret (pc := 48) X dX3_isWord_48 (by cases hF; rfl) rfl
set_option maxRecDepth 100000 in
set_option maxHeartbeats 4000000 in
theorem wX3_isWord_K4 {M : gM} {G : gG} {out : Int32} (X : gX M G zC cX3_isWord RX3 3 wsX3_isWord rmX3_isWord (some .boolean)) {ex : gEx} (hZ : ∀ s : State, G.2.2.2 s → kC ex (gA G zC.1) s) (σ : gS) (hF : fX3_isWord_K4 σ = some out) : WW M (gQi M G zC out σ) G zC 3 σ 0 [(0, .ref (G.2.1 46)), (1, .ref (ex.1 4))] [] := by
  unfold fX3_isWord_K4 at hF
  refine ww_aload_n (pc := 0) X (j := 0) dX3_isWord_0 rfl rfl ?_
  refine ww_get (pc := 1) X (ref := "PictureBlock$Reader") (T := TX3) (j := 7) dX3_isWord_1 inX3_isWord_RX3 shzC_46 clzC_3 (by decide) rfl (List.mem_of_getElem? (i := 1) rfl) rfl ?_
  refine ww_aload_n (pc := 4) X (j := 0) dX3_isWord_4 rfl rfl ?_
  refine ww_get (pc := 5) X (ref := "PictureBlock$Reader") (T := TX3) (j := 6) dX3_isWord_5 inX3_isWord_RX3 shzC_46 clzC_3 (by decide) rfl (List.mem_of_getElem? (i := 2) rfl) rfl ?_
  refine ww_isub (pc := 8) X dX3_isWord_8 ?_
  refine ww_aload_n (pc := 9) X (j := 1) dX3_isWord_9 rfl rfl ?_
  obtain ⟨r2, h1, hF⟩ := bd_some hF
  refine ww_callXi (pc := 10) X (As := []) (rest := [.int ((σ.1 46 7) - (σ.1 46 6))]) dX3_isWord_10 (kJ0_length_8abf5_K4 (mL M) G hZ X.2.2.2.2.2.2.1 X.2.2.2.2.2.2.2.1 σ r2 h1) rfl ((hZ _ (gXk X)).1.1 4 (by decide)).1 gX3_isWord_J0_length_8abf5 hyJ0_length_8abf5 ⟨rfl, rfl⟩ ⟨Nat.le_of_ble_eq_true rfl, Nat.le_of_ble_eq_true rfl⟩ rfl rfl (Nat.le_of_ble_eq_true rfl) ?_
  refine ww_icmp_eq (pc := 13) (tgt := 18) X dX3_isWord_13 (by decide) hF (fun h3 hF => ?_) (fun h3 hF => ?_)
  · refine ww_iconst (pc := 18) X (v := 0) dX3_isWord_18 (by decide) ?_
    refine ww_istore_n (pc := 19) X (lv' := [(0, .ref (G.2.1 46)), (1, .ref (ex.1 4))]) dX3_isWord_19 rfl (by decide) rfl hF (fun x4 ex4 hF => ?_)
    exact ww_sub [1, 2, 0] rfl (lpc_ind (P := (fun (s : Int32) => WW M (gQi M G zC out σ) G zC 3 σ 20 [(0, .ref (G.2.1 46)), (1, .ref (ex.1 4)), (2, .int s)] [])) (fun rec s ih hF => wbX3_isWord_K4_20 X hZ σ (fun a2 => rec (a2)) (fun a2 h => ih (a2) h) s hF) K9 (x4) hF)
  · refine ww_iconst (pc := 16) X (v := 0) dX3_isWord_16 (by decide) ?_
    exact ww_zret (pc := 17) X dX3_isWord_17 (by cases hF; rfl) rfl
set_option maxRecDepth 100000 in
set_option maxHeartbeats 4000000 in
theorem kX3_isWord_K4 (l : Launch) (G : gG) {ex : gEx} (hZ : ∀ s : State, G.2.2.2 s → kC ex (gA G zC.1) s) (hG : gOK G zC.1) (hT : G.2.2.1.map (fun q => q.2) = zC.2.1) (σ : gS) (out : Int32) (hF : fX3_isWord_K4 σ = some out) : gCi l yX3_isWord wsX3_isWord rmX3_isWord G zC [.ref (G.2.1 46), .ref (ex.1 4)] σ out σ :=
  gEnter (by decide) rfl ⟨rfl, rfl⟩ hG hT (Nat.le_of_ble_eq_true rfl) rfl (fun M X hl => wX3_isWord_K4 X hZ σ hF)
noncomputable def fJ0_coder_7d493_K5 (σ : gS) : Option (Int32) :=
  if (1 : Int32) = 0 then none else some (vp_nar .byte (0 : Int32))
set_option maxRecDepth 100000 in
set_option maxHeartbeats 4000000 in
theorem wJ0_coder_7d493_K5 {M : gM} {G : gG} {out : Int32} (X : gX M G zC cJ0_coder_7d493 RJ0 1 wsJ0_coder_7d493 rmJ0_coder_7d493 (some .byte)) {ex : gEx} (hZ : ∀ s : State, G.2.2.2 s → kC ex (gA G zC.1) s) (σ : gS) (hF : fJ0_coder_7d493_K5 σ = some out) : WW M (gQi M G zC out σ) G zC 1 σ 0 [(0, .ref (ex.1 5))] [] := by
  unfold fJ0_coder_7d493_K5 at hF
  refine ww_getsE (pc := 0) X (v := .int 1) dJ0_coder_7d493_0 (eC_compact (hZ _ (gXk X))) (List.mem_of_getElem? (i := 1) rfl) rfl ?_
  refine ww_if_eq (pc := 3) (tgt := 13) X dJ0_coder_7d493_3 (by decide) hF (fun h1 hF => ?_) (fun h1 hF => ?_)
  · cases hF
  · refine ww_aload_n (pc := 6) X (j := 0) dJ0_coder_7d493_6 rfl rfl ?_
    refine ww_getE (pc := 7) X dJ0_coder_7d493_7 (eC_coder (hZ _ (gXk X)) 5 (by decide)) (List.mem_of_getElem? (i := 2) rfl) rfl ?_
    refine ww_goto (pc := 10) X (tgt := 14) dJ0_coder_7d493_10 (by decide) ?_
    exact ww_nret (pc := 14) X dJ0_coder_7d493_14 rfl (Option.some.inj hF) rfl
set_option maxRecDepth 100000 in
set_option maxHeartbeats 4000000 in
theorem kJ0_coder_7d493_K5 (l : Launch) (G : gG) {ex : gEx} (hZ : ∀ s : State, G.2.2.2 s → kC ex (gA G zC.1) s) (hG : gOK G zC.1) (hT : G.2.2.1.map (fun q => q.2) = zC.2.1) (σ : gS) (out : Int32) (hF : fJ0_coder_7d493_K5 σ = some out) : gCi l yJ0_coder_7d493 wsJ0_coder_7d493 rmJ0_coder_7d493 G zC [.ref (ex.1 5)] σ out σ :=
  gEnter (by decide) rfl ⟨rfl, rfl⟩ hG hT (Nat.le_of_ble_eq_true rfl) rfl (fun M X hl => wJ0_coder_7d493_K5 X hZ σ hF)
noncomputable def fJ0_length_8abf5_K5 (σ : gS) : Option (Int32) :=
  bd (fJ0_coder_7d493_K5 σ) fun r2 => some (6 >>> (r2 &&& 31))
set_option maxRecDepth 100000 in
set_option maxHeartbeats 4000000 in
theorem wJ0_length_8abf5_K5 {M : gM} {G : gG} {out : Int32} (X : gX M G zC cJ0_length_8abf5 RJ0 1 wsJ0_length_8abf5 rmJ0_length_8abf5 (some .int)) {ex : gEx} (hZ : ∀ s : State, G.2.2.2 s → kC ex (gA G zC.1) s) (σ : gS) (hF : fJ0_length_8abf5_K5 σ = some out) : WW M (gQi M G zC out σ) G zC 1 σ 0 [(0, .ref (ex.1 5))] [] := by
  unfold fJ0_length_8abf5_K5 at hF
  refine ww_aload_n (pc := 0) X (j := 0) dJ0_length_8abf5_0 rfl rfl ?_
  refine ww_getE (pc := 1) X dJ0_length_8abf5_1 (eC_value (hZ _ (gXk X)) 5 (by decide)) (List.mem_of_getElem? (i := 1) rfl) rfl ?_
  refine ww_lenE (pc := 4) X (N := 6) (v := 6) dJ0_length_8abf5_4 (eC_bytes (hZ _ (gXk X)) 5 (by decide)) (by decide) ?_
  refine ww_aload_n (pc := 5) X (j := 0) dJ0_length_8abf5_5 rfl rfl ?_
  obtain ⟨r2, h1, hF⟩ := bd_some hF
  refine ww_callXi (pc := 6) X (As := []) (rest := [.int 6]) dJ0_length_8abf5_6 (kJ0_coder_7d493_K5 (mL M) G hZ X.2.2.2.2.2.2.1 X.2.2.2.2.2.2.2.1 σ r2 h1) rfl ((hZ _ (gXk X)).1.1 5 (by decide)).1 gJ0_length_8abf5_J0_coder_7d493 hyJ0_coder_7d493 ⟨rfl, rfl⟩ ⟨Nat.le_of_ble_eq_true rfl, Nat.le_of_ble_eq_true rfl⟩ rfl rfl (Nat.le_of_ble_eq_true rfl) ?_
  refine ww_ishr (pc := 9) X dJ0_length_8abf5_9 ?_
  exact ww_iret (pc := 10) X dJ0_length_8abf5_10 (Option.some.inj hF) rfl
set_option maxRecDepth 100000 in
set_option maxHeartbeats 4000000 in
theorem kJ0_length_8abf5_K5 (l : Launch) (G : gG) {ex : gEx} (hZ : ∀ s : State, G.2.2.2 s → kC ex (gA G zC.1) s) (hG : gOK G zC.1) (hT : G.2.2.1.map (fun q => q.2) = zC.2.1) (σ : gS) (out : Int32) (hF : fJ0_length_8abf5_K5 σ = some out) : gCi l yJ0_length_8abf5 wsJ0_length_8abf5 rmJ0_length_8abf5 G zC [.ref (ex.1 5)] σ out σ :=
  gEnter (by decide) rfl ⟨rfl, rfl⟩ hG hT (Nat.le_of_ble_eq_true rfl) rfl (fun M X hl => wJ0_length_8abf5_K5 X hZ σ hF)
noncomputable def fJ0_isLatin1_aae02_K5 (σ : gS) : Option (Int32) :=
  if (1 : Int32) = 0 then none else if (0 : Int32) = 0 then some 1 else none
set_option maxRecDepth 100000 in
set_option maxHeartbeats 4000000 in
theorem wJ0_isLatin1_aae02_K5 {M : gM} {G : gG} {out : Int32} (X : gX M G zC cJ0_isLatin1_aae02 RJ0 1 wsJ0_isLatin1_aae02 rmJ0_isLatin1_aae02 (some .boolean)) {ex : gEx} (hZ : ∀ s : State, G.2.2.2 s → kC ex (gA G zC.1) s) (σ : gS) (hF : fJ0_isLatin1_aae02_K5 σ = some out) : WW M (gQi M G zC out σ) G zC 1 σ 0 [(0, .ref (ex.1 5))] [] := by
  unfold fJ0_isLatin1_aae02_K5 at hF
  refine ww_getsE (pc := 0) X (v := .int 1) dJ0_isLatin1_aae02_0 (eC_compact (hZ _ (gXk X))) (List.mem_of_getElem? (i := 1) rfl) rfl ?_
  refine ww_if_eq (pc := 3) (tgt := 17) X dJ0_isLatin1_aae02_3 (by decide) hF (fun h1 hF => ?_) (fun h1 hF => ?_)
  · cases hF
  · refine ww_aload_n (pc := 6) X (j := 0) dJ0_isLatin1_aae02_6 rfl rfl ?_
    refine ww_getE (pc := 7) X dJ0_isLatin1_aae02_7 (eC_coder (hZ _ (gXk X)) 5 (by decide)) (List.mem_of_getElem? (i := 2) rfl) rfl ?_
    refine ww_if_ne (pc := 10) (tgt := 17) X dJ0_isLatin1_aae02_10 (by decide) hF (fun h2 hF => ?_) (fun h2 hF => ?_)
    · cases hF
    · refine ww_iconst (pc := 13) X (v := 1) dJ0_isLatin1_aae02_13 (by decide) ?_
      refine ww_goto (pc := 14) X (tgt := 18) dJ0_isLatin1_aae02_14 (by decide) ?_
      exact ww_zret (pc := 18) X dJ0_isLatin1_aae02_18 (by cases hF; rfl) rfl
set_option maxRecDepth 100000 in
set_option maxHeartbeats 4000000 in
theorem kJ0_isLatin1_aae02_K5 (l : Launch) (G : gG) {ex : gEx} (hZ : ∀ s : State, G.2.2.2 s → kC ex (gA G zC.1) s) (hG : gOK G zC.1) (hT : G.2.2.1.map (fun q => q.2) = zC.2.1) (σ : gS) (out : Int32) (hF : fJ0_isLatin1_aae02_K5 σ = some out) : gCi l yJ0_isLatin1_aae02 wsJ0_isLatin1_aae02 rmJ0_isLatin1_aae02 G zC [.ref (ex.1 5)] σ out σ :=
  gEnter (by decide) rfl ⟨rfl, rfl⟩ hG hT (Nat.le_of_ble_eq_true rfl) rfl (fun M X hl => wJ0_isLatin1_aae02_K5 X hZ σ hF)
noncomputable def fJ1_charAt_3b067_V5 (σ : gS) (p1 : Int32) : Option (Int32) :=
  bd (fJ0_checkIndex_df160 σ p1 6) fun u2 => gd (gb p1 6) <| nm ((bytC 5) p1.toNatClampNeg) fun v3 => some (vp_nar .char (((v3 &&& 255).toUInt32 % 65536).toInt32))
set_option maxRecDepth 100000 in
set_option maxHeartbeats 4000000 in
theorem wJ1_charAt_3b067_V5 {M : gM} {G : gG} {out : Int32} (X : gX M G zC cJ1_charAt_3b067 RJ1 2 wsJ1_charAt_3b067 rmJ1_charAt_3b067 (some .char)) {ex : gEx} (hZ : ∀ s : State, G.2.2.2 s → kC ex (gA G zC.1) s) (σ : gS) (p1 : Int32) (hF : fJ1_charAt_3b067_V5 σ p1 = some out) : WW M (gQi M G zC out σ) G zC 2 σ 0 [(0, .ref (ex.2.1 5)), (1, .int p1)] [] := by
  unfold fJ1_charAt_3b067_V5 at hF
  refine ww_iload_n (pc := 0) X (j := 1) dJ1_charAt_3b067_0 rfl rfl ?_
  refine ww_aload_n (pc := 1) X (j := 0) dJ1_charAt_3b067_1 rfl rfl ?_
  refine ww_lenE (pc := 2) X (N := 6) (v := 6) dJ1_charAt_3b067_2 (eC_bytes (hZ _ (gXk X)) 5 (by decide)) (by decide) ?_
  obtain ⟨u2, h1, hF⟩ := bd_some hF
  refine ww_callSv (pc := 3) X (As := [.int p1, .int 6]) (rest := []) dJ1_charAt_3b067_3 (kJ0_checkIndex_df160 (mL M) G hZ X.2.2.2.2.2.2.1 X.2.2.2.2.2.2.2.1 σ p1 6 h1) rfl gJ1_charAt_3b067_J0_checkIndex_df160 hyJ0_checkIndex_df160 ⟨rfl, rfl⟩ ⟨Nat.le_of_ble_eq_true rfl, Nat.le_of_ble_eq_true rfl⟩ rfl rfl (Nat.le_of_ble_eq_true rfl) ?_
  refine ww_aload_n (pc := 6) X (j := 0) dJ1_charAt_3b067_6 rfl rfl ?_
  refine ww_iload_n (pc := 7) X (j := 1) dJ1_charAt_3b067_7 rfl rfl ?_
  refine ww_tbE (pc := 8) X (N := 6) (g := (bytC 5)) dJ1_charAt_3b067_8 (eC_bytes (hZ _ (gXk X)) 5 (by decide)) hF (fun v3 ev3 bv3 hF => ?_)
  refine ww_sipush (pc := 9) X (v := 255) dJ1_charAt_3b067_9 (by decide) ?_
  refine ww_iand (pc := 12) X dJ1_charAt_3b067_12 ?_
  refine ww_i2c (pc := 13) X dJ1_charAt_3b067_13 ?_
  exact ww_nret (pc := 14) X dJ1_charAt_3b067_14 rfl (Option.some.inj hF) rfl
set_option maxRecDepth 100000 in
set_option maxHeartbeats 4000000 in
theorem kJ1_charAt_3b067_V5 (l : Launch) (G : gG) {ex : gEx} (hZ : ∀ s : State, G.2.2.2 s → kC ex (gA G zC.1) s) (hG : gOK G zC.1) (hT : G.2.2.1.map (fun q => q.2) = zC.2.1) (σ : gS) (p1 : Int32) (out : Int32) (hF : fJ1_charAt_3b067_V5 σ p1 = some out) : gCi l yJ1_charAt_3b067 wsJ1_charAt_3b067 rmJ1_charAt_3b067 G zC [.ref (ex.2.1 5), .int p1] σ out σ :=
  gEnter (by decide) rfl ⟨rfl, rfl⟩ hG hT (Nat.le_of_ble_eq_true rfl) rfl (fun M X hl => wJ1_charAt_3b067_V5 X hZ σ p1 hF)
noncomputable def fJ0_charAt_5068e_K5 (σ : gS) (p1 : Int32) : Option (Int32) :=
  bd (fJ0_isLatin1_aae02_K5 σ) fun r2 => (if r2 = 0 then none else bd (fJ1_charAt_3b067_V5 σ p1) fun r5 => some (vp_nar .char r5))
set_option maxRecDepth 100000 in
set_option maxHeartbeats 4000000 in
theorem wJ0_charAt_5068e_K5 {M : gM} {G : gG} {out : Int32} (X : gX M G zC cJ0_charAt_5068e RJ0 2 wsJ0_charAt_5068e rmJ0_charAt_5068e (some .char)) {ex : gEx} (hZ : ∀ s : State, G.2.2.2 s → kC ex (gA G zC.1) s) (σ : gS) (p1 : Int32) (hF : fJ0_charAt_5068e_K5 σ p1 = some out) : WW M (gQi M G zC out σ) G zC 2 σ 0 [(0, .ref (ex.1 5)), (1, .int p1)] [] := by
  unfold fJ0_charAt_5068e_K5 at hF
  refine ww_aload_n (pc := 0) X (j := 0) dJ0_charAt_5068e_0 rfl rfl ?_
  obtain ⟨r2, h1, hF⟩ := bd_some hF
  refine ww_callXi (pc := 1) X (As := []) (rest := []) dJ0_charAt_5068e_1 (kJ0_isLatin1_aae02_K5 (mL M) G hZ X.2.2.2.2.2.2.1 X.2.2.2.2.2.2.2.1 σ r2 h1) rfl ((hZ _ (gXk X)).1.1 5 (by decide)).1 gJ0_charAt_5068e_J0_isLatin1_aae02 hyJ0_isLatin1_aae02 ⟨rfl, rfl⟩ ⟨Nat.le_of_ble_eq_true rfl, Nat.le_of_ble_eq_true rfl⟩ rfl rfl (Nat.le_of_ble_eq_true rfl) ?_
  refine ww_if_eq (pc := 4) (tgt := 16) X dJ0_charAt_5068e_4 (by decide) hF (fun h3 hF => ?_) (fun h3 hF => ?_)
  · refine ww_aload_n (pc := 16) X (j := 0) dJ0_charAt_5068e_16 rfl rfl ?_
    refine ww_getE (pc := 17) X dJ0_charAt_5068e_17 (eC_value (hZ _ (gXk X)) 5 (by decide)) (List.mem_of_getElem? (i := 1) rfl) rfl ?_
    refine ww_iload_n (pc := 20) X (j := 1) dJ0_charAt_5068e_20 rfl rfl ?_
    cases hF
  · refine ww_aload_n (pc := 7) X (j := 0) dJ0_charAt_5068e_7 rfl rfl ?_
    refine ww_getE (pc := 8) X dJ0_charAt_5068e_8 (eC_value (hZ _ (gXk X)) 5 (by decide)) (List.mem_of_getElem? (i := 1) rfl) rfl ?_
    refine ww_iload_n (pc := 11) X (j := 1) dJ0_charAt_5068e_11 rfl rfl ?_
    obtain ⟨r5, h4, hF⟩ := bd_some hF
    refine ww_callSi (pc := 12) X (As := [.ref (ex.2.1 5), .int p1]) (rest := []) dJ0_charAt_5068e_12 (kJ1_charAt_3b067_V5 (mL M) G hZ X.2.2.2.2.2.2.1 X.2.2.2.2.2.2.2.1 σ p1 r5 h4) rfl gJ0_charAt_5068e_J1_charAt_3b067 hyJ1_charAt_3b067 ⟨rfl, rfl⟩ ⟨Nat.le_of_ble_eq_true rfl, Nat.le_of_ble_eq_true rfl⟩ rfl rfl (Nat.le_of_ble_eq_true rfl) ?_
    exact ww_nret (pc := 15) X dJ0_charAt_5068e_15 rfl (Option.some.inj hF) rfl
set_option maxRecDepth 100000 in
set_option maxHeartbeats 4000000 in
theorem kJ0_charAt_5068e_K5 (l : Launch) (G : gG) {ex : gEx} (hZ : ∀ s : State, G.2.2.2 s → kC ex (gA G zC.1) s) (hG : gOK G zC.1) (hT : G.2.2.1.map (fun q => q.2) = zC.2.1) (σ : gS) (p1 : Int32) (out : Int32) (hF : fJ0_charAt_5068e_K5 σ p1 = some out) : gCi l yJ0_charAt_5068e wsJ0_charAt_5068e rmJ0_charAt_5068e G zC [.ref (ex.1 5), .int p1] σ out σ :=
  gEnter (by decide) rfl ⟨rfl, rfl⟩ hG hT (Nat.le_of_ble_eq_true rfl) rfl (fun M X hl => wJ0_charAt_5068e_K5 X hZ σ p1 hF)
noncomputable def bX3_isWord_K5_20 (σ : gS) (rec20 : Int32 → Option (Int32)) (a2 : Int32) : Option (Int32) :=
  bd (fJ0_length_8abf5_K5 σ) fun r6 => (if r6 ≤ a2 then some 1 else gd (gb ((σ.1 46 6) + a2) 1600) <| nm (σ.1 1 ((σ.1 46 6) + a2).toNatClampNeg) fun v8 => bd (fJ0_charAt_5068e_K5 σ a2) fun r10 => (if v8 = r10 then nm (a2 + 1 : Int32) fun x12 => rec20 x12 else some 0))
noncomputable def fX3_isWord_K5 (σ : gS) : Option (Int32) :=
  bd (fJ0_length_8abf5_K5 σ) fun r2 => (if ((σ.1 46 7) - (σ.1 46 6)) = r2 then nm (0 : Int32) fun x4 => lpc (S := Int32) K9 (fun rec s => bX3_isWord_K5_20 σ (fun a2 => rec (a2)) s) (x4) else some 0)
set_option maxRecDepth 100000 in
set_option maxHeartbeats 4000000 in
theorem wbX3_isWord_K5_20 {M : gM} {G : gG} {out : Int32} (X : gX M G zC cX3_isWord RX3 3 wsX3_isWord rmX3_isWord (some .boolean)) {ex : gEx} (hZ : ∀ s : State, G.2.2.2 s → kC ex (gA G zC.1) s) (σ : gS) (rec20 : Int32 → Option (Int32)) (ih20 : ∀ (a2 : Int32), rec20 a2 = some out → WW M (gQi M G zC out σ) G zC 3 σ 20 [(0, .ref (G.2.1 46)), (1, .ref (ex.1 5)), (2, .int a2)] []) (a2 : Int32) (hF : bX3_isWord_K5_20 σ rec20 a2 = some out) : WW M (gQi M G zC out σ) G zC 3 σ 20 [(0, .ref (G.2.1 46)), (1, .ref (ex.1 5)), (2, .int a2)] [] := by
  unfold bX3_isWord_K5_20 at hF
  refine ww_iload_n (pc := 20) X (j := 2) dX3_isWord_20 rfl rfl ?_
  refine ww_aload_n (pc := 21) X (j := 1) dX3_isWord_21 rfl rfl ?_
  obtain ⟨r6, h5, hF⟩ := bd_some hF
  refine ww_callXi (pc := 22) X (As := []) (rest := [.int a2]) dX3_isWord_22 (kJ0_length_8abf5_K5 (mL M) G hZ X.2.2.2.2.2.2.1 X.2.2.2.2.2.2.2.1 σ r6 h5) rfl ((hZ _ (gXk X)).1.1 5 (by decide)).1 gX3_isWord_J0_length_8abf5 hyJ0_length_8abf5 ⟨rfl, rfl⟩ ⟨Nat.le_of_ble_eq_true rfl, Nat.le_of_ble_eq_true rfl⟩ rfl rfl (Nat.le_of_ble_eq_true rfl) ?_
  refine ww_icmp_ge (pc := 25) (tgt := 55) X dX3_isWord_25 (by decide) hF (fun h7 hF => ?_) (fun h7 hF => ?_)
  · refine ww_iconst (pc := 55) X (v := 1) dX3_isWord_55 (by decide) ?_
    exact ww_zret (pc := 56) X dX3_isWord_56 (by cases hF; rfl) rfl
  · refine ww_aload_n (pc := 28) X (j := 0) dX3_isWord_28 rfl rfl ?_
    refine ww_get (pc := 29) X (ref := "PictureBlock$Reader") (T := TX3) (j := 0) dX3_isWord_29 inX3_isWord_RX3 shzC_46 clzC_3 (by decide) rfl (List.mem_of_getElem? (i := 3) rfl) rfl ?_
    refine ww_aload_n (pc := 32) X (j := 0) dX3_isWord_32 rfl rfl ?_
    refine ww_get (pc := 33) X (ref := "PictureBlock$Reader") (T := TX3) (j := 6) dX3_isWord_33 inX3_isWord_RX3 shzC_46 clzC_3 (by decide) rfl (List.mem_of_getElem? (i := 2) rfl) rfl ?_
    refine ww_iload_n (pc := 36) X (j := 2) dX3_isWord_36 rfl rfl ?_
    refine ww_iadd (pc := 37) X dX3_isWord_37 ?_
    refine ww_iald (pc := 38) X dX3_isWord_38 shzC_1 rfl hF (fun v8 ev8 bv8 hF => ?_)
    refine ww_aload_n (pc := 39) X (j := 1) dX3_isWord_39 rfl rfl ?_
    refine ww_iload_n (pc := 40) X (j := 2) dX3_isWord_40 rfl rfl ?_
    obtain ⟨r10, h9, hF⟩ := bd_some hF
    refine ww_callXi (pc := 41) X (As := [.int a2]) (rest := [.int v8]) dX3_isWord_41 (kJ0_charAt_5068e_K5 (mL M) G hZ X.2.2.2.2.2.2.1 X.2.2.2.2.2.2.2.1 σ a2 r10 h9) rfl ((hZ _ (gXk X)).1.1 5 (by decide)).1 gX3_isWord_J0_charAt_5068e hyJ0_charAt_5068e ⟨rfl, rfl⟩ ⟨Nat.le_of_ble_eq_true rfl, Nat.le_of_ble_eq_true rfl⟩ rfl rfl (Nat.le_of_ble_eq_true rfl) ?_
    refine ww_icmp_eq (pc := 44) (tgt := 49) X dX3_isWord_44 (by decide) hF (fun h11 hF => ?_) (fun h11 hF => ?_)
    · refine ww_iinc (pc := 49) X (j := 2) (v := 1) (lv' := [(0, .ref (G.2.1 46)), (1, .ref (ex.1 5))]) dX3_isWord_49 rfl rfl (by decide) rfl hF (fun x12 ex12 hF => ?_)
      refine ww_goto (pc := 52) X (tgt := 20) dX3_isWord_52 (by decide) ?_
      exact ww_sub [1, 2, 0] rfl (ih20 x12 hF)
    · refine ww_iconst (pc := 47) X (v := 0) dX3_isWord_47 (by decide) ?_
      exact ww_zret (pc := 48) X dX3_isWord_48 (by cases hF; rfl) rfl
set_option maxRecDepth 100000 in
set_option maxHeartbeats 4000000 in
theorem wX3_isWord_K5 {M : gM} {G : gG} {out : Int32} (X : gX M G zC cX3_isWord RX3 3 wsX3_isWord rmX3_isWord (some .boolean)) {ex : gEx} (hZ : ∀ s : State, G.2.2.2 s → kC ex (gA G zC.1) s) (σ : gS) (hF : fX3_isWord_K5 σ = some out) : WW M (gQi M G zC out σ) G zC 3 σ 0 [(0, .ref (G.2.1 46)), (1, .ref (ex.1 5))] [] := by
  unfold fX3_isWord_K5 at hF
  refine ww_aload_n (pc := 0) X (j := 0) dX3_isWord_0 rfl rfl ?_
  refine ww_get (pc := 1) X (ref := "PictureBlock$Reader") (T := TX3) (j := 7) dX3_isWord_1 inX3_isWord_RX3 shzC_46 clzC_3 (by decide) rfl (List.mem_of_getElem? (i := 1) rfl) rfl ?_
  refine ww_aload_n (pc := 4) X (j := 0) dX3_isWord_4 rfl rfl ?_
  refine ww_get (pc := 5) X (ref := "PictureBlock$Reader") (T := TX3) (j := 6) dX3_isWord_5 inX3_isWord_RX3 shzC_46 clzC_3 (by decide) rfl (List.mem_of_getElem? (i := 2) rfl) rfl ?_
  refine ww_isub (pc := 8) X dX3_isWord_8 ?_
  refine ww_aload_n (pc := 9) X (j := 1) dX3_isWord_9 rfl rfl ?_
  obtain ⟨r2, h1, hF⟩ := bd_some hF
  refine ww_callXi (pc := 10) X (As := []) (rest := [.int ((σ.1 46 7) - (σ.1 46 6))]) dX3_isWord_10 (kJ0_length_8abf5_K5 (mL M) G hZ X.2.2.2.2.2.2.1 X.2.2.2.2.2.2.2.1 σ r2 h1) rfl ((hZ _ (gXk X)).1.1 5 (by decide)).1 gX3_isWord_J0_length_8abf5 hyJ0_length_8abf5 ⟨rfl, rfl⟩ ⟨Nat.le_of_ble_eq_true rfl, Nat.le_of_ble_eq_true rfl⟩ rfl rfl (Nat.le_of_ble_eq_true rfl) ?_
  refine ww_icmp_eq (pc := 13) (tgt := 18) X dX3_isWord_13 (by decide) hF (fun h3 hF => ?_) (fun h3 hF => ?_)
  · refine ww_iconst (pc := 18) X (v := 0) dX3_isWord_18 (by decide) ?_
    refine ww_istore_n (pc := 19) X (lv' := [(0, .ref (G.2.1 46)), (1, .ref (ex.1 5))]) dX3_isWord_19 rfl (by decide) rfl hF (fun x4 ex4 hF => ?_)
    exact ww_sub [1, 2, 0] rfl (lpc_ind (P := (fun (s : Int32) => WW M (gQi M G zC out σ) G zC 3 σ 20 [(0, .ref (G.2.1 46)), (1, .ref (ex.1 5)), (2, .int s)] [])) (fun rec s ih hF => wbX3_isWord_K5_20 X hZ σ (fun a2 => rec (a2)) (fun a2 h => ih (a2) h) s hF) K9 (x4) hF)
  · refine ww_iconst (pc := 16) X (v := 0) dX3_isWord_16 (by decide) ?_
    exact ww_zret (pc := 17) X dX3_isWord_17 (by cases hF; rfl) rfl
set_option maxRecDepth 100000 in
set_option maxHeartbeats 4000000 in
theorem kX3_isWord_K5 (l : Launch) (G : gG) {ex : gEx} (hZ : ∀ s : State, G.2.2.2 s → kC ex (gA G zC.1) s) (hG : gOK G zC.1) (hT : G.2.2.1.map (fun q => q.2) = zC.2.1) (σ : gS) (out : Int32) (hF : fX3_isWord_K5 σ = some out) : gCi l yX3_isWord wsX3_isWord rmX3_isWord G zC [.ref (G.2.1 46), .ref (ex.1 5)] σ out σ :=
  gEnter (by decide) rfl ⟨rfl, rfl⟩ hG hT (Nat.le_of_ble_eq_true rfl) rfl (fun M X hl => wX3_isWord_K5 X hZ σ hF)
noncomputable def fX3_kindOfWord (σ : gS) : Option (Int32) :=
  bd (fX3_isWord_K0 σ) fun r2 => (if r2 = 0 then bd (fX3_isWord_K1 σ) fun r5 => (if r5 = 0 then bd (fX3_isWord_K2 σ) fun r8 => (if r8 = 0 then bd (fX3_isWord_K3 σ) fun r11 => (if r11 = 0 then bd (fX3_isWord_K4 σ) fun r14 => (if r14 = 0 then bd (fX3_isWord_K5 σ) fun r17 => (if r17 = 0 then some ((-1)) else some 5) else some 4) else some 3) else some 2) else some 1) else some 0)
noncomputable abbrev rmX3_kindOfWord : Room := { frames := 5, cells := 0, slots := 0, locals := 107 }
set_option maxRecDepth 100000 in
set_option maxHeartbeats 4000000 in
theorem wX3_kindOfWord {M : gM} {G : gG} {out : Int32} (X : gX M G zC cX3_kindOfWord RX3 1 wsX3_kindOfWord rmX3_kindOfWord (some .int)) {ex : gEx} (hZ : ∀ s : State, G.2.2.2 s → kC ex (gA G zC.1) s) (σ : gS) (hF : fX3_kindOfWord σ = some out) : WW M (gQi M G zC out σ) G zC 1 σ 0 [(0, .ref (G.2.1 46))] [] := by
  unfold fX3_kindOfWord at hF
  refine ww_aload_n (pc := 0) X (j := 0) dX3_kindOfWord_0 rfl rfl ?_
  refine ww_ldcS (pc := 1) X (tx := "strip") (q := ex.1 0) dX3_kindOfWord_1 (eC_ref0 (hZ _ (gXk X))) ?_
  obtain ⟨r2, h1, hF⟩ := bd_some hF
  refine ww_callVi (pc := 3) X (As := [.ref (ex.1 0)]) (rest := []) dX3_kindOfWord_3 (kX3_isWord_K0 (mL M) G hZ X.2.2.2.2.2.2.1 X.2.2.2.2.2.2.2.1 σ r2 h1) rfl shzC_46 clzC_3 gX3_kindOfWord_X3_isWord hyX3_isWord ⟨rfl, rfl⟩ ⟨Nat.le_of_ble_eq_true rfl, Nat.le_of_ble_eq_true rfl⟩ rfl rfl (Nat.le_of_ble_eq_true rfl) ?_
  refine ww_if_eq (pc := 6) (tgt := 11) X dX3_kindOfWord_6 (by decide) hF (fun h3 hF => ?_) (fun h3 hF => ?_)
  · refine ww_aload_n (pc := 11) X (j := 0) dX3_kindOfWord_11 rfl rfl ?_
    refine ww_ldcS (pc := 12) X (tx := "picture") (q := ex.1 1) dX3_kindOfWord_12 (eC_ref1 (hZ _ (gXk X))) ?_
    obtain ⟨r5, h4, hF⟩ := bd_some hF
    refine ww_callVi (pc := 14) X (As := [.ref (ex.1 1)]) (rest := []) dX3_kindOfWord_14 (kX3_isWord_K1 (mL M) G hZ X.2.2.2.2.2.2.1 X.2.2.2.2.2.2.2.1 σ r5 h4) rfl shzC_46 clzC_3 gX3_kindOfWord_X3_isWord hyX3_isWord ⟨rfl, rfl⟩ ⟨Nat.le_of_ble_eq_true rfl, Nat.le_of_ble_eq_true rfl⟩ rfl rfl (Nat.le_of_ble_eq_true rfl) ?_
    refine ww_if_eq (pc := 17) (tgt := 22) X dX3_kindOfWord_17 (by decide) hF (fun h6 hF => ?_) (fun h6 hF => ?_)
    · refine ww_aload_n (pc := 22) X (j := 0) dX3_kindOfWord_22 rfl rfl ?_
      refine ww_ldcS (pc := 23) X (tx := "point") (q := ex.1 2) dX3_kindOfWord_23 (eC_ref2 (hZ _ (gXk X))) ?_
      obtain ⟨r8, h7, hF⟩ := bd_some hF
      refine ww_callVi (pc := 25) X (As := [.ref (ex.1 2)]) (rest := []) dX3_kindOfWord_25 (kX3_isWord_K2 (mL M) G hZ X.2.2.2.2.2.2.1 X.2.2.2.2.2.2.2.1 σ r8 h7) rfl shzC_46 clzC_3 gX3_kindOfWord_X3_isWord hyX3_isWord ⟨rfl, rfl⟩ ⟨Nat.le_of_ble_eq_true rfl, Nat.le_of_ble_eq_true rfl⟩ rfl rfl (Nat.le_of_ble_eq_true rfl) ?_
      refine ww_if_eq (pc := 28) (tgt := 33) X dX3_kindOfWord_28 (by decide) hF (fun h9 hF => ?_) (fun h9 hF => ?_)
      · refine ww_aload_n (pc := 33) X (j := 0) dX3_kindOfWord_33 rfl rfl ?_
        refine ww_ldcS (pc := 34) X (tx := "row") (q := ex.1 3) dX3_kindOfWord_34 (eC_ref3 (hZ _ (gXk X))) ?_
        obtain ⟨r11, h10, hF⟩ := bd_some hF
        refine ww_callVi (pc := 36) X (As := [.ref (ex.1 3)]) (rest := []) dX3_kindOfWord_36 (kX3_isWord_K3 (mL M) G hZ X.2.2.2.2.2.2.1 X.2.2.2.2.2.2.2.1 σ r11 h10) rfl shzC_46 clzC_3 gX3_kindOfWord_X3_isWord hyX3_isWord ⟨rfl, rfl⟩ ⟨Nat.le_of_ble_eq_true rfl, Nat.le_of_ble_eq_true rfl⟩ rfl rfl (Nat.le_of_ble_eq_true rfl) ?_
        refine ww_if_eq (pc := 39) (tgt := 44) X dX3_kindOfWord_39 (by decide) hF (fun h12 hF => ?_) (fun h12 hF => ?_)
        · refine ww_aload_n (pc := 44) X (j := 0) dX3_kindOfWord_44 rfl rfl ?_
          refine ww_ldcS (pc := 45) X (tx := "control") (q := ex.1 4) dX3_kindOfWord_45 (eC_ref4 (hZ _ (gXk X))) ?_
          obtain ⟨r14, h13, hF⟩ := bd_some hF
          refine ww_callVi (pc := 47) X (As := [.ref (ex.1 4)]) (rest := []) dX3_kindOfWord_47 (kX3_isWord_K4 (mL M) G hZ X.2.2.2.2.2.2.1 X.2.2.2.2.2.2.2.1 σ r14 h13) rfl shzC_46 clzC_3 gX3_kindOfWord_X3_isWord hyX3_isWord ⟨rfl, rfl⟩ ⟨Nat.le_of_ble_eq_true rfl, Nat.le_of_ble_eq_true rfl⟩ rfl rfl (Nat.le_of_ble_eq_true rfl) ?_
          refine ww_if_eq (pc := 50) (tgt := 55) X dX3_kindOfWord_50 (by decide) hF (fun h15 hF => ?_) (fun h15 hF => ?_)
          · refine ww_aload_n (pc := 55) X (j := 0) dX3_kindOfWord_55 rfl rfl ?_
            refine ww_ldcS (pc := 56) X (tx := "centre") (q := ex.1 5) dX3_kindOfWord_56 (eC_ref5 (hZ _ (gXk X))) ?_
            obtain ⟨r17, h16, hF⟩ := bd_some hF
            refine ww_callVi (pc := 58) X (As := [.ref (ex.1 5)]) (rest := []) dX3_kindOfWord_58 (kX3_isWord_K5 (mL M) G hZ X.2.2.2.2.2.2.1 X.2.2.2.2.2.2.2.1 σ r17 h16) rfl shzC_46 clzC_3 gX3_kindOfWord_X3_isWord hyX3_isWord ⟨rfl, rfl⟩ ⟨Nat.le_of_ble_eq_true rfl, Nat.le_of_ble_eq_true rfl⟩ rfl rfl (Nat.le_of_ble_eq_true rfl) ?_
            refine ww_if_eq (pc := 61) (tgt := 66) X dX3_kindOfWord_61 (by decide) hF (fun h18 hF => ?_) (fun h18 hF => ?_)
            · refine ww_iconst (pc := 66) X (v := (-1)) dX3_kindOfWord_66 (by decide) ?_
              exact ww_iret (pc := 67) X dX3_kindOfWord_67 (Option.some.inj hF) rfl
            · refine ww_iconst (pc := 64) X (v := 5) dX3_kindOfWord_64 (by decide) ?_
              exact ww_iret (pc := 65) X dX3_kindOfWord_65 (Option.some.inj hF) rfl
          · refine ww_iconst (pc := 53) X (v := 4) dX3_kindOfWord_53 (by decide) ?_
            exact ww_iret (pc := 54) X dX3_kindOfWord_54 (Option.some.inj hF) rfl
        · refine ww_iconst (pc := 42) X (v := 3) dX3_kindOfWord_42 (by decide) ?_
          exact ww_iret (pc := 43) X dX3_kindOfWord_43 (Option.some.inj hF) rfl
      · refine ww_iconst (pc := 31) X (v := 2) dX3_kindOfWord_31 (by decide) ?_
        exact ww_iret (pc := 32) X dX3_kindOfWord_32 (Option.some.inj hF) rfl
    · refine ww_iconst (pc := 20) X (v := 1) dX3_kindOfWord_20 (by decide) ?_
      exact ww_iret (pc := 21) X dX3_kindOfWord_21 (Option.some.inj hF) rfl
  · refine ww_iconst (pc := 9) X (v := 0) dX3_kindOfWord_9 (by decide) ?_
    exact ww_iret (pc := 10) X dX3_kindOfWord_10 (Option.some.inj hF) rfl
set_option maxRecDepth 100000 in
set_option maxHeartbeats 4000000 in
theorem kX3_kindOfWord (l : Launch) (G : gG) {ex : gEx} (hZ : ∀ s : State, G.2.2.2 s → kC ex (gA G zC.1) s) (hG : gOK G zC.1) (hT : G.2.2.1.map (fun q => q.2) = zC.2.1) (σ : gS) (out : Int32) (hF : fX3_kindOfWord σ = some out) : gCi l yX3_kindOfWord wsX3_kindOfWord rmX3_kindOfWord G zC [.ref (G.2.1 46)] σ out σ :=
  gEnter (by decide) rfl ⟨rfl, rfl⟩ hG hT (Nat.le_of_ble_eq_true rfl) rfl (fun M X hl => wX3_kindOfWord X hZ σ hF)
noncomputable def fX8_isFull_24 (σ : gS) (p1 : Int32) : Option (Int32) :=
  if p1 < 0 then some 0 else if 5 ≤ p1 then some 0 else gd (gb p1 6) <| nm (σ.1 25 p1.toNatClampNeg) fun v3 => gd (gb p1 5) <| nm ((staC 0) p1.toNatClampNeg) fun v4 => (if v3 < v4 then some 0 else some 1)
noncomputable abbrev rmX8_isFull : Room := { frames := 0, cells := 0, slots := 0, locals := 0 }
set_option maxRecDepth 100000 in
set_option maxHeartbeats 4000000 in
theorem wX8_isFull_24 {M : gM} {G : gG} {out : Int32} (X : gX M G zC cX8_isFull RX8 2 wsX8_isFull rmX8_isFull (some .boolean)) {ex : gEx} (hZ : ∀ s : State, G.2.2.2 s → kC ex (gA G zC.1) s) (σ : gS) (p1 : Int32) (hF : fX8_isFull_24 σ p1 = some out) : WW M (gQi M G zC out σ) G zC 2 σ 0 [(0, .ref (G.2.1 24)), (1, .int p1)] [] := by
  unfold fX8_isFull_24 at hF
  refine ww_iload_n (pc := 0) X (j := 1) dX8_isFull_0 rfl rfl ?_
  refine ww_if_lt (pc := 1) (tgt := 30) X dX8_isFull_1 (by decide) hF (fun h1 hF => ?_) (fun h1 hF => ?_)
  · refine ww_iconst (pc := 30) X (v := 0) dX8_isFull_30 (by decide) ?_
    exact ww_zret (pc := 31) X dX8_isFull_31 (by cases hF; rfl) rfl
  · refine ww_iload_n (pc := 4) X (j := 1) dX8_isFull_4 rfl rfl ?_
    refine ww_getsNE (pc := 5) X (ref := "PictureBlock") (n := "MOST") (d := "[I") (v := .ref (ex.2.2 1)) dX8_isFull_5 (eC_sref0 (hZ _ (gXk X))) (eC_nfX8_isFull_60 (hZ _ (gXk X))) rfl ?_
    refine ww_lenE (pc := 8) X (N := 5) (v := 5) dX8_isFull_8 (eC_stat0 (hZ _ (gXk X))) (by decide) ?_
    refine ww_icmp_ge (pc := 9) (tgt := 30) X dX8_isFull_9 (by decide) hF (fun h2 hF => ?_) (fun h2 hF => ?_)
    · refine ww_iconst (pc := 30) X (v := 0) dX8_isFull_30 (by decide) ?_
      exact ww_zret (pc := 31) X dX8_isFull_31 (by cases hF; rfl) rfl
    · refine ww_aload_n (pc := 12) X (j := 0) dX8_isFull_12 rfl rfl ?_
      refine ww_get (pc := 13) X (ref := "PictureBlock$Told") (T := TX8) (j := 0) dX8_isFull_13 inX8_isFull_RX8 shzC_24 clzC_8 (by decide) rfl (List.mem_of_getElem? (i := 1) rfl) rfl ?_
      refine ww_iload_n (pc := 16) X (j := 1) dX8_isFull_16 rfl rfl ?_
      refine ww_iald (pc := 17) X dX8_isFull_17 shzC_25 rfl hF (fun v3 ev3 bv3 hF => ?_)
      refine ww_getsNE (pc := 18) X (ref := "PictureBlock") (n := "MOST") (d := "[I") (v := .ref (ex.2.2 1)) dX8_isFull_18 (eC_sref0 (hZ _ (gXk X))) (eC_nfX8_isFull_60 (hZ _ (gXk X))) rfl ?_
      refine ww_iload_n (pc := 21) X (j := 1) dX8_isFull_21 rfl rfl ?_
      refine ww_tiE (pc := 22) X (N := 5) (g := (staC 0)) dX8_isFull_22 (eC_stat0 (hZ _ (gXk X))) hF (fun v4 ev4 bv4 hF => ?_)
      refine ww_icmp_lt (pc := 23) (tgt := 30) X dX8_isFull_23 (by decide) hF (fun h5 hF => ?_) (fun h5 hF => ?_)
      · refine ww_iconst (pc := 30) X (v := 0) dX8_isFull_30 (by decide) ?_
        exact ww_zret (pc := 31) X dX8_isFull_31 (by cases hF; rfl) rfl
      · refine ww_iconst (pc := 26) X (v := 1) dX8_isFull_26 (by decide) ?_
        refine ww_goto (pc := 27) X (tgt := 31) dX8_isFull_27 (by decide) ?_
        exact ww_zret (pc := 31) X dX8_isFull_31 (by cases hF; rfl) rfl
set_option maxRecDepth 100000 in
set_option maxHeartbeats 4000000 in
theorem kX8_isFull_24 (l : Launch) (G : gG) {ex : gEx} (hZ : ∀ s : State, G.2.2.2 s → kC ex (gA G zC.1) s) (hG : gOK G zC.1) (hT : G.2.2.1.map (fun q => q.2) = zC.2.1) (σ : gS) (p1 : Int32) (out : Int32) (hF : fX8_isFull_24 σ p1 = some out) : gCi l yX8_isFull wsX8_isFull rmX8_isFull G zC [.ref (G.2.1 24), .int p1] σ out σ :=
  gEnter (by decide) rfl ⟨rfl, rfl⟩ hG hT (Nat.le_of_ble_eq_true rfl) rfl (fun M X hl => wX8_isFull_24 X hZ σ p1 hF)
noncomputable def fX3_passRun (σ : gS) : Option (gS) :=
  nm (gsI σ 46 5 (σ.1 46 7)) fun σ1 => nm (gsI σ1 46 8 (σ1.1 46 7)) fun σ2 => some σ2
noncomputable abbrev rmX3_passRun : Room := { frames := 0, cells := 0, slots := 0, locals := 0 }
set_option maxRecDepth 100000 in
set_option maxHeartbeats 4000000 in
theorem wX3_passRun {M : gM} {G : gG} {out : gS} (X : gX M G zC cX3_passRun RX3 1 wsX3_passRun rmX3_passRun none) {ex : gEx} (hZ : ∀ s : State, G.2.2.2 s → kC ex (gA G zC.1) s) (σ : gS) (hF : fX3_passRun σ = some out) : WW M (gQv M G zC out) G zC 1 σ 0 [(0, .ref (G.2.1 46))] [] := by
  unfold fX3_passRun at hF
  refine ww_aload_n (pc := 0) X (j := 0) dX3_passRun_0 rfl rfl ?_
  refine ww_aload_n (pc := 1) X (j := 0) dX3_passRun_1 rfl rfl ?_
  refine ww_get (pc := 2) X (ref := "PictureBlock$Reader") (T := TX3) (j := 7) dX3_passRun_2 inX3_passRun_RX3 shzC_46 clzC_3 (by decide) rfl (List.mem_of_getElem? (i := 1) rfl) rfl ?_
  refine ww_putI (pc := 5) X (ref := "PictureBlock$Reader") (T := TX3) (j := 5) dX3_passRun_5 inX3_passRun_RX3 tyX3 tyX3_ok nmX3 shzC_46 clzC_3 (by decide) rfl (List.mem_of_getElem? (i := 2) rfl) rfl rfl (by decide +kernel) hF (fun σ1 eσ1 hF => ?_)
  refine ww_aload_n (pc := 8) X (j := 0) dX3_passRun_8 rfl rfl ?_
  refine ww_aload_n (pc := 9) X (j := 0) dX3_passRun_9 rfl rfl ?_
  refine ww_get (pc := 10) X (ref := "PictureBlock$Reader") (T := TX3) (j := 7) dX3_passRun_10 inX3_passRun_RX3 shzC_46 clzC_3 (by decide) rfl (List.mem_of_getElem? (i := 1) rfl) rfl ?_
  refine ww_putI (pc := 13) X (ref := "PictureBlock$Reader") (T := TX3) (j := 8) dX3_passRun_13 inX3_passRun_RX3 tyX3 tyX3_ok nmX3 shzC_46 clzC_3 (by decide) rfl (List.mem_of_getElem? (i := 3) rfl) rfl rfl (by decide +kernel) hF (fun σ2 eσ2 hF => ?_)
  exact ww_vret (pc := 16) X dX3_passRun_16 (by cases hF; rfl)
set_option maxRecDepth 100000 in
set_option maxHeartbeats 4000000 in
theorem kX3_passRun (l : Launch) (G : gG) {ex : gEx} (hZ : ∀ s : State, G.2.2.2 s → kC ex (gA G zC.1) s) (hG : gOK G zC.1) (hT : G.2.2.1.map (fun q => q.2) = zC.2.1) (σ : gS) (out : gS) (hF : fX3_passRun σ = some out) : gCv l yX3_passRun wsX3_passRun rmX3_passRun G zC [.ref (G.2.1 46)] σ out :=
  gEnter (by decide) rfl ⟨rfl, rfl⟩ hG hT (Nat.le_of_ble_eq_true rfl) rfl (fun M X hl => wX3_passRun X hZ σ hF)
noncomputable def fX3_isNoRun (σ : gS) : Option (Int32) :=
  if (σ.1 46 6) = (σ.1 46 7) then some 1 else if (σ.1 46 6) = (σ.1 46 8) then some 1 else some 0
noncomputable abbrev rmX3_isNoRun : Room := { frames := 0, cells := 0, slots := 0, locals := 0 }
set_option maxRecDepth 100000 in
set_option maxHeartbeats 4000000 in
theorem wX3_isNoRun {M : gM} {G : gG} {out : Int32} (X : gX M G zC cX3_isNoRun RX3 1 wsX3_isNoRun rmX3_isNoRun (some .boolean)) {ex : gEx} (hZ : ∀ s : State, G.2.2.2 s → kC ex (gA G zC.1) s) (σ : gS) (hF : fX3_isNoRun σ = some out) : WW M (gQi M G zC out σ) G zC 1 σ 0 [(0, .ref (G.2.1 46))] [] := by
  unfold fX3_isNoRun at hF
  refine ww_aload_n (pc := 0) X (j := 0) dX3_isNoRun_0 rfl rfl ?_
  refine ww_get (pc := 1) X (ref := "PictureBlock$Reader") (T := TX3) (j := 6) dX3_isNoRun_1 inX3_isNoRun_RX3 shzC_46 clzC_3 (by decide) rfl (List.mem_of_getElem? (i := 1) rfl) rfl ?_
  refine ww_aload_n (pc := 4) X (j := 0) dX3_isNoRun_4 rfl rfl ?_
  refine ww_get (pc := 5) X (ref := "PictureBlock$Reader") (T := TX3) (j := 7) dX3_isNoRun_5 inX3_isNoRun_RX3 shzC_46 clzC_3 (by decide) rfl (List.mem_of_getElem? (i := 2) rfl) rfl ?_
  refine ww_icmp_eq (pc := 8) (tgt := 22) X dX3_isNoRun_8 (by decide) hF (fun h1 hF => ?_) (fun h1 hF => ?_)
  · refine ww_iconst (pc := 22) X (v := 1) dX3_isNoRun_22 (by decide) ?_
    refine ww_goto (pc := 23) X (tgt := 27) dX3_isNoRun_23 (by decide) ?_
    exact ww_zret (pc := 27) X dX3_isNoRun_27 (by cases hF; rfl) rfl
  · refine ww_aload_n (pc := 11) X (j := 0) dX3_isNoRun_11 rfl rfl ?_
    refine ww_get (pc := 12) X (ref := "PictureBlock$Reader") (T := TX3) (j := 6) dX3_isNoRun_12 inX3_isNoRun_RX3 shzC_46 clzC_3 (by decide) rfl (List.mem_of_getElem? (i := 1) rfl) rfl ?_
    refine ww_aload_n (pc := 15) X (j := 0) dX3_isNoRun_15 rfl rfl ?_
    refine ww_get (pc := 16) X (ref := "PictureBlock$Reader") (T := TX3) (j := 8) dX3_isNoRun_16 inX3_isNoRun_RX3 shzC_46 clzC_3 (by decide) rfl (List.mem_of_getElem? (i := 3) rfl) rfl ?_
    refine ww_icmp_ne (pc := 19) (tgt := 26) X dX3_isNoRun_19 (by decide) hF (fun h2 hF => ?_) (fun h2 hF => ?_)
    · refine ww_iconst (pc := 26) X (v := 0) dX3_isNoRun_26 (by decide) ?_
      exact ww_zret (pc := 27) X dX3_isNoRun_27 (by cases hF; rfl) rfl
    · refine ww_iconst (pc := 22) X (v := 1) dX3_isNoRun_22 (by decide) ?_
      refine ww_goto (pc := 23) X (tgt := 27) dX3_isNoRun_23 (by decide) ?_
      exact ww_zret (pc := 27) X dX3_isNoRun_27 (by cases hF; rfl) rfl
set_option maxRecDepth 100000 in
set_option maxHeartbeats 4000000 in
theorem kX3_isNoRun (l : Launch) (G : gG) {ex : gEx} (hZ : ∀ s : State, G.2.2.2 s → kC ex (gA G zC.1) s) (hG : gOK G zC.1) (hT : G.2.2.1.map (fun q => q.2) = zC.2.1) (σ : gS) (out : Int32) (hF : fX3_isNoRun σ = some out) : gCi l yX3_isNoRun wsX3_isNoRun rmX3_isNoRun G zC [.ref (G.2.1 46)] σ out σ :=
  gEnter (by decide) rfl ⟨rfl, rfl⟩ hG hT (Nat.le_of_ble_eq_true rfl) rfl (fun M X hl => wX3_isNoRun X hZ σ hF)
noncomputable def fX3_fail (σ : gS) (p1 : Int32) (p2 : Int32) : Option (Int32 × gS) :=
  nm (gsI σ 46 2 p1) fun σ1 => nm (gsI σ1 46 3 p2) fun σ2 => some (0, σ2)
noncomputable abbrev rmX3_fail : Room := { frames := 0, cells := 0, slots := 0, locals := 0 }
set_option maxRecDepth 100000 in
set_option maxHeartbeats 4000000 in
theorem wX3_fail {M : gM} {G : gG} {out : Int32 × gS} (X : gX M G zC cX3_fail RX3 3 wsX3_fail rmX3_fail (some .boolean)) {ex : gEx} (hZ : ∀ s : State, G.2.2.2 s → kC ex (gA G zC.1) s) (σ : gS) (p1 : Int32) (p2 : Int32) (hF : fX3_fail σ p1 p2 = some out) : WW M (gQi M G zC out.1 out.2) G zC 3 σ 0 [(0, .ref (G.2.1 46)), (1, .int p1), (2, .int p2)] [] := by
  unfold fX3_fail at hF
  refine ww_aload_n (pc := 0) X (j := 0) dX3_fail_0 rfl rfl ?_
  refine ww_iload_n (pc := 1) X (j := 1) dX3_fail_1 rfl rfl ?_
  refine ww_putI (pc := 2) X (ref := "PictureBlock$Reader") (T := TX3) (j := 2) dX3_fail_2 inX3_fail_RX3 tyX3 tyX3_ok nmX3 shzC_46 clzC_3 (by decide) rfl (List.mem_of_getElem? (i := 1) rfl) rfl rfl (by decide +kernel) hF (fun σ1 eσ1 hF => ?_)
  refine ww_aload_n (pc := 5) X (j := 0) dX3_fail_5 rfl rfl ?_
  refine ww_iload_n (pc := 6) X (j := 2) dX3_fail_6 rfl rfl ?_
  refine ww_putI (pc := 7) X (ref := "PictureBlock$Reader") (T := TX3) (j := 3) dX3_fail_7 inX3_fail_RX3 tyX3 tyX3_ok nmX3 shzC_46 clzC_3 (by decide) rfl (List.mem_of_getElem? (i := 2) rfl) rfl rfl (by decide +kernel) hF (fun σ2 eσ2 hF => ?_)
  refine ww_iconst (pc := 10) X (v := 0) dX3_fail_10 (by decide) ?_
  exact ww_zret (pc := 11) X dX3_fail_11 (by cases hF; rfl) (by cases hF; rfl)
set_option maxRecDepth 100000 in
set_option maxHeartbeats 4000000 in
theorem kX3_fail (l : Launch) (G : gG) {ex : gEx} (hZ : ∀ s : State, G.2.2.2 s → kC ex (gA G zC.1) s) (hG : gOK G zC.1) (hT : G.2.2.1.map (fun q => q.2) = zC.2.1) (σ : gS) (p1 : Int32) (p2 : Int32) (out : Int32 × gS) (hF : fX3_fail σ p1 p2 = some out) : gCi l yX3_fail wsX3_fail rmX3_fail G zC [.ref (G.2.1 46), .int p1, .int p2] σ out.1 out.2 :=
  gEnter (by decide) rfl ⟨rfl, rfl⟩ hG hT (Nat.le_of_ble_eq_true rfl) rfl (fun M X hl => wX3_fail X hZ σ p1 p2 hF)
noncomputable def fJ0_coder_7d493_K6 (σ : gS) : Option (Int32) :=
  if (1 : Int32) = 0 then none else some (vp_nar .byte (0 : Int32))
set_option maxRecDepth 100000 in
set_option maxHeartbeats 4000000 in
theorem wJ0_coder_7d493_K6 {M : gM} {G : gG} {out : Int32} (X : gX M G zC cJ0_coder_7d493 RJ0 1 wsJ0_coder_7d493 rmJ0_coder_7d493 (some .byte)) {ex : gEx} (hZ : ∀ s : State, G.2.2.2 s → kC ex (gA G zC.1) s) (σ : gS) (hF : fJ0_coder_7d493_K6 σ = some out) : WW M (gQi M G zC out σ) G zC 1 σ 0 [(0, .ref (ex.1 6))] [] := by
  unfold fJ0_coder_7d493_K6 at hF
  refine ww_getsE (pc := 0) X (v := .int 1) dJ0_coder_7d493_0 (eC_compact (hZ _ (gXk X))) (List.mem_of_getElem? (i := 1) rfl) rfl ?_
  refine ww_if_eq (pc := 3) (tgt := 13) X dJ0_coder_7d493_3 (by decide) hF (fun h1 hF => ?_) (fun h1 hF => ?_)
  · cases hF
  · refine ww_aload_n (pc := 6) X (j := 0) dJ0_coder_7d493_6 rfl rfl ?_
    refine ww_getE (pc := 7) X dJ0_coder_7d493_7 (eC_coder (hZ _ (gXk X)) 6 (by decide)) (List.mem_of_getElem? (i := 2) rfl) rfl ?_
    refine ww_goto (pc := 10) X (tgt := 14) dJ0_coder_7d493_10 (by decide) ?_
    exact ww_nret (pc := 14) X dJ0_coder_7d493_14 rfl (Option.some.inj hF) rfl
set_option maxRecDepth 100000 in
set_option maxHeartbeats 4000000 in
theorem kJ0_coder_7d493_K6 (l : Launch) (G : gG) {ex : gEx} (hZ : ∀ s : State, G.2.2.2 s → kC ex (gA G zC.1) s) (hG : gOK G zC.1) (hT : G.2.2.1.map (fun q => q.2) = zC.2.1) (σ : gS) (out : Int32) (hF : fJ0_coder_7d493_K6 σ = some out) : gCi l yJ0_coder_7d493 wsJ0_coder_7d493 rmJ0_coder_7d493 G zC [.ref (ex.1 6)] σ out σ :=
  gEnter (by decide) rfl ⟨rfl, rfl⟩ hG hT (Nat.le_of_ble_eq_true rfl) rfl (fun M X hl => wJ0_coder_7d493_K6 X hZ σ hF)
noncomputable def fJ0_length_8abf5_K6 (σ : gS) : Option (Int32) :=
  bd (fJ0_coder_7d493_K6 σ) fun r2 => some (2 >>> (r2 &&& 31))
set_option maxRecDepth 100000 in
set_option maxHeartbeats 4000000 in
theorem wJ0_length_8abf5_K6 {M : gM} {G : gG} {out : Int32} (X : gX M G zC cJ0_length_8abf5 RJ0 1 wsJ0_length_8abf5 rmJ0_length_8abf5 (some .int)) {ex : gEx} (hZ : ∀ s : State, G.2.2.2 s → kC ex (gA G zC.1) s) (σ : gS) (hF : fJ0_length_8abf5_K6 σ = some out) : WW M (gQi M G zC out σ) G zC 1 σ 0 [(0, .ref (ex.1 6))] [] := by
  unfold fJ0_length_8abf5_K6 at hF
  refine ww_aload_n (pc := 0) X (j := 0) dJ0_length_8abf5_0 rfl rfl ?_
  refine ww_getE (pc := 1) X dJ0_length_8abf5_1 (eC_value (hZ _ (gXk X)) 6 (by decide)) (List.mem_of_getElem? (i := 1) rfl) rfl ?_
  refine ww_lenE (pc := 4) X (N := 2) (v := 2) dJ0_length_8abf5_4 (eC_bytes (hZ _ (gXk X)) 6 (by decide)) (by decide) ?_
  refine ww_aload_n (pc := 5) X (j := 0) dJ0_length_8abf5_5 rfl rfl ?_
  obtain ⟨r2, h1, hF⟩ := bd_some hF
  refine ww_callXi (pc := 6) X (As := []) (rest := [.int 2]) dJ0_length_8abf5_6 (kJ0_coder_7d493_K6 (mL M) G hZ X.2.2.2.2.2.2.1 X.2.2.2.2.2.2.2.1 σ r2 h1) rfl ((hZ _ (gXk X)).1.1 6 (by decide)).1 gJ0_length_8abf5_J0_coder_7d493 hyJ0_coder_7d493 ⟨rfl, rfl⟩ ⟨Nat.le_of_ble_eq_true rfl, Nat.le_of_ble_eq_true rfl⟩ rfl rfl (Nat.le_of_ble_eq_true rfl) ?_
  refine ww_ishr (pc := 9) X dJ0_length_8abf5_9 ?_
  exact ww_iret (pc := 10) X dJ0_length_8abf5_10 (Option.some.inj hF) rfl
set_option maxRecDepth 100000 in
set_option maxHeartbeats 4000000 in
theorem kJ0_length_8abf5_K6 (l : Launch) (G : gG) {ex : gEx} (hZ : ∀ s : State, G.2.2.2 s → kC ex (gA G zC.1) s) (hG : gOK G zC.1) (hT : G.2.2.1.map (fun q => q.2) = zC.2.1) (σ : gS) (out : Int32) (hF : fJ0_length_8abf5_K6 σ = some out) : gCi l yJ0_length_8abf5 wsJ0_length_8abf5 rmJ0_length_8abf5 G zC [.ref (ex.1 6)] σ out σ :=
  gEnter (by decide) rfl ⟨rfl, rfl⟩ hG hT (Nat.le_of_ble_eq_true rfl) rfl (fun M X hl => wJ0_length_8abf5_K6 X hZ σ hF)
noncomputable def fJ0_isLatin1_aae02_K6 (σ : gS) : Option (Int32) :=
  if (1 : Int32) = 0 then none else if (0 : Int32) = 0 then some 1 else none
set_option maxRecDepth 100000 in
set_option maxHeartbeats 4000000 in
theorem wJ0_isLatin1_aae02_K6 {M : gM} {G : gG} {out : Int32} (X : gX M G zC cJ0_isLatin1_aae02 RJ0 1 wsJ0_isLatin1_aae02 rmJ0_isLatin1_aae02 (some .boolean)) {ex : gEx} (hZ : ∀ s : State, G.2.2.2 s → kC ex (gA G zC.1) s) (σ : gS) (hF : fJ0_isLatin1_aae02_K6 σ = some out) : WW M (gQi M G zC out σ) G zC 1 σ 0 [(0, .ref (ex.1 6))] [] := by
  unfold fJ0_isLatin1_aae02_K6 at hF
  refine ww_getsE (pc := 0) X (v := .int 1) dJ0_isLatin1_aae02_0 (eC_compact (hZ _ (gXk X))) (List.mem_of_getElem? (i := 1) rfl) rfl ?_
  refine ww_if_eq (pc := 3) (tgt := 17) X dJ0_isLatin1_aae02_3 (by decide) hF (fun h1 hF => ?_) (fun h1 hF => ?_)
  · cases hF
  · refine ww_aload_n (pc := 6) X (j := 0) dJ0_isLatin1_aae02_6 rfl rfl ?_
    refine ww_getE (pc := 7) X dJ0_isLatin1_aae02_7 (eC_coder (hZ _ (gXk X)) 6 (by decide)) (List.mem_of_getElem? (i := 2) rfl) rfl ?_
    refine ww_if_ne (pc := 10) (tgt := 17) X dJ0_isLatin1_aae02_10 (by decide) hF (fun h2 hF => ?_) (fun h2 hF => ?_)
    · cases hF
    · refine ww_iconst (pc := 13) X (v := 1) dJ0_isLatin1_aae02_13 (by decide) ?_
      refine ww_goto (pc := 14) X (tgt := 18) dJ0_isLatin1_aae02_14 (by decide) ?_
      exact ww_zret (pc := 18) X dJ0_isLatin1_aae02_18 (by cases hF; rfl) rfl
set_option maxRecDepth 100000 in
set_option maxHeartbeats 4000000 in
theorem kJ0_isLatin1_aae02_K6 (l : Launch) (G : gG) {ex : gEx} (hZ : ∀ s : State, G.2.2.2 s → kC ex (gA G zC.1) s) (hG : gOK G zC.1) (hT : G.2.2.1.map (fun q => q.2) = zC.2.1) (σ : gS) (out : Int32) (hF : fJ0_isLatin1_aae02_K6 σ = some out) : gCi l yJ0_isLatin1_aae02 wsJ0_isLatin1_aae02 rmJ0_isLatin1_aae02 G zC [.ref (ex.1 6)] σ out σ :=
  gEnter (by decide) rfl ⟨rfl, rfl⟩ hG hT (Nat.le_of_ble_eq_true rfl) rfl (fun M X hl => wJ0_isLatin1_aae02_K6 X hZ σ hF)
noncomputable def fJ1_charAt_3b067_V6 (σ : gS) (p1 : Int32) : Option (Int32) :=
  bd (fJ0_checkIndex_df160 σ p1 2) fun u2 => gd (gb p1 2) <| nm ((bytC 6) p1.toNatClampNeg) fun v3 => some (vp_nar .char (((v3 &&& 255).toUInt32 % 65536).toInt32))
set_option maxRecDepth 100000 in
set_option maxHeartbeats 4000000 in
theorem wJ1_charAt_3b067_V6 {M : gM} {G : gG} {out : Int32} (X : gX M G zC cJ1_charAt_3b067 RJ1 2 wsJ1_charAt_3b067 rmJ1_charAt_3b067 (some .char)) {ex : gEx} (hZ : ∀ s : State, G.2.2.2 s → kC ex (gA G zC.1) s) (σ : gS) (p1 : Int32) (hF : fJ1_charAt_3b067_V6 σ p1 = some out) : WW M (gQi M G zC out σ) G zC 2 σ 0 [(0, .ref (ex.2.1 6)), (1, .int p1)] [] := by
  unfold fJ1_charAt_3b067_V6 at hF
  refine ww_iload_n (pc := 0) X (j := 1) dJ1_charAt_3b067_0 rfl rfl ?_
  refine ww_aload_n (pc := 1) X (j := 0) dJ1_charAt_3b067_1 rfl rfl ?_
  refine ww_lenE (pc := 2) X (N := 2) (v := 2) dJ1_charAt_3b067_2 (eC_bytes (hZ _ (gXk X)) 6 (by decide)) (by decide) ?_
  obtain ⟨u2, h1, hF⟩ := bd_some hF
  refine ww_callSv (pc := 3) X (As := [.int p1, .int 2]) (rest := []) dJ1_charAt_3b067_3 (kJ0_checkIndex_df160 (mL M) G hZ X.2.2.2.2.2.2.1 X.2.2.2.2.2.2.2.1 σ p1 2 h1) rfl gJ1_charAt_3b067_J0_checkIndex_df160 hyJ0_checkIndex_df160 ⟨rfl, rfl⟩ ⟨Nat.le_of_ble_eq_true rfl, Nat.le_of_ble_eq_true rfl⟩ rfl rfl (Nat.le_of_ble_eq_true rfl) ?_
  refine ww_aload_n (pc := 6) X (j := 0) dJ1_charAt_3b067_6 rfl rfl ?_
  refine ww_iload_n (pc := 7) X (j := 1) dJ1_charAt_3b067_7 rfl rfl ?_
  refine ww_tbE (pc := 8) X (N := 2) (g := (bytC 6)) dJ1_charAt_3b067_8 (eC_bytes (hZ _ (gXk X)) 6 (by decide)) hF (fun v3 ev3 bv3 hF => ?_)
  refine ww_sipush (pc := 9) X (v := 255) dJ1_charAt_3b067_9 (by decide) ?_
  refine ww_iand (pc := 12) X dJ1_charAt_3b067_12 ?_
  refine ww_i2c (pc := 13) X dJ1_charAt_3b067_13 ?_
  exact ww_nret (pc := 14) X dJ1_charAt_3b067_14 rfl (Option.some.inj hF) rfl
set_option maxRecDepth 100000 in
set_option maxHeartbeats 4000000 in
theorem kJ1_charAt_3b067_V6 (l : Launch) (G : gG) {ex : gEx} (hZ : ∀ s : State, G.2.2.2 s → kC ex (gA G zC.1) s) (hG : gOK G zC.1) (hT : G.2.2.1.map (fun q => q.2) = zC.2.1) (σ : gS) (p1 : Int32) (out : Int32) (hF : fJ1_charAt_3b067_V6 σ p1 = some out) : gCi l yJ1_charAt_3b067 wsJ1_charAt_3b067 rmJ1_charAt_3b067 G zC [.ref (ex.2.1 6), .int p1] σ out σ :=
  gEnter (by decide) rfl ⟨rfl, rfl⟩ hG hT (Nat.le_of_ble_eq_true rfl) rfl (fun M X hl => wJ1_charAt_3b067_V6 X hZ σ p1 hF)
noncomputable def fJ0_charAt_5068e_K6 (σ : gS) (p1 : Int32) : Option (Int32) :=
  bd (fJ0_isLatin1_aae02_K6 σ) fun r2 => (if r2 = 0 then none else bd (fJ1_charAt_3b067_V6 σ p1) fun r5 => some (vp_nar .char r5))
set_option maxRecDepth 100000 in
set_option maxHeartbeats 4000000 in
theorem wJ0_charAt_5068e_K6 {M : gM} {G : gG} {out : Int32} (X : gX M G zC cJ0_charAt_5068e RJ0 2 wsJ0_charAt_5068e rmJ0_charAt_5068e (some .char)) {ex : gEx} (hZ : ∀ s : State, G.2.2.2 s → kC ex (gA G zC.1) s) (σ : gS) (p1 : Int32) (hF : fJ0_charAt_5068e_K6 σ p1 = some out) : WW M (gQi M G zC out σ) G zC 2 σ 0 [(0, .ref (ex.1 6)), (1, .int p1)] [] := by
  unfold fJ0_charAt_5068e_K6 at hF
  refine ww_aload_n (pc := 0) X (j := 0) dJ0_charAt_5068e_0 rfl rfl ?_
  obtain ⟨r2, h1, hF⟩ := bd_some hF
  refine ww_callXi (pc := 1) X (As := []) (rest := []) dJ0_charAt_5068e_1 (kJ0_isLatin1_aae02_K6 (mL M) G hZ X.2.2.2.2.2.2.1 X.2.2.2.2.2.2.2.1 σ r2 h1) rfl ((hZ _ (gXk X)).1.1 6 (by decide)).1 gJ0_charAt_5068e_J0_isLatin1_aae02 hyJ0_isLatin1_aae02 ⟨rfl, rfl⟩ ⟨Nat.le_of_ble_eq_true rfl, Nat.le_of_ble_eq_true rfl⟩ rfl rfl (Nat.le_of_ble_eq_true rfl) ?_
  refine ww_if_eq (pc := 4) (tgt := 16) X dJ0_charAt_5068e_4 (by decide) hF (fun h3 hF => ?_) (fun h3 hF => ?_)
  · refine ww_aload_n (pc := 16) X (j := 0) dJ0_charAt_5068e_16 rfl rfl ?_
    refine ww_getE (pc := 17) X dJ0_charAt_5068e_17 (eC_value (hZ _ (gXk X)) 6 (by decide)) (List.mem_of_getElem? (i := 1) rfl) rfl ?_
    refine ww_iload_n (pc := 20) X (j := 1) dJ0_charAt_5068e_20 rfl rfl ?_
    cases hF
  · refine ww_aload_n (pc := 7) X (j := 0) dJ0_charAt_5068e_7 rfl rfl ?_
    refine ww_getE (pc := 8) X dJ0_charAt_5068e_8 (eC_value (hZ _ (gXk X)) 6 (by decide)) (List.mem_of_getElem? (i := 1) rfl) rfl ?_
    refine ww_iload_n (pc := 11) X (j := 1) dJ0_charAt_5068e_11 rfl rfl ?_
    obtain ⟨r5, h4, hF⟩ := bd_some hF
    refine ww_callSi (pc := 12) X (As := [.ref (ex.2.1 6), .int p1]) (rest := []) dJ0_charAt_5068e_12 (kJ1_charAt_3b067_V6 (mL M) G hZ X.2.2.2.2.2.2.1 X.2.2.2.2.2.2.2.1 σ p1 r5 h4) rfl gJ0_charAt_5068e_J1_charAt_3b067 hyJ1_charAt_3b067 ⟨rfl, rfl⟩ ⟨Nat.le_of_ble_eq_true rfl, Nat.le_of_ble_eq_true rfl⟩ rfl rfl (Nat.le_of_ble_eq_true rfl) ?_
    exact ww_nret (pc := 15) X dJ0_charAt_5068e_15 rfl (Option.some.inj hF) rfl
set_option maxRecDepth 100000 in
set_option maxHeartbeats 4000000 in
theorem kJ0_charAt_5068e_K6 (l : Launch) (G : gG) {ex : gEx} (hZ : ∀ s : State, G.2.2.2 s → kC ex (gA G zC.1) s) (hG : gOK G zC.1) (hT : G.2.2.1.map (fun q => q.2) = zC.2.1) (σ : gS) (p1 : Int32) (out : Int32) (hF : fJ0_charAt_5068e_K6 σ p1 = some out) : gCi l yJ0_charAt_5068e wsJ0_charAt_5068e rmJ0_charAt_5068e G zC [.ref (ex.1 6), .int p1] σ out σ :=
  gEnter (by decide) rfl ⟨rfl, rfl⟩ hG hT (Nat.le_of_ble_eq_true rfl) rfl (fun M X hl => wJ0_charAt_5068e_K6 X hZ σ p1 hF)
noncomputable def bX3_isWord_K6_20 (σ : gS) (rec20 : Int32 → Option (Int32)) (a2 : Int32) : Option (Int32) :=
  bd (fJ0_length_8abf5_K6 σ) fun r6 => (if r6 ≤ a2 then some 1 else gd (gb ((σ.1 46 6) + a2) 1600) <| nm (σ.1 1 ((σ.1 46 6) + a2).toNatClampNeg) fun v8 => bd (fJ0_charAt_5068e_K6 σ a2) fun r10 => (if v8 = r10 then nm (a2 + 1 : Int32) fun x12 => rec20 x12 else some 0))
noncomputable def fX3_isWord_K6 (σ : gS) : Option (Int32) :=
  bd (fJ0_length_8abf5_K6 σ) fun r2 => (if ((σ.1 46 7) - (σ.1 46 6)) = r2 then nm (0 : Int32) fun x4 => lpc (S := Int32) K9 (fun rec s => bX3_isWord_K6_20 σ (fun a2 => rec (a2)) s) (x4) else some 0)
set_option maxRecDepth 100000 in
set_option maxHeartbeats 4000000 in
theorem wbX3_isWord_K6_20 {M : gM} {G : gG} {out : Int32} (X : gX M G zC cX3_isWord RX3 3 wsX3_isWord rmX3_isWord (some .boolean)) {ex : gEx} (hZ : ∀ s : State, G.2.2.2 s → kC ex (gA G zC.1) s) (σ : gS) (rec20 : Int32 → Option (Int32)) (ih20 : ∀ (a2 : Int32), rec20 a2 = some out → WW M (gQi M G zC out σ) G zC 3 σ 20 [(0, .ref (G.2.1 46)), (1, .ref (ex.1 6)), (2, .int a2)] []) (a2 : Int32) (hF : bX3_isWord_K6_20 σ rec20 a2 = some out) : WW M (gQi M G zC out σ) G zC 3 σ 20 [(0, .ref (G.2.1 46)), (1, .ref (ex.1 6)), (2, .int a2)] [] := by
  unfold bX3_isWord_K6_20 at hF
  refine ww_iload_n (pc := 20) X (j := 2) dX3_isWord_20 rfl rfl ?_
  refine ww_aload_n (pc := 21) X (j := 1) dX3_isWord_21 rfl rfl ?_
  obtain ⟨r6, h5, hF⟩ := bd_some hF
  refine ww_callXi (pc := 22) X (As := []) (rest := [.int a2]) dX3_isWord_22 (kJ0_length_8abf5_K6 (mL M) G hZ X.2.2.2.2.2.2.1 X.2.2.2.2.2.2.2.1 σ r6 h5) rfl ((hZ _ (gXk X)).1.1 6 (by decide)).1 gX3_isWord_J0_length_8abf5 hyJ0_length_8abf5 ⟨rfl, rfl⟩ ⟨Nat.le_of_ble_eq_true rfl, Nat.le_of_ble_eq_true rfl⟩ rfl rfl (Nat.le_of_ble_eq_true rfl) ?_
  refine ww_icmp_ge (pc := 25) (tgt := 55) X dX3_isWord_25 (by decide) hF (fun h7 hF => ?_) (fun h7 hF => ?_)
  · refine ww_iconst (pc := 55) X (v := 1) dX3_isWord_55 (by decide) ?_
    exact ww_zret (pc := 56) X dX3_isWord_56 (by cases hF; rfl) rfl
  · refine ww_aload_n (pc := 28) X (j := 0) dX3_isWord_28 rfl rfl ?_
    refine ww_get (pc := 29) X (ref := "PictureBlock$Reader") (T := TX3) (j := 0) dX3_isWord_29 inX3_isWord_RX3 shzC_46 clzC_3 (by decide) rfl (List.mem_of_getElem? (i := 3) rfl) rfl ?_
    refine ww_aload_n (pc := 32) X (j := 0) dX3_isWord_32 rfl rfl ?_
    refine ww_get (pc := 33) X (ref := "PictureBlock$Reader") (T := TX3) (j := 6) dX3_isWord_33 inX3_isWord_RX3 shzC_46 clzC_3 (by decide) rfl (List.mem_of_getElem? (i := 2) rfl) rfl ?_
    refine ww_iload_n (pc := 36) X (j := 2) dX3_isWord_36 rfl rfl ?_
    refine ww_iadd (pc := 37) X dX3_isWord_37 ?_
    refine ww_iald (pc := 38) X dX3_isWord_38 shzC_1 rfl hF (fun v8 ev8 bv8 hF => ?_)
    refine ww_aload_n (pc := 39) X (j := 1) dX3_isWord_39 rfl rfl ?_
    refine ww_iload_n (pc := 40) X (j := 2) dX3_isWord_40 rfl rfl ?_
    obtain ⟨r10, h9, hF⟩ := bd_some hF
    refine ww_callXi (pc := 41) X (As := [.int a2]) (rest := [.int v8]) dX3_isWord_41 (kJ0_charAt_5068e_K6 (mL M) G hZ X.2.2.2.2.2.2.1 X.2.2.2.2.2.2.2.1 σ a2 r10 h9) rfl ((hZ _ (gXk X)).1.1 6 (by decide)).1 gX3_isWord_J0_charAt_5068e hyJ0_charAt_5068e ⟨rfl, rfl⟩ ⟨Nat.le_of_ble_eq_true rfl, Nat.le_of_ble_eq_true rfl⟩ rfl rfl (Nat.le_of_ble_eq_true rfl) ?_
    refine ww_icmp_eq (pc := 44) (tgt := 49) X dX3_isWord_44 (by decide) hF (fun h11 hF => ?_) (fun h11 hF => ?_)
    · refine ww_iinc (pc := 49) X (j := 2) (v := 1) (lv' := [(0, .ref (G.2.1 46)), (1, .ref (ex.1 6))]) dX3_isWord_49 rfl rfl (by decide) rfl hF (fun x12 ex12 hF => ?_)
      refine ww_goto (pc := 52) X (tgt := 20) dX3_isWord_52 (by decide) ?_
      exact ww_sub [1, 2, 0] rfl (ih20 x12 hF)
    · refine ww_iconst (pc := 47) X (v := 0) dX3_isWord_47 (by decide) ?_
      exact ww_zret (pc := 48) X dX3_isWord_48 (by cases hF; rfl) rfl
set_option maxRecDepth 100000 in
set_option maxHeartbeats 4000000 in
theorem wX3_isWord_K6 {M : gM} {G : gG} {out : Int32} (X : gX M G zC cX3_isWord RX3 3 wsX3_isWord rmX3_isWord (some .boolean)) {ex : gEx} (hZ : ∀ s : State, G.2.2.2 s → kC ex (gA G zC.1) s) (σ : gS) (hF : fX3_isWord_K6 σ = some out) : WW M (gQi M G zC out σ) G zC 3 σ 0 [(0, .ref (G.2.1 46)), (1, .ref (ex.1 6))] [] := by
  unfold fX3_isWord_K6 at hF
  refine ww_aload_n (pc := 0) X (j := 0) dX3_isWord_0 rfl rfl ?_
  refine ww_get (pc := 1) X (ref := "PictureBlock$Reader") (T := TX3) (j := 7) dX3_isWord_1 inX3_isWord_RX3 shzC_46 clzC_3 (by decide) rfl (List.mem_of_getElem? (i := 1) rfl) rfl ?_
  refine ww_aload_n (pc := 4) X (j := 0) dX3_isWord_4 rfl rfl ?_
  refine ww_get (pc := 5) X (ref := "PictureBlock$Reader") (T := TX3) (j := 6) dX3_isWord_5 inX3_isWord_RX3 shzC_46 clzC_3 (by decide) rfl (List.mem_of_getElem? (i := 2) rfl) rfl ?_
  refine ww_isub (pc := 8) X dX3_isWord_8 ?_
  refine ww_aload_n (pc := 9) X (j := 1) dX3_isWord_9 rfl rfl ?_
  obtain ⟨r2, h1, hF⟩ := bd_some hF
  refine ww_callXi (pc := 10) X (As := []) (rest := [.int ((σ.1 46 7) - (σ.1 46 6))]) dX3_isWord_10 (kJ0_length_8abf5_K6 (mL M) G hZ X.2.2.2.2.2.2.1 X.2.2.2.2.2.2.2.1 σ r2 h1) rfl ((hZ _ (gXk X)).1.1 6 (by decide)).1 gX3_isWord_J0_length_8abf5 hyJ0_length_8abf5 ⟨rfl, rfl⟩ ⟨Nat.le_of_ble_eq_true rfl, Nat.le_of_ble_eq_true rfl⟩ rfl rfl (Nat.le_of_ble_eq_true rfl) ?_
  refine ww_icmp_eq (pc := 13) (tgt := 18) X dX3_isWord_13 (by decide) hF (fun h3 hF => ?_) (fun h3 hF => ?_)
  · refine ww_iconst (pc := 18) X (v := 0) dX3_isWord_18 (by decide) ?_
    refine ww_istore_n (pc := 19) X (lv' := [(0, .ref (G.2.1 46)), (1, .ref (ex.1 6))]) dX3_isWord_19 rfl (by decide) rfl hF (fun x4 ex4 hF => ?_)
    exact ww_sub [1, 2, 0] rfl (lpc_ind (P := (fun (s : Int32) => WW M (gQi M G zC out σ) G zC 3 σ 20 [(0, .ref (G.2.1 46)), (1, .ref (ex.1 6)), (2, .int s)] [])) (fun rec s ih hF => wbX3_isWord_K6_20 X hZ σ (fun a2 => rec (a2)) (fun a2 h => ih (a2) h) s hF) K9 (x4) hF)
  · refine ww_iconst (pc := 16) X (v := 0) dX3_isWord_16 (by decide) ?_
    exact ww_zret (pc := 17) X dX3_isWord_17 (by cases hF; rfl) rfl
set_option maxRecDepth 100000 in
set_option maxHeartbeats 4000000 in
theorem kX3_isWord_K6 (l : Launch) (G : gG) {ex : gEx} (hZ : ∀ s : State, G.2.2.2 s → kC ex (gA G zC.1) s) (hG : gOK G zC.1) (hT : G.2.2.1.map (fun q => q.2) = zC.2.1) (σ : gS) (out : Int32) (hF : fX3_isWord_K6 σ = some out) : gCi l yX3_isWord wsX3_isWord rmX3_isWord G zC [.ref (G.2.1 46), .ref (ex.1 6)] σ out σ :=
  gEnter (by decide) rfl ⟨rfl, rfl⟩ hG hT (Nat.le_of_ble_eq_true rfl) rfl (fun M X hl => wX3_isWord_K6 X hZ σ hF)
noncomputable def fJ0_coder_7d493_K7 (σ : gS) : Option (Int32) :=
  if (1 : Int32) = 0 then none else some (vp_nar .byte (0 : Int32))
set_option maxRecDepth 100000 in
set_option maxHeartbeats 4000000 in
theorem wJ0_coder_7d493_K7 {M : gM} {G : gG} {out : Int32} (X : gX M G zC cJ0_coder_7d493 RJ0 1 wsJ0_coder_7d493 rmJ0_coder_7d493 (some .byte)) {ex : gEx} (hZ : ∀ s : State, G.2.2.2 s → kC ex (gA G zC.1) s) (σ : gS) (hF : fJ0_coder_7d493_K7 σ = some out) : WW M (gQi M G zC out σ) G zC 1 σ 0 [(0, .ref (ex.1 7))] [] := by
  unfold fJ0_coder_7d493_K7 at hF
  refine ww_getsE (pc := 0) X (v := .int 1) dJ0_coder_7d493_0 (eC_compact (hZ _ (gXk X))) (List.mem_of_getElem? (i := 1) rfl) rfl ?_
  refine ww_if_eq (pc := 3) (tgt := 13) X dJ0_coder_7d493_3 (by decide) hF (fun h1 hF => ?_) (fun h1 hF => ?_)
  · cases hF
  · refine ww_aload_n (pc := 6) X (j := 0) dJ0_coder_7d493_6 rfl rfl ?_
    refine ww_getE (pc := 7) X dJ0_coder_7d493_7 (eC_coder (hZ _ (gXk X)) 7 (by decide)) (List.mem_of_getElem? (i := 2) rfl) rfl ?_
    refine ww_goto (pc := 10) X (tgt := 14) dJ0_coder_7d493_10 (by decide) ?_
    exact ww_nret (pc := 14) X dJ0_coder_7d493_14 rfl (Option.some.inj hF) rfl
set_option maxRecDepth 100000 in
set_option maxHeartbeats 4000000 in
theorem kJ0_coder_7d493_K7 (l : Launch) (G : gG) {ex : gEx} (hZ : ∀ s : State, G.2.2.2 s → kC ex (gA G zC.1) s) (hG : gOK G zC.1) (hT : G.2.2.1.map (fun q => q.2) = zC.2.1) (σ : gS) (out : Int32) (hF : fJ0_coder_7d493_K7 σ = some out) : gCi l yJ0_coder_7d493 wsJ0_coder_7d493 rmJ0_coder_7d493 G zC [.ref (ex.1 7)] σ out σ :=
  gEnter (by decide) rfl ⟨rfl, rfl⟩ hG hT (Nat.le_of_ble_eq_true rfl) rfl (fun M X hl => wJ0_coder_7d493_K7 X hZ σ hF)
noncomputable def fJ0_length_8abf5_K7 (σ : gS) : Option (Int32) :=
  bd (fJ0_coder_7d493_K7 σ) fun r2 => some (4 >>> (r2 &&& 31))
set_option maxRecDepth 100000 in
set_option maxHeartbeats 4000000 in
theorem wJ0_length_8abf5_K7 {M : gM} {G : gG} {out : Int32} (X : gX M G zC cJ0_length_8abf5 RJ0 1 wsJ0_length_8abf5 rmJ0_length_8abf5 (some .int)) {ex : gEx} (hZ : ∀ s : State, G.2.2.2 s → kC ex (gA G zC.1) s) (σ : gS) (hF : fJ0_length_8abf5_K7 σ = some out) : WW M (gQi M G zC out σ) G zC 1 σ 0 [(0, .ref (ex.1 7))] [] := by
  unfold fJ0_length_8abf5_K7 at hF
  refine ww_aload_n (pc := 0) X (j := 0) dJ0_length_8abf5_0 rfl rfl ?_
  refine ww_getE (pc := 1) X dJ0_length_8abf5_1 (eC_value (hZ _ (gXk X)) 7 (by decide)) (List.mem_of_getElem? (i := 1) rfl) rfl ?_
  refine ww_lenE (pc := 4) X (N := 4) (v := 4) dJ0_length_8abf5_4 (eC_bytes (hZ _ (gXk X)) 7 (by decide)) (by decide) ?_
  refine ww_aload_n (pc := 5) X (j := 0) dJ0_length_8abf5_5 rfl rfl ?_
  obtain ⟨r2, h1, hF⟩ := bd_some hF
  refine ww_callXi (pc := 6) X (As := []) (rest := [.int 4]) dJ0_length_8abf5_6 (kJ0_coder_7d493_K7 (mL M) G hZ X.2.2.2.2.2.2.1 X.2.2.2.2.2.2.2.1 σ r2 h1) rfl ((hZ _ (gXk X)).1.1 7 (by decide)).1 gJ0_length_8abf5_J0_coder_7d493 hyJ0_coder_7d493 ⟨rfl, rfl⟩ ⟨Nat.le_of_ble_eq_true rfl, Nat.le_of_ble_eq_true rfl⟩ rfl rfl (Nat.le_of_ble_eq_true rfl) ?_
  refine ww_ishr (pc := 9) X dJ0_length_8abf5_9 ?_
  exact ww_iret (pc := 10) X dJ0_length_8abf5_10 (Option.some.inj hF) rfl
set_option maxRecDepth 100000 in
set_option maxHeartbeats 4000000 in
theorem kJ0_length_8abf5_K7 (l : Launch) (G : gG) {ex : gEx} (hZ : ∀ s : State, G.2.2.2 s → kC ex (gA G zC.1) s) (hG : gOK G zC.1) (hT : G.2.2.1.map (fun q => q.2) = zC.2.1) (σ : gS) (out : Int32) (hF : fJ0_length_8abf5_K7 σ = some out) : gCi l yJ0_length_8abf5 wsJ0_length_8abf5 rmJ0_length_8abf5 G zC [.ref (ex.1 7)] σ out σ :=
  gEnter (by decide) rfl ⟨rfl, rfl⟩ hG hT (Nat.le_of_ble_eq_true rfl) rfl (fun M X hl => wJ0_length_8abf5_K7 X hZ σ hF)
