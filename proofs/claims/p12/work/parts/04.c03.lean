noncomputable def fJ0_isLatin1_aae02_K7 (σ : gS) : Option (Int32) :=
  if (1 : Int32) = 0 then none else if (0 : Int32) = 0 then some 1 else none
set_option maxRecDepth 100000 in
set_option maxHeartbeats 4000000 in
theorem wJ0_isLatin1_aae02_K7 {M : gM} {G : gG} {out : Int32} (X : gX M G zC cJ0_isLatin1_aae02 RJ0 1 wsJ0_isLatin1_aae02 rmJ0_isLatin1_aae02 (some .boolean)) {ex : gEx} (hZ : ∀ s : State, G.2.2.2 s → kC ex (gA G zC.1) s) (σ : gS) (hF : fJ0_isLatin1_aae02_K7 σ = some out) : WW M (gQi M G zC out σ) G zC 1 σ 0 [(0, .ref (ex.1 7))] [] := by
  unfold fJ0_isLatin1_aae02_K7 at hF
  refine ww_getsE (pc := 0) X (v := .int 1) dJ0_isLatin1_aae02_0 (eC_compact (hZ _ (gXk X))) (List.mem_of_getElem? (i := 1) rfl) rfl ?_
  refine ww_if_eq (pc := 3) (tgt := 17) X dJ0_isLatin1_aae02_3 (by decide) hF (fun h1 hF => ?_) (fun h1 hF => ?_)
  · cases hF
  · refine ww_aload_n (pc := 6) X (j := 0) dJ0_isLatin1_aae02_6 rfl rfl ?_
    refine ww_getE (pc := 7) X dJ0_isLatin1_aae02_7 (eC_coder (hZ _ (gXk X)) 7 (by decide)) (List.mem_of_getElem? (i := 2) rfl) rfl ?_
    refine ww_if_ne (pc := 10) (tgt := 17) X dJ0_isLatin1_aae02_10 (by decide) hF (fun h2 hF => ?_) (fun h2 hF => ?_)
    · cases hF
    · refine ww_iconst (pc := 13) X (v := 1) dJ0_isLatin1_aae02_13 (by decide) ?_
      refine ww_goto (pc := 14) X (tgt := 18) dJ0_isLatin1_aae02_14 (by decide) ?_
      exact ww_zret (pc := 18) X dJ0_isLatin1_aae02_18 (by cases hF; rfl) rfl
set_option maxRecDepth 100000 in
set_option maxHeartbeats 4000000 in
theorem kJ0_isLatin1_aae02_K7 (l : Launch) (G : gG) {ex : gEx} (hZ : ∀ s : State, G.2.2.2 s → kC ex (gA G zC.1) s) (hG : gOK G zC.1) (hT : G.2.2.1.map (fun q => q.2) = zC.2.1) (σ : gS) (out : Int32) (hF : fJ0_isLatin1_aae02_K7 σ = some out) : gCi l yJ0_isLatin1_aae02 wsJ0_isLatin1_aae02 rmJ0_isLatin1_aae02 G zC [.ref (ex.1 7)] σ out σ :=
  gEnter (by decide) rfl ⟨rfl, rfl⟩ hG hT (Nat.le_of_ble_eq_true rfl) rfl (fun M X hl => wJ0_isLatin1_aae02_K7 X hZ σ hF)
noncomputable def fJ1_charAt_3b067_V7 (σ : gS) (p1 : Int32) : Option (Int32) :=
  bd (fJ0_checkIndex_df160 σ p1 4) fun u2 => gd (gb p1 4) <| nm ((bytC 7) p1.toNatClampNeg) fun v3 => some (vp_nar .char (((v3 &&& 255).toUInt32 % 65536).toInt32))
set_option maxRecDepth 100000 in
set_option maxHeartbeats 4000000 in
theorem wJ1_charAt_3b067_V7 {M : gM} {G : gG} {out : Int32} (X : gX M G zC cJ1_charAt_3b067 RJ1 2 wsJ1_charAt_3b067 rmJ1_charAt_3b067 (some .char)) {ex : gEx} (hZ : ∀ s : State, G.2.2.2 s → kC ex (gA G zC.1) s) (σ : gS) (p1 : Int32) (hF : fJ1_charAt_3b067_V7 σ p1 = some out) : WW M (gQi M G zC out σ) G zC 2 σ 0 [(0, .ref (ex.2.1 7)), (1, .int p1)] [] := by
  unfold fJ1_charAt_3b067_V7 at hF
  refine ww_iload_n (pc := 0) X (j := 1) dJ1_charAt_3b067_0 rfl rfl ?_
  refine ww_aload_n (pc := 1) X (j := 0) dJ1_charAt_3b067_1 rfl rfl ?_
  refine ww_lenE (pc := 2) X (N := 4) (v := 4) dJ1_charAt_3b067_2 (eC_bytes (hZ _ (gXk X)) 7 (by decide)) (by decide) ?_
  obtain ⟨u2, h1, hF⟩ := bd_some hF
  refine ww_callSv (pc := 3) X (As := [.int p1, .int 4]) (rest := []) dJ1_charAt_3b067_3 (kJ0_checkIndex_df160 (mL M) G hZ X.2.2.2.2.2.2.1 X.2.2.2.2.2.2.2.1 σ p1 4 h1) rfl gJ1_charAt_3b067_J0_checkIndex_df160 hyJ0_checkIndex_df160 ⟨rfl, rfl⟩ ⟨Nat.le_of_ble_eq_true rfl, Nat.le_of_ble_eq_true rfl⟩ rfl rfl (Nat.le_of_ble_eq_true rfl) ?_
  refine ww_aload_n (pc := 6) X (j := 0) dJ1_charAt_3b067_6 rfl rfl ?_
  refine ww_iload_n (pc := 7) X (j := 1) dJ1_charAt_3b067_7 rfl rfl ?_
  refine ww_tbE (pc := 8) X (N := 4) (g := (bytC 7)) dJ1_charAt_3b067_8 (eC_bytes (hZ _ (gXk X)) 7 (by decide)) hF (fun v3 ev3 bv3 hF => ?_)
  refine ww_sipush (pc := 9) X (v := 255) dJ1_charAt_3b067_9 (by decide) ?_
  refine ww_iand (pc := 12) X dJ1_charAt_3b067_12 ?_
  refine ww_i2c (pc := 13) X dJ1_charAt_3b067_13 ?_
  exact ww_nret (pc := 14) X dJ1_charAt_3b067_14 rfl (Option.some.inj hF) rfl
set_option maxRecDepth 100000 in
set_option maxHeartbeats 4000000 in
theorem kJ1_charAt_3b067_V7 (l : Launch) (G : gG) {ex : gEx} (hZ : ∀ s : State, G.2.2.2 s → kC ex (gA G zC.1) s) (hG : gOK G zC.1) (hT : G.2.2.1.map (fun q => q.2) = zC.2.1) (σ : gS) (p1 : Int32) (out : Int32) (hF : fJ1_charAt_3b067_V7 σ p1 = some out) : gCi l yJ1_charAt_3b067 wsJ1_charAt_3b067 rmJ1_charAt_3b067 G zC [.ref (ex.2.1 7), .int p1] σ out σ :=
  gEnter (by decide) rfl ⟨rfl, rfl⟩ hG hT (Nat.le_of_ble_eq_true rfl) rfl (fun M X hl => wJ1_charAt_3b067_V7 X hZ σ p1 hF)
noncomputable def fJ0_charAt_5068e_K7 (σ : gS) (p1 : Int32) : Option (Int32) :=
  bd (fJ0_isLatin1_aae02_K7 σ) fun r2 => (if r2 = 0 then none else bd (fJ1_charAt_3b067_V7 σ p1) fun r5 => some (vp_nar .char r5))
set_option maxRecDepth 100000 in
set_option maxHeartbeats 4000000 in
theorem wJ0_charAt_5068e_K7 {M : gM} {G : gG} {out : Int32} (X : gX M G zC cJ0_charAt_5068e RJ0 2 wsJ0_charAt_5068e rmJ0_charAt_5068e (some .char)) {ex : gEx} (hZ : ∀ s : State, G.2.2.2 s → kC ex (gA G zC.1) s) (σ : gS) (p1 : Int32) (hF : fJ0_charAt_5068e_K7 σ p1 = some out) : WW M (gQi M G zC out σ) G zC 2 σ 0 [(0, .ref (ex.1 7)), (1, .int p1)] [] := by
  unfold fJ0_charAt_5068e_K7 at hF
  refine ww_aload_n (pc := 0) X (j := 0) dJ0_charAt_5068e_0 rfl rfl ?_
  obtain ⟨r2, h1, hF⟩ := bd_some hF
  refine ww_callXi (pc := 1) X (As := []) (rest := []) dJ0_charAt_5068e_1 (kJ0_isLatin1_aae02_K7 (mL M) G hZ X.2.2.2.2.2.2.1 X.2.2.2.2.2.2.2.1 σ r2 h1) rfl ((hZ _ (gXk X)).1.1 7 (by decide)).1 gJ0_charAt_5068e_J0_isLatin1_aae02 hyJ0_isLatin1_aae02 ⟨rfl, rfl⟩ ⟨Nat.le_of_ble_eq_true rfl, Nat.le_of_ble_eq_true rfl⟩ rfl rfl (Nat.le_of_ble_eq_true rfl) ?_
  refine ww_if_eq (pc := 4) (tgt := 16) X dJ0_charAt_5068e_4 (by decide) hF (fun h3 hF => ?_) (fun h3 hF => ?_)
  · refine ww_aload_n (pc := 16) X (j := 0) dJ0_charAt_5068e_16 rfl rfl ?_
    refine ww_getE (pc := 17) X dJ0_charAt_5068e_17 (eC_value (hZ _ (gXk X)) 7 (by decide)) (List.mem_of_getElem? (i := 1) rfl) rfl ?_
    refine ww_iload_n (pc := 20) X (j := 1) dJ0_charAt_5068e_20 rfl rfl ?_
    cases hF
  · refine ww_aload_n (pc := 7) X (j := 0) dJ0_charAt_5068e_7 rfl rfl ?_
    refine ww_getE (pc := 8) X dJ0_charAt_5068e_8 (eC_value (hZ _ (gXk X)) 7 (by decide)) (List.mem_of_getElem? (i := 1) rfl) rfl ?_
    refine ww_iload_n (pc := 11) X (j := 1) dJ0_charAt_5068e_11 rfl rfl ?_
    obtain ⟨r5, h4, hF⟩ := bd_some hF
    refine ww_callSi (pc := 12) X (As := [.ref (ex.2.1 7), .int p1]) (rest := []) dJ0_charAt_5068e_12 (kJ1_charAt_3b067_V7 (mL M) G hZ X.2.2.2.2.2.2.1 X.2.2.2.2.2.2.2.1 σ p1 r5 h4) rfl gJ0_charAt_5068e_J1_charAt_3b067 hyJ1_charAt_3b067 ⟨rfl, rfl⟩ ⟨Nat.le_of_ble_eq_true rfl, Nat.le_of_ble_eq_true rfl⟩ rfl rfl (Nat.le_of_ble_eq_true rfl) ?_
    exact ww_nret (pc := 15) X dJ0_charAt_5068e_15 rfl (Option.some.inj hF) rfl
set_option maxRecDepth 100000 in
set_option maxHeartbeats 4000000 in
theorem kJ0_charAt_5068e_K7 (l : Launch) (G : gG) {ex : gEx} (hZ : ∀ s : State, G.2.2.2 s → kC ex (gA G zC.1) s) (hG : gOK G zC.1) (hT : G.2.2.1.map (fun q => q.2) = zC.2.1) (σ : gS) (p1 : Int32) (out : Int32) (hF : fJ0_charAt_5068e_K7 σ p1 = some out) : gCi l yJ0_charAt_5068e wsJ0_charAt_5068e rmJ0_charAt_5068e G zC [.ref (ex.1 7), .int p1] σ out σ :=
  gEnter (by decide) rfl ⟨rfl, rfl⟩ hG hT (Nat.le_of_ble_eq_true rfl) rfl (fun M X hl => wJ0_charAt_5068e_K7 X hZ σ p1 hF)
noncomputable def bX3_isWord_K7_20 (σ : gS) (rec20 : Int32 → Option (Int32)) (a2 : Int32) : Option (Int32) :=
  bd (fJ0_length_8abf5_K7 σ) fun r6 => (if r6 ≤ a2 then some 1 else gd (gb ((σ.1 46 6) + a2) 1600) <| nm (σ.1 1 ((σ.1 46 6) + a2).toNatClampNeg) fun v8 => bd (fJ0_charAt_5068e_K7 σ a2) fun r10 => (if v8 = r10 then nm (a2 + 1 : Int32) fun x12 => rec20 x12 else some 0))
noncomputable def fX3_isWord_K7 (σ : gS) : Option (Int32) :=
  bd (fJ0_length_8abf5_K7 σ) fun r2 => (if ((σ.1 46 7) - (σ.1 46 6)) = r2 then nm (0 : Int32) fun x4 => lpc (S := Int32) K9 (fun rec s => bX3_isWord_K7_20 σ (fun a2 => rec (a2)) s) (x4) else some 0)
set_option maxRecDepth 100000 in
set_option maxHeartbeats 4000000 in
theorem wbX3_isWord_K7_20 {M : gM} {G : gG} {out : Int32} (X : gX M G zC cX3_isWord RX3 3 wsX3_isWord rmX3_isWord (some .boolean)) {ex : gEx} (hZ : ∀ s : State, G.2.2.2 s → kC ex (gA G zC.1) s) (σ : gS) (rec20 : Int32 → Option (Int32)) (ih20 : ∀ (a2 : Int32), rec20 a2 = some out → WW M (gQi M G zC out σ) G zC 3 σ 20 [(0, .ref (G.2.1 46)), (1, .ref (ex.1 7)), (2, .int a2)] []) (a2 : Int32) (hF : bX3_isWord_K7_20 σ rec20 a2 = some out) : WW M (gQi M G zC out σ) G zC 3 σ 20 [(0, .ref (G.2.1 46)), (1, .ref (ex.1 7)), (2, .int a2)] [] := by
  unfold bX3_isWord_K7_20 at hF
  refine ww_iload_n (pc := 20) X (j := 2) dX3_isWord_20 rfl rfl ?_
  refine ww_aload_n (pc := 21) X (j := 1) dX3_isWord_21 rfl rfl ?_
  obtain ⟨r6, h5, hF⟩ := bd_some hF
  refine ww_callXi (pc := 22) X (As := []) (rest := [.int a2]) dX3_isWord_22 (kJ0_length_8abf5_K7 (mL M) G hZ X.2.2.2.2.2.2.1 X.2.2.2.2.2.2.2.1 σ r6 h5) rfl ((hZ _ (gXk X)).1.1 7 (by decide)).1 gX3_isWord_J0_length_8abf5 hyJ0_length_8abf5 ⟨rfl, rfl⟩ ⟨Nat.le_of_ble_eq_true rfl, Nat.le_of_ble_eq_true rfl⟩ rfl rfl (Nat.le_of_ble_eq_true rfl) ?_
  refine ww_icmp_ge (pc := 25) (tgt := 55) X dX3_isWord_25 (by decide) hF (fun h7 hF => ?_) (fun h7 hF => ?_)
  · refine ww_iconst (pc := 55) X (v := 1) dX3_isWord_55 (by decide) ?_
    exact ww_zret (pc := 56) X dX3_isWord_56 (by cases hF; rfl) rfl
  · refine ww_aload_n (pc := 28) X (j := 0) dX3_isWord_28 rfl rfl ?_
    refine ww_get (pc := 29) X (ref := "PictureBlock$Reader") (T := TX3) (j := 0) dX3_isWord_29 inX3_isWord_RX3 shzC_46 clzC_3 (by decide) rfl (List.mem_of_getElem? (i := 3) rfl) rfl ?_
    refine ww_aload_n (pc := 32) X (j := 0) dX3_isWord_32 rfl rfl ?_
    refine ww_get (pc := 33) X (ref := "PictureBlock$Reader") (T := TX3) (j := 6) dX3_isWord_33 inX3_isWord_RX3 shzC_46 clzC_3 (by decide) rfl (List.mem_of_getElem? (i := 2) rfl) rfl ?_
    refine ww_iload_n (pc := 36) X (j := 2) dX3_isWord_36 rfl rfl ?_
    refine ww_iadd (pc := 37) X dX3_isWord_37 ?_
    refine ww_iald (pc := 38) X dX3_isWord_38 shzC_1 rfl hF (fun v8 ev8 bv8 hF => ?_)
    refine ww_aload_n (pc := 39) X (j := 1) dX3_isWord_39 rfl rfl ?_
    refine ww_iload_n (pc := 40) X (j := 2) dX3_isWord_40 rfl rfl ?_
    obtain ⟨r10, h9, hF⟩ := bd_some hF
    refine ww_callXi (pc := 41) X (As := [.int a2]) (rest := [.int v8]) dX3_isWord_41 (kJ0_charAt_5068e_K7 (mL M) G hZ X.2.2.2.2.2.2.1 X.2.2.2.2.2.2.2.1 σ a2 r10 h9) rfl ((hZ _ (gXk X)).1.1 7 (by decide)).1 gX3_isWord_J0_charAt_5068e hyJ0_charAt_5068e ⟨rfl, rfl⟩ ⟨Nat.le_of_ble_eq_true rfl, Nat.le_of_ble_eq_true rfl⟩ rfl rfl (Nat.le_of_ble_eq_true rfl) ?_
    refine ww_icmp_eq (pc := 44) (tgt := 49) X dX3_isWord_44 (by decide) hF (fun h11 hF => ?_) (fun h11 hF => ?_)
    · refine ww_iinc (pc := 49) X (j := 2) (v := 1) (lv' := [(0, .ref (G.2.1 46)), (1, .ref (ex.1 7))]) dX3_isWord_49 rfl rfl (by decide) rfl hF (fun x12 ex12 hF => ?_)
      refine ww_goto (pc := 52) X (tgt := 20) dX3_isWord_52 (by decide) ?_
      exact ww_sub [1, 2, 0] rfl (ih20 x12 hF)
    · refine ww_iconst (pc := 47) X (v := 0) dX3_isWord_47 (by decide) ?_
      exact ww_zret (pc := 48) X dX3_isWord_48 (by cases hF; rfl) rfl
set_option maxRecDepth 100000 in
set_option maxHeartbeats 4000000 in
theorem wX3_isWord_K7 {M : gM} {G : gG} {out : Int32} (X : gX M G zC cX3_isWord RX3 3 wsX3_isWord rmX3_isWord (some .boolean)) {ex : gEx} (hZ : ∀ s : State, G.2.2.2 s → kC ex (gA G zC.1) s) (σ : gS) (hF : fX3_isWord_K7 σ = some out) : WW M (gQi M G zC out σ) G zC 3 σ 0 [(0, .ref (G.2.1 46)), (1, .ref (ex.1 7))] [] := by
  unfold fX3_isWord_K7 at hF
  refine ww_aload_n (pc := 0) X (j := 0) dX3_isWord_0 rfl rfl ?_
  refine ww_get (pc := 1) X (ref := "PictureBlock$Reader") (T := TX3) (j := 7) dX3_isWord_1 inX3_isWord_RX3 shzC_46 clzC_3 (by decide) rfl (List.mem_of_getElem? (i := 1) rfl) rfl ?_
  refine ww_aload_n (pc := 4) X (j := 0) dX3_isWord_4 rfl rfl ?_
  refine ww_get (pc := 5) X (ref := "PictureBlock$Reader") (T := TX3) (j := 6) dX3_isWord_5 inX3_isWord_RX3 shzC_46 clzC_3 (by decide) rfl (List.mem_of_getElem? (i := 2) rfl) rfl ?_
  refine ww_isub (pc := 8) X dX3_isWord_8 ?_
  refine ww_aload_n (pc := 9) X (j := 1) dX3_isWord_9 rfl rfl ?_
  obtain ⟨r2, h1, hF⟩ := bd_some hF
  refine ww_callXi (pc := 10) X (As := []) (rest := [.int ((σ.1 46 7) - (σ.1 46 6))]) dX3_isWord_10 (kJ0_length_8abf5_K7 (mL M) G hZ X.2.2.2.2.2.2.1 X.2.2.2.2.2.2.2.1 σ r2 h1) rfl ((hZ _ (gXk X)).1.1 7 (by decide)).1 gX3_isWord_J0_length_8abf5 hyJ0_length_8abf5 ⟨rfl, rfl⟩ ⟨Nat.le_of_ble_eq_true rfl, Nat.le_of_ble_eq_true rfl⟩ rfl rfl (Nat.le_of_ble_eq_true rfl) ?_
  refine ww_icmp_eq (pc := 13) (tgt := 18) X dX3_isWord_13 (by decide) hF (fun h3 hF => ?_) (fun h3 hF => ?_)
  · refine ww_iconst (pc := 18) X (v := 0) dX3_isWord_18 (by decide) ?_
    refine ww_istore_n (pc := 19) X (lv' := [(0, .ref (G.2.1 46)), (1, .ref (ex.1 7))]) dX3_isWord_19 rfl (by decide) rfl hF (fun x4 ex4 hF => ?_)
    exact ww_sub [1, 2, 0] rfl (lpc_ind (P := (fun (s : Int32) => WW M (gQi M G zC out σ) G zC 3 σ 20 [(0, .ref (G.2.1 46)), (1, .ref (ex.1 7)), (2, .int s)] [])) (fun rec s ih hF => wbX3_isWord_K7_20 X hZ σ (fun a2 => rec (a2)) (fun a2 h => ih (a2) h) s hF) K9 (x4) hF)
  · refine ww_iconst (pc := 16) X (v := 0) dX3_isWord_16 (by decide) ?_
    exact ww_zret (pc := 17) X dX3_isWord_17 (by cases hF; rfl) rfl
set_option maxRecDepth 100000 in
set_option maxHeartbeats 4000000 in
theorem kX3_isWord_K7 (l : Launch) (G : gG) {ex : gEx} (hZ : ∀ s : State, G.2.2.2 s → kC ex (gA G zC.1) s) (hG : gOK G zC.1) (hT : G.2.2.1.map (fun q => q.2) = zC.2.1) (σ : gS) (out : Int32) (hF : fX3_isWord_K7 σ = some out) : gCi l yX3_isWord wsX3_isWord rmX3_isWord G zC [.ref (G.2.1 46), .ref (ex.1 7)] σ out σ :=
  gEnter (by decide) rfl ⟨rfl, rfl⟩ hG hT (Nat.le_of_ble_eq_true rfl) rfl (fun M X hl => wX3_isWord_K7 X hZ σ hF)
noncomputable def fJ0_coder_7d493_K8 (σ : gS) : Option (Int32) :=
  if (1 : Int32) = 0 then none else some (vp_nar .byte (0 : Int32))
set_option maxRecDepth 100000 in
set_option maxHeartbeats 4000000 in
theorem wJ0_coder_7d493_K8 {M : gM} {G : gG} {out : Int32} (X : gX M G zC cJ0_coder_7d493 RJ0 1 wsJ0_coder_7d493 rmJ0_coder_7d493 (some .byte)) {ex : gEx} (hZ : ∀ s : State, G.2.2.2 s → kC ex (gA G zC.1) s) (σ : gS) (hF : fJ0_coder_7d493_K8 σ = some out) : WW M (gQi M G zC out σ) G zC 1 σ 0 [(0, .ref (ex.1 8))] [] := by
  unfold fJ0_coder_7d493_K8 at hF
  refine ww_getsE (pc := 0) X (v := .int 1) dJ0_coder_7d493_0 (eC_compact (hZ _ (gXk X))) (List.mem_of_getElem? (i := 1) rfl) rfl ?_
  refine ww_if_eq (pc := 3) (tgt := 13) X dJ0_coder_7d493_3 (by decide) hF (fun h1 hF => ?_) (fun h1 hF => ?_)
  · cases hF
  · refine ww_aload_n (pc := 6) X (j := 0) dJ0_coder_7d493_6 rfl rfl ?_
    refine ww_getE (pc := 7) X dJ0_coder_7d493_7 (eC_coder (hZ _ (gXk X)) 8 (by decide)) (List.mem_of_getElem? (i := 2) rfl) rfl ?_
    refine ww_goto (pc := 10) X (tgt := 14) dJ0_coder_7d493_10 (by decide) ?_
    exact ww_nret (pc := 14) X dJ0_coder_7d493_14 rfl (Option.some.inj hF) rfl
set_option maxRecDepth 100000 in
set_option maxHeartbeats 4000000 in
theorem kJ0_coder_7d493_K8 (l : Launch) (G : gG) {ex : gEx} (hZ : ∀ s : State, G.2.2.2 s → kC ex (gA G zC.1) s) (hG : gOK G zC.1) (hT : G.2.2.1.map (fun q => q.2) = zC.2.1) (σ : gS) (out : Int32) (hF : fJ0_coder_7d493_K8 σ = some out) : gCi l yJ0_coder_7d493 wsJ0_coder_7d493 rmJ0_coder_7d493 G zC [.ref (ex.1 8)] σ out σ :=
  gEnter (by decide) rfl ⟨rfl, rfl⟩ hG hT (Nat.le_of_ble_eq_true rfl) rfl (fun M X hl => wJ0_coder_7d493_K8 X hZ σ hF)
noncomputable def fJ0_length_8abf5_K8 (σ : gS) : Option (Int32) :=
  bd (fJ0_coder_7d493_K8 σ) fun r2 => some (3 >>> (r2 &&& 31))
set_option maxRecDepth 100000 in
set_option maxHeartbeats 4000000 in
theorem wJ0_length_8abf5_K8 {M : gM} {G : gG} {out : Int32} (X : gX M G zC cJ0_length_8abf5 RJ0 1 wsJ0_length_8abf5 rmJ0_length_8abf5 (some .int)) {ex : gEx} (hZ : ∀ s : State, G.2.2.2 s → kC ex (gA G zC.1) s) (σ : gS) (hF : fJ0_length_8abf5_K8 σ = some out) : WW M (gQi M G zC out σ) G zC 1 σ 0 [(0, .ref (ex.1 8))] [] := by
  unfold fJ0_length_8abf5_K8 at hF
  refine ww_aload_n (pc := 0) X (j := 0) dJ0_length_8abf5_0 rfl rfl ?_
  refine ww_getE (pc := 1) X dJ0_length_8abf5_1 (eC_value (hZ _ (gXk X)) 8 (by decide)) (List.mem_of_getElem? (i := 1) rfl) rfl ?_
  refine ww_lenE (pc := 4) X (N := 3) (v := 3) dJ0_length_8abf5_4 (eC_bytes (hZ _ (gXk X)) 8 (by decide)) (by decide) ?_
  refine ww_aload_n (pc := 5) X (j := 0) dJ0_length_8abf5_5 rfl rfl ?_
  obtain ⟨r2, h1, hF⟩ := bd_some hF
  refine ww_callXi (pc := 6) X (As := []) (rest := [.int 3]) dJ0_length_8abf5_6 (kJ0_coder_7d493_K8 (mL M) G hZ X.2.2.2.2.2.2.1 X.2.2.2.2.2.2.2.1 σ r2 h1) rfl ((hZ _ (gXk X)).1.1 8 (by decide)).1 gJ0_length_8abf5_J0_coder_7d493 hyJ0_coder_7d493 ⟨rfl, rfl⟩ ⟨Nat.le_of_ble_eq_true rfl, Nat.le_of_ble_eq_true rfl⟩ rfl rfl (Nat.le_of_ble_eq_true rfl) ?_
  refine ww_ishr (pc := 9) X dJ0_length_8abf5_9 ?_
  exact ww_iret (pc := 10) X dJ0_length_8abf5_10 (Option.some.inj hF) rfl
set_option maxRecDepth 100000 in
set_option maxHeartbeats 4000000 in
theorem kJ0_length_8abf5_K8 (l : Launch) (G : gG) {ex : gEx} (hZ : ∀ s : State, G.2.2.2 s → kC ex (gA G zC.1) s) (hG : gOK G zC.1) (hT : G.2.2.1.map (fun q => q.2) = zC.2.1) (σ : gS) (out : Int32) (hF : fJ0_length_8abf5_K8 σ = some out) : gCi l yJ0_length_8abf5 wsJ0_length_8abf5 rmJ0_length_8abf5 G zC [.ref (ex.1 8)] σ out σ :=
  gEnter (by decide) rfl ⟨rfl, rfl⟩ hG hT (Nat.le_of_ble_eq_true rfl) rfl (fun M X hl => wJ0_length_8abf5_K8 X hZ σ hF)
noncomputable def fJ0_isLatin1_aae02_K8 (σ : gS) : Option (Int32) :=
  if (1 : Int32) = 0 then none else if (0 : Int32) = 0 then some 1 else none
set_option maxRecDepth 100000 in
set_option maxHeartbeats 4000000 in
theorem wJ0_isLatin1_aae02_K8 {M : gM} {G : gG} {out : Int32} (X : gX M G zC cJ0_isLatin1_aae02 RJ0 1 wsJ0_isLatin1_aae02 rmJ0_isLatin1_aae02 (some .boolean)) {ex : gEx} (hZ : ∀ s : State, G.2.2.2 s → kC ex (gA G zC.1) s) (σ : gS) (hF : fJ0_isLatin1_aae02_K8 σ = some out) : WW M (gQi M G zC out σ) G zC 1 σ 0 [(0, .ref (ex.1 8))] [] := by
  unfold fJ0_isLatin1_aae02_K8 at hF
  refine ww_getsE (pc := 0) X (v := .int 1) dJ0_isLatin1_aae02_0 (eC_compact (hZ _ (gXk X))) (List.mem_of_getElem? (i := 1) rfl) rfl ?_
  refine ww_if_eq (pc := 3) (tgt := 17) X dJ0_isLatin1_aae02_3 (by decide) hF (fun h1 hF => ?_) (fun h1 hF => ?_)
  · cases hF
  · refine ww_aload_n (pc := 6) X (j := 0) dJ0_isLatin1_aae02_6 rfl rfl ?_
    refine ww_getE (pc := 7) X dJ0_isLatin1_aae02_7 (eC_coder (hZ _ (gXk X)) 8 (by decide)) (List.mem_of_getElem? (i := 2) rfl) rfl ?_
    refine ww_if_ne (pc := 10) (tgt := 17) X dJ0_isLatin1_aae02_10 (by decide) hF (fun h2 hF => ?_) (fun h2 hF => ?_)
    · cases hF
    · refine ww_iconst (pc := 13) X (v := 1) dJ0_isLatin1_aae02_13 (by decide) ?_
      refine ww_goto (pc := 14) X (tgt := 18) dJ0_isLatin1_aae02_14 (by decide) ?_
      exact ww_zret (pc := 18) X dJ0_isLatin1_aae02_18 (by cases hF; rfl) rfl
set_option maxRecDepth 100000 in
set_option maxHeartbeats 4000000 in
theorem kJ0_isLatin1_aae02_K8 (l : Launch) (G : gG) {ex : gEx} (hZ : ∀ s : State, G.2.2.2 s → kC ex (gA G zC.1) s) (hG : gOK G zC.1) (hT : G.2.2.1.map (fun q => q.2) = zC.2.1) (σ : gS) (out : Int32) (hF : fJ0_isLatin1_aae02_K8 σ = some out) : gCi l yJ0_isLatin1_aae02 wsJ0_isLatin1_aae02 rmJ0_isLatin1_aae02 G zC [.ref (ex.1 8)] σ out σ :=
  gEnter (by decide) rfl ⟨rfl, rfl⟩ hG hT (Nat.le_of_ble_eq_true rfl) rfl (fun M X hl => wJ0_isLatin1_aae02_K8 X hZ σ hF)
noncomputable def fJ1_charAt_3b067_V8 (σ : gS) (p1 : Int32) : Option (Int32) :=
  bd (fJ0_checkIndex_df160 σ p1 3) fun u2 => gd (gb p1 3) <| nm ((bytC 8) p1.toNatClampNeg) fun v3 => some (vp_nar .char (((v3 &&& 255).toUInt32 % 65536).toInt32))
set_option maxRecDepth 100000 in
set_option maxHeartbeats 4000000 in
theorem wJ1_charAt_3b067_V8 {M : gM} {G : gG} {out : Int32} (X : gX M G zC cJ1_charAt_3b067 RJ1 2 wsJ1_charAt_3b067 rmJ1_charAt_3b067 (some .char)) {ex : gEx} (hZ : ∀ s : State, G.2.2.2 s → kC ex (gA G zC.1) s) (σ : gS) (p1 : Int32) (hF : fJ1_charAt_3b067_V8 σ p1 = some out) : WW M (gQi M G zC out σ) G zC 2 σ 0 [(0, .ref (ex.2.1 8)), (1, .int p1)] [] := by
  unfold fJ1_charAt_3b067_V8 at hF
  refine ww_iload_n (pc := 0) X (j := 1) dJ1_charAt_3b067_0 rfl rfl ?_
  refine ww_aload_n (pc := 1) X (j := 0) dJ1_charAt_3b067_1 rfl rfl ?_
  refine ww_lenE (pc := 2) X (N := 3) (v := 3) dJ1_charAt_3b067_2 (eC_bytes (hZ _ (gXk X)) 8 (by decide)) (by decide) ?_
  obtain ⟨u2, h1, hF⟩ := bd_some hF
  refine ww_callSv (pc := 3) X (As := [.int p1, .int 3]) (rest := []) dJ1_charAt_3b067_3 (kJ0_checkIndex_df160 (mL M) G hZ X.2.2.2.2.2.2.1 X.2.2.2.2.2.2.2.1 σ p1 3 h1) rfl gJ1_charAt_3b067_J0_checkIndex_df160 hyJ0_checkIndex_df160 ⟨rfl, rfl⟩ ⟨Nat.le_of_ble_eq_true rfl, Nat.le_of_ble_eq_true rfl⟩ rfl rfl (Nat.le_of_ble_eq_true rfl) ?_
  refine ww_aload_n (pc := 6) X (j := 0) dJ1_charAt_3b067_6 rfl rfl ?_
  refine ww_iload_n (pc := 7) X (j := 1) dJ1_charAt_3b067_7 rfl rfl ?_
  refine ww_tbE (pc := 8) X (N := 3) (g := (bytC 8)) dJ1_charAt_3b067_8 (eC_bytes (hZ _ (gXk X)) 8 (by decide)) hF (fun v3 ev3 bv3 hF => ?_)
  refine ww_sipush (pc := 9) X (v := 255) dJ1_charAt_3b067_9 (by decide) ?_
  refine ww_iand (pc := 12) X dJ1_charAt_3b067_12 ?_
  refine ww_i2c (pc := 13) X dJ1_charAt_3b067_13 ?_
  exact ww_nret (pc := 14) X dJ1_charAt_3b067_14 rfl (Option.some.inj hF) rfl
set_option maxRecDepth 100000 in
set_option maxHeartbeats 4000000 in
theorem kJ1_charAt_3b067_V8 (l : Launch) (G : gG) {ex : gEx} (hZ : ∀ s : State, G.2.2.2 s → kC ex (gA G zC.1) s) (hG : gOK G zC.1) (hT : G.2.2.1.map (fun q => q.2) = zC.2.1) (σ : gS) (p1 : Int32) (out : Int32) (hF : fJ1_charAt_3b067_V8 σ p1 = some out) : gCi l yJ1_charAt_3b067 wsJ1_charAt_3b067 rmJ1_charAt_3b067 G zC [.ref (ex.2.1 8), .int p1] σ out σ :=
  gEnter (by decide) rfl ⟨rfl, rfl⟩ hG hT (Nat.le_of_ble_eq_true rfl) rfl (fun M X hl => wJ1_charAt_3b067_V8 X hZ σ p1 hF)
noncomputable def fJ0_charAt_5068e_K8 (σ : gS) (p1 : Int32) : Option (Int32) :=
  bd (fJ0_isLatin1_aae02_K8 σ) fun r2 => (if r2 = 0 then none else bd (fJ1_charAt_3b067_V8 σ p1) fun r5 => some (vp_nar .char r5))
set_option maxRecDepth 100000 in
set_option maxHeartbeats 4000000 in
theorem wJ0_charAt_5068e_K8 {M : gM} {G : gG} {out : Int32} (X : gX M G zC cJ0_charAt_5068e RJ0 2 wsJ0_charAt_5068e rmJ0_charAt_5068e (some .char)) {ex : gEx} (hZ : ∀ s : State, G.2.2.2 s → kC ex (gA G zC.1) s) (σ : gS) (p1 : Int32) (hF : fJ0_charAt_5068e_K8 σ p1 = some out) : WW M (gQi M G zC out σ) G zC 2 σ 0 [(0, .ref (ex.1 8)), (1, .int p1)] [] := by
  unfold fJ0_charAt_5068e_K8 at hF
  refine ww_aload_n (pc := 0) X (j := 0) dJ0_charAt_5068e_0 rfl rfl ?_
  obtain ⟨r2, h1, hF⟩ := bd_some hF
  refine ww_callXi (pc := 1) X (As := []) (rest := []) dJ0_charAt_5068e_1 (kJ0_isLatin1_aae02_K8 (mL M) G hZ X.2.2.2.2.2.2.1 X.2.2.2.2.2.2.2.1 σ r2 h1) rfl ((hZ _ (gXk X)).1.1 8 (by decide)).1 gJ0_charAt_5068e_J0_isLatin1_aae02 hyJ0_isLatin1_aae02 ⟨rfl, rfl⟩ ⟨Nat.le_of_ble_eq_true rfl, Nat.le_of_ble_eq_true rfl⟩ rfl rfl (Nat.le_of_ble_eq_true rfl) ?_
  refine ww_if_eq (pc := 4) (tgt := 16) X dJ0_charAt_5068e_4 (by decide) hF (fun h3 hF => ?_) (fun h3 hF => ?_)
  · refine ww_aload_n (pc := 16) X (j := 0) dJ0_charAt_5068e_16 rfl rfl ?_
    refine ww_getE (pc := 17) X dJ0_charAt_5068e_17 (eC_value (hZ _ (gXk X)) 8 (by decide)) (List.mem_of_getElem? (i := 1) rfl) rfl ?_
    refine ww_iload_n (pc := 20) X (j := 1) dJ0_charAt_5068e_20 rfl rfl ?_
    cases hF
  · refine ww_aload_n (pc := 7) X (j := 0) dJ0_charAt_5068e_7 rfl rfl ?_
    refine ww_getE (pc := 8) X dJ0_charAt_5068e_8 (eC_value (hZ _ (gXk X)) 8 (by decide)) (List.mem_of_getElem? (i := 1) rfl) rfl ?_
    refine ww_iload_n (pc := 11) X (j := 1) dJ0_charAt_5068e_11 rfl rfl ?_
    obtain ⟨r5, h4, hF⟩ := bd_some hF
    refine ww_callSi (pc := 12) X (As := [.ref (ex.2.1 8), .int p1]) (rest := []) dJ0_charAt_5068e_12 (kJ1_charAt_3b067_V8 (mL M) G hZ X.2.2.2.2.2.2.1 X.2.2.2.2.2.2.2.1 σ p1 r5 h4) rfl gJ0_charAt_5068e_J1_charAt_3b067 hyJ1_charAt_3b067 ⟨rfl, rfl⟩ ⟨Nat.le_of_ble_eq_true rfl, Nat.le_of_ble_eq_true rfl⟩ rfl rfl (Nat.le_of_ble_eq_true rfl) ?_
    exact ww_nret (pc := 15) X dJ0_charAt_5068e_15 rfl (Option.some.inj hF) rfl
set_option maxRecDepth 100000 in
set_option maxHeartbeats 4000000 in
theorem kJ0_charAt_5068e_K8 (l : Launch) (G : gG) {ex : gEx} (hZ : ∀ s : State, G.2.2.2 s → kC ex (gA G zC.1) s) (hG : gOK G zC.1) (hT : G.2.2.1.map (fun q => q.2) = zC.2.1) (σ : gS) (p1 : Int32) (out : Int32) (hF : fJ0_charAt_5068e_K8 σ p1 = some out) : gCi l yJ0_charAt_5068e wsJ0_charAt_5068e rmJ0_charAt_5068e G zC [.ref (ex.1 8), .int p1] σ out σ :=
  gEnter (by decide) rfl ⟨rfl, rfl⟩ hG hT (Nat.le_of_ble_eq_true rfl) rfl (fun M X hl => wJ0_charAt_5068e_K8 X hZ σ p1 hF)
noncomputable def bX3_isWord_K8_20 (σ : gS) (rec20 : Int32 → Option (Int32)) (a2 : Int32) : Option (Int32) :=
  bd (fJ0_length_8abf5_K8 σ) fun r6 => (if r6 ≤ a2 then some 1 else gd (gb ((σ.1 46 6) + a2) 1600) <| nm (σ.1 1 ((σ.1 46 6) + a2).toNatClampNeg) fun v8 => bd (fJ0_charAt_5068e_K8 σ a2) fun r10 => (if v8 = r10 then nm (a2 + 1 : Int32) fun x12 => rec20 x12 else some 0))
noncomputable def fX3_isWord_K8 (σ : gS) : Option (Int32) :=
  bd (fJ0_length_8abf5_K8 σ) fun r2 => (if ((σ.1 46 7) - (σ.1 46 6)) = r2 then nm (0 : Int32) fun x4 => lpc (S := Int32) K9 (fun rec s => bX3_isWord_K8_20 σ (fun a2 => rec (a2)) s) (x4) else some 0)
set_option maxRecDepth 100000 in
set_option maxHeartbeats 4000000 in
theorem wbX3_isWord_K8_20 {M : gM} {G : gG} {out : Int32} (X : gX M G zC cX3_isWord RX3 3 wsX3_isWord rmX3_isWord (some .boolean)) {ex : gEx} (hZ : ∀ s : State, G.2.2.2 s → kC ex (gA G zC.1) s) (σ : gS) (rec20 : Int32 → Option (Int32)) (ih20 : ∀ (a2 : Int32), rec20 a2 = some out → WW M (gQi M G zC out σ) G zC 3 σ 20 [(0, .ref (G.2.1 46)), (1, .ref (ex.1 8)), (2, .int a2)] []) (a2 : Int32) (hF : bX3_isWord_K8_20 σ rec20 a2 = some out) : WW M (gQi M G zC out σ) G zC 3 σ 20 [(0, .ref (G.2.1 46)), (1, .ref (ex.1 8)), (2, .int a2)] [] := by
  unfold bX3_isWord_K8_20 at hF
  refine ww_iload_n (pc := 20) X (j := 2) dX3_isWord_20 rfl rfl ?_
  refine ww_aload_n (pc := 21) X (j := 1) dX3_isWord_21 rfl rfl ?_
  obtain ⟨r6, h5, hF⟩ := bd_some hF
  refine ww_callXi (pc := 22) X (As := []) (rest := [.int a2]) dX3_isWord_22 (kJ0_length_8abf5_K8 (mL M) G hZ X.2.2.2.2.2.2.1 X.2.2.2.2.2.2.2.1 σ r6 h5) rfl ((hZ _ (gXk X)).1.1 8 (by decide)).1 gX3_isWord_J0_length_8abf5 hyJ0_length_8abf5 ⟨rfl, rfl⟩ ⟨Nat.le_of_ble_eq_true rfl, Nat.le_of_ble_eq_true rfl⟩ rfl rfl (Nat.le_of_ble_eq_true rfl) ?_
  refine ww_icmp_ge (pc := 25) (tgt := 55) X dX3_isWord_25 (by decide) hF (fun h7 hF => ?_) (fun h7 hF => ?_)
  · refine ww_iconst (pc := 55) X (v := 1) dX3_isWord_55 (by decide) ?_
    exact ww_zret (pc := 56) X dX3_isWord_56 (by cases hF; rfl) rfl
  · refine ww_aload_n (pc := 28) X (j := 0) dX3_isWord_28 rfl rfl ?_
    refine ww_get (pc := 29) X (ref := "PictureBlock$Reader") (T := TX3) (j := 0) dX3_isWord_29 inX3_isWord_RX3 shzC_46 clzC_3 (by decide) rfl (List.mem_of_getElem? (i := 3) rfl) rfl ?_
    refine ww_aload_n (pc := 32) X (j := 0) dX3_isWord_32 rfl rfl ?_
    refine ww_get (pc := 33) X (ref := "PictureBlock$Reader") (T := TX3) (j := 6) dX3_isWord_33 inX3_isWord_RX3 shzC_46 clzC_3 (by decide) rfl (List.mem_of_getElem? (i := 2) rfl) rfl ?_
    refine ww_iload_n (pc := 36) X (j := 2) dX3_isWord_36 rfl rfl ?_
    refine ww_iadd (pc := 37) X dX3_isWord_37 ?_
    refine ww_iald (pc := 38) X dX3_isWord_38 shzC_1 rfl hF (fun v8 ev8 bv8 hF => ?_)
    refine ww_aload_n (pc := 39) X (j := 1) dX3_isWord_39 rfl rfl ?_
    refine ww_iload_n (pc := 40) X (j := 2) dX3_isWord_40 rfl rfl ?_
    obtain ⟨r10, h9, hF⟩ := bd_some hF
    refine ww_callXi (pc := 41) X (As := [.int a2]) (rest := [.int v8]) dX3_isWord_41 (kJ0_charAt_5068e_K8 (mL M) G hZ X.2.2.2.2.2.2.1 X.2.2.2.2.2.2.2.1 σ a2 r10 h9) rfl ((hZ _ (gXk X)).1.1 8 (by decide)).1 gX3_isWord_J0_charAt_5068e hyJ0_charAt_5068e ⟨rfl, rfl⟩ ⟨Nat.le_of_ble_eq_true rfl, Nat.le_of_ble_eq_true rfl⟩ rfl rfl (Nat.le_of_ble_eq_true rfl) ?_
    refine ww_icmp_eq (pc := 44) (tgt := 49) X dX3_isWord_44 (by decide) hF (fun h11 hF => ?_) (fun h11 hF => ?_)
    · refine ww_iinc (pc := 49) X (j := 2) (v := 1) (lv' := [(0, .ref (G.2.1 46)), (1, .ref (ex.1 8))]) dX3_isWord_49 rfl rfl (by decide) rfl hF (fun x12 ex12 hF => ?_)
      refine ww_goto (pc := 52) X (tgt := 20) dX3_isWord_52 (by decide) ?_
      exact ww_sub [1, 2, 0] rfl (ih20 x12 hF)
    · refine ww_iconst (pc := 47) X (v := 0) dX3_isWord_47 (by decide) ?_
      exact ww_zret (pc := 48) X dX3_isWord_48 (by cases hF; rfl) rfl
set_option maxRecDepth 100000 in
set_option maxHeartbeats 4000000 in
theorem wX3_isWord_K8 {M : gM} {G : gG} {out : Int32} (X : gX M G zC cX3_isWord RX3 3 wsX3_isWord rmX3_isWord (some .boolean)) {ex : gEx} (hZ : ∀ s : State, G.2.2.2 s → kC ex (gA G zC.1) s) (σ : gS) (hF : fX3_isWord_K8 σ = some out) : WW M (gQi M G zC out σ) G zC 3 σ 0 [(0, .ref (G.2.1 46)), (1, .ref (ex.1 8))] [] := by
  unfold fX3_isWord_K8 at hF
  refine ww_aload_n (pc := 0) X (j := 0) dX3_isWord_0 rfl rfl ?_
  refine ww_get (pc := 1) X (ref := "PictureBlock$Reader") (T := TX3) (j := 7) dX3_isWord_1 inX3_isWord_RX3 shzC_46 clzC_3 (by decide) rfl (List.mem_of_getElem? (i := 1) rfl) rfl ?_
  refine ww_aload_n (pc := 4) X (j := 0) dX3_isWord_4 rfl rfl ?_
  refine ww_get (pc := 5) X (ref := "PictureBlock$Reader") (T := TX3) (j := 6) dX3_isWord_5 inX3_isWord_RX3 shzC_46 clzC_3 (by decide) rfl (List.mem_of_getElem? (i := 2) rfl) rfl ?_
  refine ww_isub (pc := 8) X dX3_isWord_8 ?_
  refine ww_aload_n (pc := 9) X (j := 1) dX3_isWord_9 rfl rfl ?_
  obtain ⟨r2, h1, hF⟩ := bd_some hF
  refine ww_callXi (pc := 10) X (As := []) (rest := [.int ((σ.1 46 7) - (σ.1 46 6))]) dX3_isWord_10 (kJ0_length_8abf5_K8 (mL M) G hZ X.2.2.2.2.2.2.1 X.2.2.2.2.2.2.2.1 σ r2 h1) rfl ((hZ _ (gXk X)).1.1 8 (by decide)).1 gX3_isWord_J0_length_8abf5 hyJ0_length_8abf5 ⟨rfl, rfl⟩ ⟨Nat.le_of_ble_eq_true rfl, Nat.le_of_ble_eq_true rfl⟩ rfl rfl (Nat.le_of_ble_eq_true rfl) ?_
  refine ww_icmp_eq (pc := 13) (tgt := 18) X dX3_isWord_13 (by decide) hF (fun h3 hF => ?_) (fun h3 hF => ?_)
  · refine ww_iconst (pc := 18) X (v := 0) dX3_isWord_18 (by decide) ?_
    refine ww_istore_n (pc := 19) X (lv' := [(0, .ref (G.2.1 46)), (1, .ref (ex.1 8))]) dX3_isWord_19 rfl (by decide) rfl hF (fun x4 ex4 hF => ?_)
    exact ww_sub [1, 2, 0] rfl (lpc_ind (P := (fun (s : Int32) => WW M (gQi M G zC out σ) G zC 3 σ 20 [(0, .ref (G.2.1 46)), (1, .ref (ex.1 8)), (2, .int s)] [])) (fun rec s ih hF => wbX3_isWord_K8_20 X hZ σ (fun a2 => rec (a2)) (fun a2 h => ih (a2) h) s hF) K9 (x4) hF)
  · refine ww_iconst (pc := 16) X (v := 0) dX3_isWord_16 (by decide) ?_
    exact ww_zret (pc := 17) X dX3_isWord_17 (by cases hF; rfl) rfl
set_option maxRecDepth 100000 in
set_option maxHeartbeats 4000000 in
theorem kX3_isWord_K8 (l : Launch) (G : gG) {ex : gEx} (hZ : ∀ s : State, G.2.2.2 s → kC ex (gA G zC.1) s) (hG : gOK G zC.1) (hT : G.2.2.1.map (fun q => q.2) = zC.2.1) (σ : gS) (out : Int32) (hF : fX3_isWord_K8 σ = some out) : gCi l yX3_isWord wsX3_isWord rmX3_isWord G zC [.ref (G.2.1 46), .ref (ex.1 8)] σ out σ :=
  gEnter (by decide) rfl ⟨rfl, rfl⟩ hG hT (Nat.le_of_ble_eq_true rfl) rfl (fun M X hl => wX3_isWord_K8 X hZ σ hF)
noncomputable def fJ0_coder_7d493_K9 (σ : gS) : Option (Int32) :=
  if (1 : Int32) = 0 then none else some (vp_nar .byte (0 : Int32))
set_option maxRecDepth 100000 in
set_option maxHeartbeats 4000000 in
theorem wJ0_coder_7d493_K9 {M : gM} {G : gG} {out : Int32} (X : gX M G zC cJ0_coder_7d493 RJ0 1 wsJ0_coder_7d493 rmJ0_coder_7d493 (some .byte)) {ex : gEx} (hZ : ∀ s : State, G.2.2.2 s → kC ex (gA G zC.1) s) (σ : gS) (hF : fJ0_coder_7d493_K9 σ = some out) : WW M (gQi M G zC out σ) G zC 1 σ 0 [(0, .ref (ex.1 9))] [] := by
  unfold fJ0_coder_7d493_K9 at hF
  refine ww_getsE (pc := 0) X (v := .int 1) dJ0_coder_7d493_0 (eC_compact (hZ _ (gXk X))) (List.mem_of_getElem? (i := 1) rfl) rfl ?_
  refine ww_if_eq (pc := 3) (tgt := 13) X dJ0_coder_7d493_3 (by decide) hF (fun h1 hF => ?_) (fun h1 hF => ?_)
  · cases hF
  · refine ww_aload_n (pc := 6) X (j := 0) dJ0_coder_7d493_6 rfl rfl ?_
    refine ww_getE (pc := 7) X dJ0_coder_7d493_7 (eC_coder (hZ _ (gXk X)) 9 (by decide)) (List.mem_of_getElem? (i := 2) rfl) rfl ?_
    refine ww_goto (pc := 10) X (tgt := 14) dJ0_coder_7d493_10 (by decide) ?_
    exact ww_nret (pc := 14) X dJ0_coder_7d493_14 rfl (Option.some.inj hF) rfl
set_option maxRecDepth 100000 in
set_option maxHeartbeats 4000000 in
theorem kJ0_coder_7d493_K9 (l : Launch) (G : gG) {ex : gEx} (hZ : ∀ s : State, G.2.2.2 s → kC ex (gA G zC.1) s) (hG : gOK G zC.1) (hT : G.2.2.1.map (fun q => q.2) = zC.2.1) (σ : gS) (out : Int32) (hF : fJ0_coder_7d493_K9 σ = some out) : gCi l yJ0_coder_7d493 wsJ0_coder_7d493 rmJ0_coder_7d493 G zC [.ref (ex.1 9)] σ out σ :=
  gEnter (by decide) rfl ⟨rfl, rfl⟩ hG hT (Nat.le_of_ble_eq_true rfl) rfl (fun M X hl => wJ0_coder_7d493_K9 X hZ σ hF)
noncomputable def fJ0_length_8abf5_K9 (σ : gS) : Option (Int32) :=
  bd (fJ0_coder_7d493_K9 σ) fun r2 => some (2 >>> (r2 &&& 31))
set_option maxRecDepth 100000 in
set_option maxHeartbeats 4000000 in
theorem wJ0_length_8abf5_K9 {M : gM} {G : gG} {out : Int32} (X : gX M G zC cJ0_length_8abf5 RJ0 1 wsJ0_length_8abf5 rmJ0_length_8abf5 (some .int)) {ex : gEx} (hZ : ∀ s : State, G.2.2.2 s → kC ex (gA G zC.1) s) (σ : gS) (hF : fJ0_length_8abf5_K9 σ = some out) : WW M (gQi M G zC out σ) G zC 1 σ 0 [(0, .ref (ex.1 9))] [] := by
  unfold fJ0_length_8abf5_K9 at hF
  refine ww_aload_n (pc := 0) X (j := 0) dJ0_length_8abf5_0 rfl rfl ?_
  refine ww_getE (pc := 1) X dJ0_length_8abf5_1 (eC_value (hZ _ (gXk X)) 9 (by decide)) (List.mem_of_getElem? (i := 1) rfl) rfl ?_
  refine ww_lenE (pc := 4) X (N := 2) (v := 2) dJ0_length_8abf5_4 (eC_bytes (hZ _ (gXk X)) 9 (by decide)) (by decide) ?_
  refine ww_aload_n (pc := 5) X (j := 0) dJ0_length_8abf5_5 rfl rfl ?_
  obtain ⟨r2, h1, hF⟩ := bd_some hF
  refine ww_callXi (pc := 6) X (As := []) (rest := [.int 2]) dJ0_length_8abf5_6 (kJ0_coder_7d493_K9 (mL M) G hZ X.2.2.2.2.2.2.1 X.2.2.2.2.2.2.2.1 σ r2 h1) rfl ((hZ _ (gXk X)).1.1 9 (by decide)).1 gJ0_length_8abf5_J0_coder_7d493 hyJ0_coder_7d493 ⟨rfl, rfl⟩ ⟨Nat.le_of_ble_eq_true rfl, Nat.le_of_ble_eq_true rfl⟩ rfl rfl (Nat.le_of_ble_eq_true rfl) ?_
  refine ww_ishr (pc := 9) X dJ0_length_8abf5_9 ?_
  exact ww_iret (pc := 10) X dJ0_length_8abf5_10 (Option.some.inj hF) rfl
set_option maxRecDepth 100000 in
set_option maxHeartbeats 4000000 in
theorem kJ0_length_8abf5_K9 (l : Launch) (G : gG) {ex : gEx} (hZ : ∀ s : State, G.2.2.2 s → kC ex (gA G zC.1) s) (hG : gOK G zC.1) (hT : G.2.2.1.map (fun q => q.2) = zC.2.1) (σ : gS) (out : Int32) (hF : fJ0_length_8abf5_K9 σ = some out) : gCi l yJ0_length_8abf5 wsJ0_length_8abf5 rmJ0_length_8abf5 G zC [.ref (ex.1 9)] σ out σ :=
  gEnter (by decide) rfl ⟨rfl, rfl⟩ hG hT (Nat.le_of_ble_eq_true rfl) rfl (fun M X hl => wJ0_length_8abf5_K9 X hZ σ hF)
noncomputable def fJ0_isLatin1_aae02_K9 (σ : gS) : Option (Int32) :=
  if (1 : Int32) = 0 then none else if (0 : Int32) = 0 then some 1 else none
set_option maxRecDepth 100000 in
set_option maxHeartbeats 4000000 in
theorem wJ0_isLatin1_aae02_K9 {M : gM} {G : gG} {out : Int32} (X : gX M G zC cJ0_isLatin1_aae02 RJ0 1 wsJ0_isLatin1_aae02 rmJ0_isLatin1_aae02 (some .boolean)) {ex : gEx} (hZ : ∀ s : State, G.2.2.2 s → kC ex (gA G zC.1) s) (σ : gS) (hF : fJ0_isLatin1_aae02_K9 σ = some out) : WW M (gQi M G zC out σ) G zC 1 σ 0 [(0, .ref (ex.1 9))] [] := by
  unfold fJ0_isLatin1_aae02_K9 at hF
  refine ww_getsE (pc := 0) X (v := .int 1) dJ0_isLatin1_aae02_0 (eC_compact (hZ _ (gXk X))) (List.mem_of_getElem? (i := 1) rfl) rfl ?_
  refine ww_if_eq (pc := 3) (tgt := 17) X dJ0_isLatin1_aae02_3 (by decide) hF (fun h1 hF => ?_) (fun h1 hF => ?_)
  · cases hF
  · refine ww_aload_n (pc := 6) X (j := 0) dJ0_isLatin1_aae02_6 rfl rfl ?_
    refine ww_getE (pc := 7) X dJ0_isLatin1_aae02_7 (eC_coder (hZ _ (gXk X)) 9 (by decide)) (List.mem_of_getElem? (i := 2) rfl) rfl ?_
    refine ww_if_ne (pc := 10) (tgt := 17) X dJ0_isLatin1_aae02_10 (by decide) hF (fun h2 hF => ?_) (fun h2 hF => ?_)
    · cases hF
    · refine ww_iconst (pc := 13) X (v := 1) dJ0_isLatin1_aae02_13 (by decide) ?_
      refine ww_goto (pc := 14) X (tgt := 18) dJ0_isLatin1_aae02_14 (by decide) ?_
      exact ww_zret (pc := 18) X dJ0_isLatin1_aae02_18 (by cases hF; rfl) rfl
set_option maxRecDepth 100000 in
set_option maxHeartbeats 4000000 in
theorem kJ0_isLatin1_aae02_K9 (l : Launch) (G : gG) {ex : gEx} (hZ : ∀ s : State, G.2.2.2 s → kC ex (gA G zC.1) s) (hG : gOK G zC.1) (hT : G.2.2.1.map (fun q => q.2) = zC.2.1) (σ : gS) (out : Int32) (hF : fJ0_isLatin1_aae02_K9 σ = some out) : gCi l yJ0_isLatin1_aae02 wsJ0_isLatin1_aae02 rmJ0_isLatin1_aae02 G zC [.ref (ex.1 9)] σ out σ :=
  gEnter (by decide) rfl ⟨rfl, rfl⟩ hG hT (Nat.le_of_ble_eq_true rfl) rfl (fun M X hl => wJ0_isLatin1_aae02_K9 X hZ σ hF)
noncomputable def fJ1_charAt_3b067_V9 (σ : gS) (p1 : Int32) : Option (Int32) :=
  bd (fJ0_checkIndex_df160 σ p1 2) fun u2 => gd (gb p1 2) <| nm ((bytC 9) p1.toNatClampNeg) fun v3 => some (vp_nar .char (((v3 &&& 255).toUInt32 % 65536).toInt32))
set_option maxRecDepth 100000 in
set_option maxHeartbeats 4000000 in
theorem wJ1_charAt_3b067_V9 {M : gM} {G : gG} {out : Int32} (X : gX M G zC cJ1_charAt_3b067 RJ1 2 wsJ1_charAt_3b067 rmJ1_charAt_3b067 (some .char)) {ex : gEx} (hZ : ∀ s : State, G.2.2.2 s → kC ex (gA G zC.1) s) (σ : gS) (p1 : Int32) (hF : fJ1_charAt_3b067_V9 σ p1 = some out) : WW M (gQi M G zC out σ) G zC 2 σ 0 [(0, .ref (ex.2.1 9)), (1, .int p1)] [] := by
  unfold fJ1_charAt_3b067_V9 at hF
  refine ww_iload_n (pc := 0) X (j := 1) dJ1_charAt_3b067_0 rfl rfl ?_
  refine ww_aload_n (pc := 1) X (j := 0) dJ1_charAt_3b067_1 rfl rfl ?_
  refine ww_lenE (pc := 2) X (N := 2) (v := 2) dJ1_charAt_3b067_2 (eC_bytes (hZ _ (gXk X)) 9 (by decide)) (by decide) ?_
  obtain ⟨u2, h1, hF⟩ := bd_some hF
  refine ww_callSv (pc := 3) X (As := [.int p1, .int 2]) (rest := []) dJ1_charAt_3b067_3 (kJ0_checkIndex_df160 (mL M) G hZ X.2.2.2.2.2.2.1 X.2.2.2.2.2.2.2.1 σ p1 2 h1) rfl gJ1_charAt_3b067_J0_checkIndex_df160 hyJ0_checkIndex_df160 ⟨rfl, rfl⟩ ⟨Nat.le_of_ble_eq_true rfl, Nat.le_of_ble_eq_true rfl⟩ rfl rfl (Nat.le_of_ble_eq_true rfl) ?_
  refine ww_aload_n (pc := 6) X (j := 0) dJ1_charAt_3b067_6 rfl rfl ?_
  refine ww_iload_n (pc := 7) X (j := 1) dJ1_charAt_3b067_7 rfl rfl ?_
  refine ww_tbE (pc := 8) X (N := 2) (g := (bytC 9)) dJ1_charAt_3b067_8 (eC_bytes (hZ _ (gXk X)) 9 (by decide)) hF (fun v3 ev3 bv3 hF => ?_)
  refine ww_sipush (pc := 9) X (v := 255) dJ1_charAt_3b067_9 (by decide) ?_
  refine ww_iand (pc := 12) X dJ1_charAt_3b067_12 ?_
  refine ww_i2c (pc := 13) X dJ1_charAt_3b067_13 ?_
  exact ww_nret (pc := 14) X dJ1_charAt_3b067_14 rfl (Option.some.inj hF) rfl
set_option maxRecDepth 100000 in
set_option maxHeartbeats 4000000 in
theorem kJ1_charAt_3b067_V9 (l : Launch) (G : gG) {ex : gEx} (hZ : ∀ s : State, G.2.2.2 s → kC ex (gA G zC.1) s) (hG : gOK G zC.1) (hT : G.2.2.1.map (fun q => q.2) = zC.2.1) (σ : gS) (p1 : Int32) (out : Int32) (hF : fJ1_charAt_3b067_V9 σ p1 = some out) : gCi l yJ1_charAt_3b067 wsJ1_charAt_3b067 rmJ1_charAt_3b067 G zC [.ref (ex.2.1 9), .int p1] σ out σ :=
  gEnter (by decide) rfl ⟨rfl, rfl⟩ hG hT (Nat.le_of_ble_eq_true rfl) rfl (fun M X hl => wJ1_charAt_3b067_V9 X hZ σ p1 hF)
noncomputable def fJ0_charAt_5068e_K9 (σ : gS) (p1 : Int32) : Option (Int32) :=
  bd (fJ0_isLatin1_aae02_K9 σ) fun r2 => (if r2 = 0 then none else bd (fJ1_charAt_3b067_V9 σ p1) fun r5 => some (vp_nar .char r5))
set_option maxRecDepth 100000 in
set_option maxHeartbeats 4000000 in
theorem wJ0_charAt_5068e_K9 {M : gM} {G : gG} {out : Int32} (X : gX M G zC cJ0_charAt_5068e RJ0 2 wsJ0_charAt_5068e rmJ0_charAt_5068e (some .char)) {ex : gEx} (hZ : ∀ s : State, G.2.2.2 s → kC ex (gA G zC.1) s) (σ : gS) (p1 : Int32) (hF : fJ0_charAt_5068e_K9 σ p1 = some out) : WW M (gQi M G zC out σ) G zC 2 σ 0 [(0, .ref (ex.1 9)), (1, .int p1)] [] := by
  unfold fJ0_charAt_5068e_K9 at hF
  refine ww_aload_n (pc := 0) X (j := 0) dJ0_charAt_5068e_0 rfl rfl ?_
  obtain ⟨r2, h1, hF⟩ := bd_some hF
  refine ww_callXi (pc := 1) X (As := []) (rest := []) dJ0_charAt_5068e_1 (kJ0_isLatin1_aae02_K9 (mL M) G hZ X.2.2.2.2.2.2.1 X.2.2.2.2.2.2.2.1 σ r2 h1) rfl ((hZ _ (gXk X)).1.1 9 (by decide)).1 gJ0_charAt_5068e_J0_isLatin1_aae02 hyJ0_isLatin1_aae02 ⟨rfl, rfl⟩ ⟨Nat.le_of_ble_eq_true rfl, Nat.le_of_ble_eq_true rfl⟩ rfl rfl (Nat.le_of_ble_eq_true rfl) ?_
  refine ww_if_eq (pc := 4) (tgt := 16) X dJ0_charAt_5068e_4 (by decide) hF (fun h3 hF => ?_) (fun h3 hF => ?_)
  · refine ww_aload_n (pc := 16) X (j := 0) dJ0_charAt_5068e_16 rfl rfl ?_
    refine ww_getE (pc := 17) X dJ0_charAt_5068e_17 (eC_value (hZ _ (gXk X)) 9 (by decide)) (List.mem_of_getElem? (i := 1) rfl) rfl ?_
    refine ww_iload_n (pc := 20) X (j := 1) dJ0_charAt_5068e_20 rfl rfl ?_
    cases hF
  · refine ww_aload_n (pc := 7) X (j := 0) dJ0_charAt_5068e_7 rfl rfl ?_
    refine ww_getE (pc := 8) X dJ0_charAt_5068e_8 (eC_value (hZ _ (gXk X)) 9 (by decide)) (List.mem_of_getElem? (i := 1) rfl) rfl ?_
    refine ww_iload_n (pc := 11) X (j := 1) dJ0_charAt_5068e_11 rfl rfl ?_
    obtain ⟨r5, h4, hF⟩ := bd_some hF
    refine ww_callSi (pc := 12) X (As := [.ref (ex.2.1 9), .int p1]) (rest := []) dJ0_charAt_5068e_12 (kJ1_charAt_3b067_V9 (mL M) G hZ X.2.2.2.2.2.2.1 X.2.2.2.2.2.2.2.1 σ p1 r5 h4) rfl gJ0_charAt_5068e_J1_charAt_3b067 hyJ1_charAt_3b067 ⟨rfl, rfl⟩ ⟨Nat.le_of_ble_eq_true rfl, Nat.le_of_ble_eq_true rfl⟩ rfl rfl (Nat.le_of_ble_eq_true rfl) ?_
    exact ww_nret (pc := 15) X dJ0_charAt_5068e_15 rfl (Option.some.inj hF) rfl
set_option maxRecDepth 100000 in
set_option maxHeartbeats 4000000 in
theorem kJ0_charAt_5068e_K9 (l : Launch) (G : gG) {ex : gEx} (hZ : ∀ s : State, G.2.2.2 s → kC ex (gA G zC.1) s) (hG : gOK G zC.1) (hT : G.2.2.1.map (fun q => q.2) = zC.2.1) (σ : gS) (p1 : Int32) (out : Int32) (hF : fJ0_charAt_5068e_K9 σ p1 = some out) : gCi l yJ0_charAt_5068e wsJ0_charAt_5068e rmJ0_charAt_5068e G zC [.ref (ex.1 9), .int p1] σ out σ :=
  gEnter (by decide) rfl ⟨rfl, rfl⟩ hG hT (Nat.le_of_ble_eq_true rfl) rfl (fun M X hl => wJ0_charAt_5068e_K9 X hZ σ p1 hF)
noncomputable def bX3_isWord_K9_20 (σ : gS) (rec20 : Int32 → Option (Int32)) (a2 : Int32) : Option (Int32) :=
  bd (fJ0_length_8abf5_K9 σ) fun r6 => (if r6 ≤ a2 then some 1 else gd (gb ((σ.1 46 6) + a2) 1600) <| nm (σ.1 1 ((σ.1 46 6) + a2).toNatClampNeg) fun v8 => bd (fJ0_charAt_5068e_K9 σ a2) fun r10 => (if v8 = r10 then nm (a2 + 1 : Int32) fun x12 => rec20 x12 else some 0))
noncomputable def fX3_isWord_K9 (σ : gS) : Option (Int32) :=
  bd (fJ0_length_8abf5_K9 σ) fun r2 => (if ((σ.1 46 7) - (σ.1 46 6)) = r2 then nm (0 : Int32) fun x4 => lpc (S := Int32) K9 (fun rec s => bX3_isWord_K9_20 σ (fun a2 => rec (a2)) s) (x4) else some 0)
set_option maxRecDepth 100000 in
set_option maxHeartbeats 4000000 in
theorem wbX3_isWord_K9_20 {M : gM} {G : gG} {out : Int32} (X : gX M G zC cX3_isWord RX3 3 wsX3_isWord rmX3_isWord (some .boolean)) {ex : gEx} (hZ : ∀ s : State, G.2.2.2 s → kC ex (gA G zC.1) s) (σ : gS) (rec20 : Int32 → Option (Int32)) (ih20 : ∀ (a2 : Int32), rec20 a2 = some out → WW M (gQi M G zC out σ) G zC 3 σ 20 [(0, .ref (G.2.1 46)), (1, .ref (ex.1 9)), (2, .int a2)] []) (a2 : Int32) (hF : bX3_isWord_K9_20 σ rec20 a2 = some out) : WW M (gQi M G zC out σ) G zC 3 σ 20 [(0, .ref (G.2.1 46)), (1, .ref (ex.1 9)), (2, .int a2)] [] := by
  unfold bX3_isWord_K9_20 at hF
  refine ww_iload_n (pc := 20) X (j := 2) dX3_isWord_20 rfl rfl ?_
  refine ww_aload_n (pc := 21) X (j := 1) dX3_isWord_21 rfl rfl ?_
  obtain ⟨r6, h5, hF⟩ := bd_some hF
  refine ww_callXi (pc := 22) X (As := []) (rest := [.int a2]) dX3_isWord_22 (kJ0_length_8abf5_K9 (mL M) G hZ X.2.2.2.2.2.2.1 X.2.2.2.2.2.2.2.1 σ r6 h5) rfl ((hZ _ (gXk X)).1.1 9 (by decide)).1 gX3_isWord_J0_length_8abf5 hyJ0_length_8abf5 ⟨rfl, rfl⟩ ⟨Nat.le_of_ble_eq_true rfl, Nat.le_of_ble_eq_true rfl⟩ rfl rfl (Nat.le_of_ble_eq_true rfl) ?_
  refine ww_icmp_ge (pc := 25) (tgt := 55) X dX3_isWord_25 (by decide) hF (fun h7 hF => ?_) (fun h7 hF => ?_)
  · refine ww_iconst (pc := 55) X (v := 1) dX3_isWord_55 (by decide) ?_
    exact ww_zret (pc := 56) X dX3_isWord_56 (by cases hF; rfl) rfl
  · refine ww_aload_n (pc := 28) X (j := 0) dX3_isWord_28 rfl rfl ?_
    refine ww_get (pc := 29) X (ref := "PictureBlock$Reader") (T := TX3) (j := 0) dX3_isWord_29 inX3_isWord_RX3 shzC_46 clzC_3 (by decide) rfl (List.mem_of_getElem? (i := 3) rfl) rfl ?_
    refine ww_aload_n (pc := 32) X (j := 0) dX3_isWord_32 rfl rfl ?_
    refine ww_get (pc := 33) X (ref := "PictureBlock$Reader") (T := TX3) (j := 6) dX3_isWord_33 inX3_isWord_RX3 shzC_46 clzC_3 (by decide) rfl (List.mem_of_getElem? (i := 2) rfl) rfl ?_
    refine ww_iload_n (pc := 36) X (j := 2) dX3_isWord_36 rfl rfl ?_
    refine ww_iadd (pc := 37) X dX3_isWord_37 ?_
    refine ww_iald (pc := 38) X dX3_isWord_38 shzC_1 rfl hF (fun v8 ev8 bv8 hF => ?_)
    refine ww_aload_n (pc := 39) X (j := 1) dX3_isWord_39 rfl rfl ?_
    refine ww_iload_n (pc := 40) X (j := 2) dX3_isWord_40 rfl rfl ?_
    obtain ⟨r10, h9, hF⟩ := bd_some hF
    refine ww_callXi (pc := 41) X (As := [.int a2]) (rest := [.int v8]) dX3_isWord_41 (kJ0_charAt_5068e_K9 (mL M) G hZ X.2.2.2.2.2.2.1 X.2.2.2.2.2.2.2.1 σ a2 r10 h9) rfl ((hZ _ (gXk X)).1.1 9 (by decide)).1 gX3_isWord_J0_charAt_5068e hyJ0_charAt_5068e ⟨rfl, rfl⟩ ⟨Nat.le_of_ble_eq_true rfl, Nat.le_of_ble_eq_true rfl⟩ rfl rfl (Nat.le_of_ble_eq_true rfl) ?_
    refine ww_icmp_eq (pc := 44) (tgt := 49) X dX3_isWord_44 (by decide) hF (fun h11 hF => ?_) (fun h11 hF => ?_)
    · refine ww_iinc (pc := 49) X (j := 2) (v := 1) (lv' := [(0, .ref (G.2.1 46)), (1, .ref (ex.1 9))]) dX3_isWord_49 rfl rfl (by decide) rfl hF (fun x12 ex12 hF => ?_)
      refine ww_goto (pc := 52) X (tgt := 20) dX3_isWord_52 (by decide) ?_
      exact ww_sub [1, 2, 0] rfl (ih20 x12 hF)
    · refine ww_iconst (pc := 47) X (v := 0) dX3_isWord_47 (by decide) ?_
      exact ww_zret (pc := 48) X dX3_isWord_48 (by cases hF; rfl) rfl
set_option maxRecDepth 100000 in
set_option maxHeartbeats 4000000 in
theorem wX3_isWord_K9 {M : gM} {G : gG} {out : Int32} (X : gX M G zC cX3_isWord RX3 3 wsX3_isWord rmX3_isWord (some .boolean)) {ex : gEx} (hZ : ∀ s : State, G.2.2.2 s → kC ex (gA G zC.1) s) (σ : gS) (hF : fX3_isWord_K9 σ = some out) : WW M (gQi M G zC out σ) G zC 3 σ 0 [(0, .ref (G.2.1 46)), (1, .ref (ex.1 9))] [] := by
  unfold fX3_isWord_K9 at hF
  refine ww_aload_n (pc := 0) X (j := 0) dX3_isWord_0 rfl rfl ?_
  refine ww_get (pc := 1) X (ref := "PictureBlock$Reader") (T := TX3) (j := 7) dX3_isWord_1 inX3_isWord_RX3 shzC_46 clzC_3 (by decide) rfl (List.mem_of_getElem? (i := 1) rfl) rfl ?_
  refine ww_aload_n (pc := 4) X (j := 0) dX3_isWord_4 rfl rfl ?_
  refine ww_get (pc := 5) X (ref := "PictureBlock$Reader") (T := TX3) (j := 6) dX3_isWord_5 inX3_isWord_RX3 shzC_46 clzC_3 (by decide) rfl (List.mem_of_getElem? (i := 2) rfl) rfl ?_
  refine ww_isub (pc := 8) X dX3_isWord_8 ?_
  refine ww_aload_n (pc := 9) X (j := 1) dX3_isWord_9 rfl rfl ?_
  obtain ⟨r2, h1, hF⟩ := bd_some hF
  refine ww_callXi (pc := 10) X (As := []) (rest := [.int ((σ.1 46 7) - (σ.1 46 6))]) dX3_isWord_10 (kJ0_length_8abf5_K9 (mL M) G hZ X.2.2.2.2.2.2.1 X.2.2.2.2.2.2.2.1 σ r2 h1) rfl ((hZ _ (gXk X)).1.1 9 (by decide)).1 gX3_isWord_J0_length_8abf5 hyJ0_length_8abf5 ⟨rfl, rfl⟩ ⟨Nat.le_of_ble_eq_true rfl, Nat.le_of_ble_eq_true rfl⟩ rfl rfl (Nat.le_of_ble_eq_true rfl) ?_
  refine ww_icmp_eq (pc := 13) (tgt := 18) X dX3_isWord_13 (by decide) hF (fun h3 hF => ?_) (fun h3 hF => ?_)
  · refine ww_iconst (pc := 18) X (v := 0) dX3_isWord_18 (by decide) ?_
    refine ww_istore_n (pc := 19) X (lv' := [(0, .ref (G.2.1 46)), (1, .ref (ex.1 9))]) dX3_isWord_19 rfl (by decide) rfl hF (fun x4 ex4 hF => ?_)
    exact ww_sub [1, 2, 0] rfl (lpc_ind (P := (fun (s : Int32) => WW M (gQi M G zC out σ) G zC 3 σ 20 [(0, .ref (G.2.1 46)), (1, .ref (ex.1 9)), (2, .int s)] [])) (fun rec s ih hF => wbX3_isWord_K9_20 X hZ σ (fun a2 => rec (a2)) (fun a2 h => ih (a2) h) s hF) K9 (x4) hF)
  · refine ww_iconst (pc := 16) X (v := 0) dX3_isWord_16 (by decide) ?_
    exact ww_zret (pc := 17) X dX3_isWord_17 (by cases hF; rfl) rfl
set_option maxRecDepth 100000 in
set_option maxHeartbeats 4000000 in
theorem kX3_isWord_K9 (l : Launch) (G : gG) {ex : gEx} (hZ : ∀ s : State, G.2.2.2 s → kC ex (gA G zC.1) s) (hG : gOK G zC.1) (hT : G.2.2.1.map (fun q => q.2) = zC.2.1) (σ : gS) (out : Int32) (hF : fX3_isWord_K9 σ = some out) : gCi l yX3_isWord wsX3_isWord rmX3_isWord G zC [.ref (G.2.1 46), .ref (ex.1 9)] σ out σ :=
  gEnter (by decide) rfl ⟨rfl, rfl⟩ hG hT (Nat.le_of_ble_eq_true rfl) rfl (fun M X hl => wX3_isWord_K9 X hZ σ hF)
noncomputable def fJ0_coder_7d493_K10 (σ : gS) : Option (Int32) :=
  if (1 : Int32) = 0 then none else some (vp_nar .byte (0 : Int32))
set_option maxRecDepth 100000 in
set_option maxHeartbeats 4000000 in
theorem wJ0_coder_7d493_K10 {M : gM} {G : gG} {out : Int32} (X : gX M G zC cJ0_coder_7d493 RJ0 1 wsJ0_coder_7d493 rmJ0_coder_7d493 (some .byte)) {ex : gEx} (hZ : ∀ s : State, G.2.2.2 s → kC ex (gA G zC.1) s) (σ : gS) (hF : fJ0_coder_7d493_K10 σ = some out) : WW M (gQi M G zC out σ) G zC 1 σ 0 [(0, .ref (ex.1 10))] [] := by
  unfold fJ0_coder_7d493_K10 at hF
  refine ww_getsE (pc := 0) X (v := .int 1) dJ0_coder_7d493_0 (eC_compact (hZ _ (gXk X))) (List.mem_of_getElem? (i := 1) rfl) rfl ?_
  refine ww_if_eq (pc := 3) (tgt := 13) X dJ0_coder_7d493_3 (by decide) hF (fun h1 hF => ?_) (fun h1 hF => ?_)
  · cases hF
  · refine ww_aload_n (pc := 6) X (j := 0) dJ0_coder_7d493_6 rfl rfl ?_
    refine ww_getE (pc := 7) X dJ0_coder_7d493_7 (eC_coder (hZ _ (gXk X)) 10 (by decide)) (List.mem_of_getElem? (i := 2) rfl) rfl ?_
    refine ww_goto (pc := 10) X (tgt := 14) dJ0_coder_7d493_10 (by decide) ?_
    exact ww_nret (pc := 14) X dJ0_coder_7d493_14 rfl (Option.some.inj hF) rfl
set_option maxRecDepth 100000 in
set_option maxHeartbeats 4000000 in
theorem kJ0_coder_7d493_K10 (l : Launch) (G : gG) {ex : gEx} (hZ : ∀ s : State, G.2.2.2 s → kC ex (gA G zC.1) s) (hG : gOK G zC.1) (hT : G.2.2.1.map (fun q => q.2) = zC.2.1) (σ : gS) (out : Int32) (hF : fJ0_coder_7d493_K10 σ = some out) : gCi l yJ0_coder_7d493 wsJ0_coder_7d493 rmJ0_coder_7d493 G zC [.ref (ex.1 10)] σ out σ :=
  gEnter (by decide) rfl ⟨rfl, rfl⟩ hG hT (Nat.le_of_ble_eq_true rfl) rfl (fun M X hl => wJ0_coder_7d493_K10 X hZ σ hF)
noncomputable def fJ0_length_8abf5_K10 (σ : gS) : Option (Int32) :=
  bd (fJ0_coder_7d493_K10 σ) fun r2 => some (6 >>> (r2 &&& 31))
set_option maxRecDepth 100000 in
set_option maxHeartbeats 4000000 in
theorem wJ0_length_8abf5_K10 {M : gM} {G : gG} {out : Int32} (X : gX M G zC cJ0_length_8abf5 RJ0 1 wsJ0_length_8abf5 rmJ0_length_8abf5 (some .int)) {ex : gEx} (hZ : ∀ s : State, G.2.2.2 s → kC ex (gA G zC.1) s) (σ : gS) (hF : fJ0_length_8abf5_K10 σ = some out) : WW M (gQi M G zC out σ) G zC 1 σ 0 [(0, .ref (ex.1 10))] [] := by
  unfold fJ0_length_8abf5_K10 at hF
  refine ww_aload_n (pc := 0) X (j := 0) dJ0_length_8abf5_0 rfl rfl ?_
  refine ww_getE (pc := 1) X dJ0_length_8abf5_1 (eC_value (hZ _ (gXk X)) 10 (by decide)) (List.mem_of_getElem? (i := 1) rfl) rfl ?_
  refine ww_lenE (pc := 4) X (N := 6) (v := 6) dJ0_length_8abf5_4 (eC_bytes (hZ _ (gXk X)) 10 (by decide)) (by decide) ?_
  refine ww_aload_n (pc := 5) X (j := 0) dJ0_length_8abf5_5 rfl rfl ?_
  obtain ⟨r2, h1, hF⟩ := bd_some hF
  refine ww_callXi (pc := 6) X (As := []) (rest := [.int 6]) dJ0_length_8abf5_6 (kJ0_coder_7d493_K10 (mL M) G hZ X.2.2.2.2.2.2.1 X.2.2.2.2.2.2.2.1 σ r2 h1) rfl ((hZ _ (gXk X)).1.1 10 (by decide)).1 gJ0_length_8abf5_J0_coder_7d493 hyJ0_coder_7d493 ⟨rfl, rfl⟩ ⟨Nat.le_of_ble_eq_true rfl, Nat.le_of_ble_eq_true rfl⟩ rfl rfl (Nat.le_of_ble_eq_true rfl) ?_
  refine ww_ishr (pc := 9) X dJ0_length_8abf5_9 ?_
  exact ww_iret (pc := 10) X dJ0_length_8abf5_10 (Option.some.inj hF) rfl
set_option maxRecDepth 100000 in
set_option maxHeartbeats 4000000 in
theorem kJ0_length_8abf5_K10 (l : Launch) (G : gG) {ex : gEx} (hZ : ∀ s : State, G.2.2.2 s → kC ex (gA G zC.1) s) (hG : gOK G zC.1) (hT : G.2.2.1.map (fun q => q.2) = zC.2.1) (σ : gS) (out : Int32) (hF : fJ0_length_8abf5_K10 σ = some out) : gCi l yJ0_length_8abf5 wsJ0_length_8abf5 rmJ0_length_8abf5 G zC [.ref (ex.1 10)] σ out σ :=
  gEnter (by decide) rfl ⟨rfl, rfl⟩ hG hT (Nat.le_of_ble_eq_true rfl) rfl (fun M X hl => wJ0_length_8abf5_K10 X hZ σ hF)
noncomputable def fJ0_isLatin1_aae02_K10 (σ : gS) : Option (Int32) :=
  if (1 : Int32) = 0 then none else if (0 : Int32) = 0 then some 1 else none
set_option maxRecDepth 100000 in
set_option maxHeartbeats 4000000 in
theorem wJ0_isLatin1_aae02_K10 {M : gM} {G : gG} {out : Int32} (X : gX M G zC cJ0_isLatin1_aae02 RJ0 1 wsJ0_isLatin1_aae02 rmJ0_isLatin1_aae02 (some .boolean)) {ex : gEx} (hZ : ∀ s : State, G.2.2.2 s → kC ex (gA G zC.1) s) (σ : gS) (hF : fJ0_isLatin1_aae02_K10 σ = some out) : WW M (gQi M G zC out σ) G zC 1 σ 0 [(0, .ref (ex.1 10))] [] := by
  unfold fJ0_isLatin1_aae02_K10 at hF
  refine ww_getsE (pc := 0) X (v := .int 1) dJ0_isLatin1_aae02_0 (eC_compact (hZ _ (gXk X))) (List.mem_of_getElem? (i := 1) rfl) rfl ?_
  refine ww_if_eq (pc := 3) (tgt := 17) X dJ0_isLatin1_aae02_3 (by decide) hF (fun h1 hF => ?_) (fun h1 hF => ?_)
  · cases hF
  · refine ww_aload_n (pc := 6) X (j := 0) dJ0_isLatin1_aae02_6 rfl rfl ?_
    refine ww_getE (pc := 7) X dJ0_isLatin1_aae02_7 (eC_coder (hZ _ (gXk X)) 10 (by decide)) (List.mem_of_getElem? (i := 2) rfl) rfl ?_
    refine ww_if_ne (pc := 10) (tgt := 17) X dJ0_isLatin1_aae02_10 (by decide) hF (fun h2 hF => ?_) (fun h2 hF => ?_)
    · cases hF
    · refine ww_iconst (pc := 13) X (v := 1) dJ0_isLatin1_aae02_13 (by decide) ?_
      refine ww_goto (pc := 14) X (tgt := 18) dJ0_isLatin1_aae02_14 (by decide) ?_
      exact ww_zret (pc := 18) X dJ0_isLatin1_aae02_18 (by cases hF; rfl) rfl
set_option maxRecDepth 100000 in
set_option maxHeartbeats 4000000 in
theorem kJ0_isLatin1_aae02_K10 (l : Launch) (G : gG) {ex : gEx} (hZ : ∀ s : State, G.2.2.2 s → kC ex (gA G zC.1) s) (hG : gOK G zC.1) (hT : G.2.2.1.map (fun q => q.2) = zC.2.1) (σ : gS) (out : Int32) (hF : fJ0_isLatin1_aae02_K10 σ = some out) : gCi l yJ0_isLatin1_aae02 wsJ0_isLatin1_aae02 rmJ0_isLatin1_aae02 G zC [.ref (ex.1 10)] σ out σ :=
  gEnter (by decide) rfl ⟨rfl, rfl⟩ hG hT (Nat.le_of_ble_eq_true rfl) rfl (fun M X hl => wJ0_isLatin1_aae02_K10 X hZ σ hF)
noncomputable def fJ1_charAt_3b067_V10 (σ : gS) (p1 : Int32) : Option (Int32) :=
  bd (fJ0_checkIndex_df160 σ p1 6) fun u2 => gd (gb p1 6) <| nm ((bytC 10) p1.toNatClampNeg) fun v3 => some (vp_nar .char (((v3 &&& 255).toUInt32 % 65536).toInt32))
set_option maxRecDepth 100000 in
set_option maxHeartbeats 4000000 in
theorem wJ1_charAt_3b067_V10 {M : gM} {G : gG} {out : Int32} (X : gX M G zC cJ1_charAt_3b067 RJ1 2 wsJ1_charAt_3b067 rmJ1_charAt_3b067 (some .char)) {ex : gEx} (hZ : ∀ s : State, G.2.2.2 s → kC ex (gA G zC.1) s) (σ : gS) (p1 : Int32) (hF : fJ1_charAt_3b067_V10 σ p1 = some out) : WW M (gQi M G zC out σ) G zC 2 σ 0 [(0, .ref (ex.2.1 10)), (1, .int p1)] [] := by
  unfold fJ1_charAt_3b067_V10 at hF
  refine ww_iload_n (pc := 0) X (j := 1) dJ1_charAt_3b067_0 rfl rfl ?_
  refine ww_aload_n (pc := 1) X (j := 0) dJ1_charAt_3b067_1 rfl rfl ?_
  refine ww_lenE (pc := 2) X (N := 6) (v := 6) dJ1_charAt_3b067_2 (eC_bytes (hZ _ (gXk X)) 10 (by decide)) (by decide) ?_
  obtain ⟨u2, h1, hF⟩ := bd_some hF
  refine ww_callSv (pc := 3) X (As := [.int p1, .int 6]) (rest := []) dJ1_charAt_3b067_3 (kJ0_checkIndex_df160 (mL M) G hZ X.2.2.2.2.2.2.1 X.2.2.2.2.2.2.2.1 σ p1 6 h1) rfl gJ1_charAt_3b067_J0_checkIndex_df160 hyJ0_checkIndex_df160 ⟨rfl, rfl⟩ ⟨Nat.le_of_ble_eq_true rfl, Nat.le_of_ble_eq_true rfl⟩ rfl rfl (Nat.le_of_ble_eq_true rfl) ?_
  refine ww_aload_n (pc := 6) X (j := 0) dJ1_charAt_3b067_6 rfl rfl ?_
  refine ww_iload_n (pc := 7) X (j := 1) dJ1_charAt_3b067_7 rfl rfl ?_
  refine ww_tbE (pc := 8) X (N := 6) (g := (bytC 10)) dJ1_charAt_3b067_8 (eC_bytes (hZ _ (gXk X)) 10 (by decide)) hF (fun v3 ev3 bv3 hF => ?_)
  refine ww_sipush (pc := 9) X (v := 255) dJ1_charAt_3b067_9 (by decide) ?_
  refine ww_iand (pc := 12) X dJ1_charAt_3b067_12 ?_
  refine ww_i2c (pc := 13) X dJ1_charAt_3b067_13 ?_
  exact ww_nret (pc := 14) X dJ1_charAt_3b067_14 rfl (Option.some.inj hF) rfl
set_option maxRecDepth 100000 in
set_option maxHeartbeats 4000000 in
theorem kJ1_charAt_3b067_V10 (l : Launch) (G : gG) {ex : gEx} (hZ : ∀ s : State, G.2.2.2 s → kC ex (gA G zC.1) s) (hG : gOK G zC.1) (hT : G.2.2.1.map (fun q => q.2) = zC.2.1) (σ : gS) (p1 : Int32) (out : Int32) (hF : fJ1_charAt_3b067_V10 σ p1 = some out) : gCi l yJ1_charAt_3b067 wsJ1_charAt_3b067 rmJ1_charAt_3b067 G zC [.ref (ex.2.1 10), .int p1] σ out σ :=
  gEnter (by decide) rfl ⟨rfl, rfl⟩ hG hT (Nat.le_of_ble_eq_true rfl) rfl (fun M X hl => wJ1_charAt_3b067_V10 X hZ σ p1 hF)
noncomputable def fJ0_charAt_5068e_K10 (σ : gS) (p1 : Int32) : Option (Int32) :=
  bd (fJ0_isLatin1_aae02_K10 σ) fun r2 => (if r2 = 0 then none else bd (fJ1_charAt_3b067_V10 σ p1) fun r5 => some (vp_nar .char r5))
set_option maxRecDepth 100000 in
set_option maxHeartbeats 4000000 in
theorem wJ0_charAt_5068e_K10 {M : gM} {G : gG} {out : Int32} (X : gX M G zC cJ0_charAt_5068e RJ0 2 wsJ0_charAt_5068e rmJ0_charAt_5068e (some .char)) {ex : gEx} (hZ : ∀ s : State, G.2.2.2 s → kC ex (gA G zC.1) s) (σ : gS) (p1 : Int32) (hF : fJ0_charAt_5068e_K10 σ p1 = some out) : WW M (gQi M G zC out σ) G zC 2 σ 0 [(0, .ref (ex.1 10)), (1, .int p1)] [] := by
  unfold fJ0_charAt_5068e_K10 at hF
  refine ww_aload_n (pc := 0) X (j := 0) dJ0_charAt_5068e_0 rfl rfl ?_
  obtain ⟨r2, h1, hF⟩ := bd_some hF
  refine ww_callXi (pc := 1) X (As := []) (rest := []) dJ0_charAt_5068e_1 (kJ0_isLatin1_aae02_K10 (mL M) G hZ X.2.2.2.2.2.2.1 X.2.2.2.2.2.2.2.1 σ r2 h1) rfl ((hZ _ (gXk X)).1.1 10 (by decide)).1 gJ0_charAt_5068e_J0_isLatin1_aae02 hyJ0_isLatin1_aae02 ⟨rfl, rfl⟩ ⟨Nat.le_of_ble_eq_true rfl, Nat.le_of_ble_eq_true rfl⟩ rfl rfl (Nat.le_of_ble_eq_true rfl) ?_
  refine ww_if_eq (pc := 4) (tgt := 16) X dJ0_charAt_5068e_4 (by decide) hF (fun h3 hF => ?_) (fun h3 hF => ?_)
  · refine ww_aload_n (pc := 16) X (j := 0) dJ0_charAt_5068e_16 rfl rfl ?_
    refine ww_getE (pc := 17) X dJ0_charAt_5068e_17 (eC_value (hZ _ (gXk X)) 10 (by decide)) (List.mem_of_getElem? (i := 1) rfl) rfl ?_
    refine ww_iload_n (pc := 20) X (j := 1) dJ0_charAt_5068e_20 rfl rfl ?_
    cases hF
  · refine ww_aload_n (pc := 7) X (j := 0) dJ0_charAt_5068e_7 rfl rfl ?_
    refine ww_getE (pc := 8) X dJ0_charAt_5068e_8 (eC_value (hZ _ (gXk X)) 10 (by decide)) (List.mem_of_getElem? (i := 1) rfl) rfl ?_
    refine ww_iload_n (pc := 11) X (j := 1) dJ0_charAt_5068e_11 rfl rfl ?_
    obtain ⟨r5, h4, hF⟩ := bd_some hF
    refine ww_callSi (pc := 12) X (As := [.ref (ex.2.1 10), .int p1]) (rest := []) dJ0_charAt_5068e_12 (kJ1_charAt_3b067_V10 (mL M) G hZ X.2.2.2.2.2.2.1 X.2.2.2.2.2.2.2.1 σ p1 r5 h4) rfl gJ0_charAt_5068e_J1_charAt_3b067 hyJ1_charAt_3b067 ⟨rfl, rfl⟩ ⟨Nat.le_of_ble_eq_true rfl, Nat.le_of_ble_eq_true rfl⟩ rfl rfl (Nat.le_of_ble_eq_true rfl) ?_
    exact ww_nret (pc := 15) X dJ0_charAt_5068e_15 rfl (Option.some.inj hF) rfl
set_option maxRecDepth 100000 in
set_option maxHeartbeats 4000000 in
theorem kJ0_charAt_5068e_K10 (l : Launch) (G : gG) {ex : gEx} (hZ : ∀ s : State, G.2.2.2 s → kC ex (gA G zC.1) s) (hG : gOK G zC.1) (hT : G.2.2.1.map (fun q => q.2) = zC.2.1) (σ : gS) (p1 : Int32) (out : Int32) (hF : fJ0_charAt_5068e_K10 σ p1 = some out) : gCi l yJ0_charAt_5068e wsJ0_charAt_5068e rmJ0_charAt_5068e G zC [.ref (ex.1 10), .int p1] σ out σ :=
  gEnter (by decide) rfl ⟨rfl, rfl⟩ hG hT (Nat.le_of_ble_eq_true rfl) rfl (fun M X hl => wJ0_charAt_5068e_K10 X hZ σ p1 hF)
noncomputable def bX3_isWord_K10_20 (σ : gS) (rec20 : Int32 → Option (Int32)) (a2 : Int32) : Option (Int32) :=
  bd (fJ0_length_8abf5_K10 σ) fun r6 => (if r6 ≤ a2 then some 1 else gd (gb ((σ.1 46 6) + a2) 1600) <| nm (σ.1 1 ((σ.1 46 6) + a2).toNatClampNeg) fun v8 => bd (fJ0_charAt_5068e_K10 σ a2) fun r10 => (if v8 = r10 then nm (a2 + 1 : Int32) fun x12 => rec20 x12 else some 0))
noncomputable def fX3_isWord_K10 (σ : gS) : Option (Int32) :=
  bd (fJ0_length_8abf5_K10 σ) fun r2 => (if ((σ.1 46 7) - (σ.1 46 6)) = r2 then nm (0 : Int32) fun x4 => lpc (S := Int32) K9 (fun rec s => bX3_isWord_K10_20 σ (fun a2 => rec (a2)) s) (x4) else some 0)
set_option maxRecDepth 100000 in
set_option maxHeartbeats 4000000 in
theorem wbX3_isWord_K10_20 {M : gM} {G : gG} {out : Int32} (X : gX M G zC cX3_isWord RX3 3 wsX3_isWord rmX3_isWord (some .boolean)) {ex : gEx} (hZ : ∀ s : State, G.2.2.2 s → kC ex (gA G zC.1) s) (σ : gS) (rec20 : Int32 → Option (Int32)) (ih20 : ∀ (a2 : Int32), rec20 a2 = some out → WW M (gQi M G zC out σ) G zC 3 σ 20 [(0, .ref (G.2.1 46)), (1, .ref (ex.1 10)), (2, .int a2)] []) (a2 : Int32) (hF : bX3_isWord_K10_20 σ rec20 a2 = some out) : WW M (gQi M G zC out σ) G zC 3 σ 20 [(0, .ref (G.2.1 46)), (1, .ref (ex.1 10)), (2, .int a2)] [] := by
  unfold bX3_isWord_K10_20 at hF
  refine ww_iload_n (pc := 20) X (j := 2) dX3_isWord_20 rfl rfl ?_
  refine ww_aload_n (pc := 21) X (j := 1) dX3_isWord_21 rfl rfl ?_
  obtain ⟨r6, h5, hF⟩ := bd_some hF
  refine ww_callXi (pc := 22) X (As := []) (rest := [.int a2]) dX3_isWord_22 (kJ0_length_8abf5_K10 (mL M) G hZ X.2.2.2.2.2.2.1 X.2.2.2.2.2.2.2.1 σ r6 h5) rfl ((hZ _ (gXk X)).1.1 10 (by decide)).1 gX3_isWord_J0_length_8abf5 hyJ0_length_8abf5 ⟨rfl, rfl⟩ ⟨Nat.le_of_ble_eq_true rfl, Nat.le_of_ble_eq_true rfl⟩ rfl rfl (Nat.le_of_ble_eq_true rfl) ?_
  refine ww_icmp_ge (pc := 25) (tgt := 55) X dX3_isWord_25 (by decide) hF (fun h7 hF => ?_) (fun h7 hF => ?_)
  · refine ww_iconst (pc := 55) X (v := 1) dX3_isWord_55 (by decide) ?_
    exact ww_zret (pc := 56) X dX3_isWord_56 (by cases hF; rfl) rfl
  · refine ww_aload_n (pc := 28) X (j := 0) dX3_isWord_28 rfl rfl ?_
    refine ww_get (pc := 29) X (ref := "PictureBlock$Reader") (T := TX3) (j := 0) dX3_isWord_29 inX3_isWord_RX3 shzC_46 clzC_3 (by decide) rfl (List.mem_of_getElem? (i := 3) rfl) rfl ?_
    refine ww_aload_n (pc := 32) X (j := 0) dX3_isWord_32 rfl rfl ?_
    refine ww_get (pc := 33) X (ref := "PictureBlock$Reader") (T := TX3) (j := 6) dX3_isWord_33 inX3_isWord_RX3 shzC_46 clzC_3 (by decide) rfl (List.mem_of_getElem? (i := 2) rfl) rfl ?_
    refine ww_iload_n (pc := 36) X (j := 2) dX3_isWord_36 rfl rfl ?_
    refine ww_iadd (pc := 37) X dX3_isWord_37 ?_
    refine ww_iald (pc := 38) X dX3_isWord_38 shzC_1 rfl hF (fun v8 ev8 bv8 hF => ?_)
    refine ww_aload_n (pc := 39) X (j := 1) dX3_isWord_39 rfl rfl ?_
    refine ww_iload_n (pc := 40) X (j := 2) dX3_isWord_40 rfl rfl ?_
    obtain ⟨r10, h9, hF⟩ := bd_some hF
    refine ww_callXi (pc := 41) X (As := [.int a2]) (rest := [.int v8]) dX3_isWord_41 (kJ0_charAt_5068e_K10 (mL M) G hZ X.2.2.2.2.2.2.1 X.2.2.2.2.2.2.2.1 σ a2 r10 h9) rfl ((hZ _ (gXk X)).1.1 10 (by decide)).1 gX3_isWord_J0_charAt_5068e hyJ0_charAt_5068e ⟨rfl, rfl⟩ ⟨Nat.le_of_ble_eq_true rfl, Nat.le_of_ble_eq_true rfl⟩ rfl rfl (Nat.le_of_ble_eq_true rfl) ?_
    refine ww_icmp_eq (pc := 44) (tgt := 49) X dX3_isWord_44 (by decide) hF (fun h11 hF => ?_) (fun h11 hF => ?_)
    · refine ww_iinc (pc := 49) X (j := 2) (v := 1) (lv' := [(0, .ref (G.2.1 46)), (1, .ref (ex.1 10))]) dX3_isWord_49 rfl rfl (by decide) rfl hF (fun x12 ex12 hF => ?_)
      refine ww_goto (pc := 52) X (tgt := 20) dX3_isWord_52 (by decide) ?_
      exact ww_sub [1, 2, 0] rfl (ih20 x12 hF)
    · refine ww_iconst (pc := 47) X (v := 0) dX3_isWord_47 (by decide) ?_
      exact ww_zret (pc := 48) X dX3_isWord_48 (by cases hF; rfl) rfl
set_option maxRecDepth 100000 in
set_option maxHeartbeats 4000000 in
theorem wX3_isWord_K10 {M : gM} {G : gG} {out : Int32} (X : gX M G zC cX3_isWord RX3 3 wsX3_isWord rmX3_isWord (some .boolean)) {ex : gEx} (hZ : ∀ s : State, G.2.2.2 s → kC ex (gA G zC.1) s) (σ : gS) (hF : fX3_isWord_K10 σ = some out) : WW M (gQi M G zC out σ) G zC 3 σ 0 [(0, .ref (G.2.1 46)), (1, .ref (ex.1 10))] [] := by
  unfold fX3_isWord_K10 at hF
  refine ww_aload_n (pc := 0) X (j := 0) dX3_isWord_0 rfl rfl ?_
  refine ww_get (pc := 1) X (ref := "PictureBlock$Reader") (T := TX3) (j := 7) dX3_isWord_1 inX3_isWord_RX3 shzC_46 clzC_3 (by decide) rfl (List.mem_of_getElem? (i := 1) rfl) rfl ?_
  refine ww_aload_n (pc := 4) X (j := 0) dX3_isWord_4 rfl rfl ?_
  refine ww_get (pc := 5) X (ref := "PictureBlock$Reader") (T := TX3) (j := 6) dX3_isWord_5 inX3_isWord_RX3 shzC_46 clzC_3 (by decide) rfl (List.mem_of_getElem? (i := 2) rfl) rfl ?_
  refine ww_isub (pc := 8) X dX3_isWord_8 ?_
  refine ww_aload_n (pc := 9) X (j := 1) dX3_isWord_9 rfl rfl ?_
  obtain ⟨r2, h1, hF⟩ := bd_some hF
  refine ww_callXi (pc := 10) X (As := []) (rest := [.int ((σ.1 46 7) - (σ.1 46 6))]) dX3_isWord_10 (kJ0_length_8abf5_K10 (mL M) G hZ X.2.2.2.2.2.2.1 X.2.2.2.2.2.2.2.1 σ r2 h1) rfl ((hZ _ (gXk X)).1.1 10 (by decide)).1 gX3_isWord_J0_length_8abf5 hyJ0_length_8abf5 ⟨rfl, rfl⟩ ⟨Nat.le_of_ble_eq_true rfl, Nat.le_of_ble_eq_true rfl⟩ rfl rfl (Nat.le_of_ble_eq_true rfl) ?_
  refine ww_icmp_eq (pc := 13) (tgt := 18) X dX3_isWord_13 (by decide) hF (fun h3 hF => ?_) (fun h3 hF => ?_)
  · refine ww_iconst (pc := 18) X (v := 0) dX3_isWord_18 (by decide) ?_
    refine ww_istore_n (pc := 19) X (lv' := [(0, .ref (G.2.1 46)), (1, .ref (ex.1 10))]) dX3_isWord_19 rfl (by decide) rfl hF (fun x4 ex4 hF => ?_)
    exact ww_sub [1, 2, 0] rfl (lpc_ind (P := (fun (s : Int32) => WW M (gQi M G zC out σ) G zC 3 σ 20 [(0, .ref (G.2.1 46)), (1, .ref (ex.1 10)), (2, .int s)] [])) (fun rec s ih hF => wbX3_isWord_K10_20 X hZ σ (fun a2 => rec (a2)) (fun a2 h => ih (a2) h) s hF) K9 (x4) hF)
  · refine ww_iconst (pc := 16) X (v := 0) dX3_isWord_16 (by decide) ?_
    exact ww_zret (pc := 17) X dX3_isWord_17 (by cases hF; rfl) rfl
set_option maxRecDepth 100000 in
set_option maxHeartbeats 4000000 in
theorem kX3_isWord_K10 (l : Launch) (G : gG) {ex : gEx} (hZ : ∀ s : State, G.2.2.2 s → kC ex (gA G zC.1) s) (hG : gOK G zC.1) (hT : G.2.2.1.map (fun q => q.2) = zC.2.1) (σ : gS) (out : Int32) (hF : fX3_isWord_K10 σ = some out) : gCi l yX3_isWord wsX3_isWord rmX3_isWord G zC [.ref (G.2.1 46), .ref (ex.1 10)] σ out σ :=
  gEnter (by decide) rfl ⟨rfl, rfl⟩ hG hT (Nat.le_of_ble_eq_true rfl) rfl (fun M X hl => wX3_isWord_K10 X hZ σ hF)
noncomputable def fJ0_coder_7d493_K11 (σ : gS) : Option (Int32) :=
  if (1 : Int32) = 0 then none else some (vp_nar .byte (0 : Int32))
set_option maxRecDepth 100000 in
set_option maxHeartbeats 4000000 in
theorem wJ0_coder_7d493_K11 {M : gM} {G : gG} {out : Int32} (X : gX M G zC cJ0_coder_7d493 RJ0 1 wsJ0_coder_7d493 rmJ0_coder_7d493 (some .byte)) {ex : gEx} (hZ : ∀ s : State, G.2.2.2 s → kC ex (gA G zC.1) s) (σ : gS) (hF : fJ0_coder_7d493_K11 σ = some out) : WW M (gQi M G zC out σ) G zC 1 σ 0 [(0, .ref (ex.1 11))] [] := by
  unfold fJ0_coder_7d493_K11 at hF
  refine ww_getsE (pc := 0) X (v := .int 1) dJ0_coder_7d493_0 (eC_compact (hZ _ (gXk X))) (List.mem_of_getElem? (i := 1) rfl) rfl ?_
  refine ww_if_eq (pc := 3) (tgt := 13) X dJ0_coder_7d493_3 (by decide) hF (fun h1 hF => ?_) (fun h1 hF => ?_)
  · cases hF
  · refine ww_aload_n (pc := 6) X (j := 0) dJ0_coder_7d493_6 rfl rfl ?_
    refine ww_getE (pc := 7) X dJ0_coder_7d493_7 (eC_coder (hZ _ (gXk X)) 11 (by decide)) (List.mem_of_getElem? (i := 2) rfl) rfl ?_
    refine ww_goto (pc := 10) X (tgt := 14) dJ0_coder_7d493_10 (by decide) ?_
    exact ww_nret (pc := 14) X dJ0_coder_7d493_14 rfl (Option.some.inj hF) rfl
set_option maxRecDepth 100000 in
set_option maxHeartbeats 4000000 in
theorem kJ0_coder_7d493_K11 (l : Launch) (G : gG) {ex : gEx} (hZ : ∀ s : State, G.2.2.2 s → kC ex (gA G zC.1) s) (hG : gOK G zC.1) (hT : G.2.2.1.map (fun q => q.2) = zC.2.1) (σ : gS) (out : Int32) (hF : fJ0_coder_7d493_K11 σ = some out) : gCi l yJ0_coder_7d493 wsJ0_coder_7d493 rmJ0_coder_7d493 G zC [.ref (ex.1 11)] σ out σ :=
  gEnter (by decide) rfl ⟨rfl, rfl⟩ hG hT (Nat.le_of_ble_eq_true rfl) rfl (fun M X hl => wJ0_coder_7d493_K11 X hZ σ hF)
noncomputable def fJ0_length_8abf5_K11 (σ : gS) : Option (Int32) :=
  bd (fJ0_coder_7d493_K11 σ) fun r2 => some (3 >>> (r2 &&& 31))
set_option maxRecDepth 100000 in
set_option maxHeartbeats 4000000 in
theorem wJ0_length_8abf5_K11 {M : gM} {G : gG} {out : Int32} (X : gX M G zC cJ0_length_8abf5 RJ0 1 wsJ0_length_8abf5 rmJ0_length_8abf5 (some .int)) {ex : gEx} (hZ : ∀ s : State, G.2.2.2 s → kC ex (gA G zC.1) s) (σ : gS) (hF : fJ0_length_8abf5_K11 σ = some out) : WW M (gQi M G zC out σ) G zC 1 σ 0 [(0, .ref (ex.1 11))] [] := by
  unfold fJ0_length_8abf5_K11 at hF
  refine ww_aload_n (pc := 0) X (j := 0) dJ0_length_8abf5_0 rfl rfl ?_
  refine ww_getE (pc := 1) X dJ0_length_8abf5_1 (eC_value (hZ _ (gXk X)) 11 (by decide)) (List.mem_of_getElem? (i := 1) rfl) rfl ?_
  refine ww_lenE (pc := 4) X (N := 3) (v := 3) dJ0_length_8abf5_4 (eC_bytes (hZ _ (gXk X)) 11 (by decide)) (by decide) ?_
  refine ww_aload_n (pc := 5) X (j := 0) dJ0_length_8abf5_5 rfl rfl ?_
  obtain ⟨r2, h1, hF⟩ := bd_some hF
  refine ww_callXi (pc := 6) X (As := []) (rest := [.int 3]) dJ0_length_8abf5_6 (kJ0_coder_7d493_K11 (mL M) G hZ X.2.2.2.2.2.2.1 X.2.2.2.2.2.2.2.1 σ r2 h1) rfl ((hZ _ (gXk X)).1.1 11 (by decide)).1 gJ0_length_8abf5_J0_coder_7d493 hyJ0_coder_7d493 ⟨rfl, rfl⟩ ⟨Nat.le_of_ble_eq_true rfl, Nat.le_of_ble_eq_true rfl⟩ rfl rfl (Nat.le_of_ble_eq_true rfl) ?_
  refine ww_ishr (pc := 9) X dJ0_length_8abf5_9 ?_
  exact ww_iret (pc := 10) X dJ0_length_8abf5_10 (Option.some.inj hF) rfl
set_option maxRecDepth 100000 in
set_option maxHeartbeats 4000000 in
theorem kJ0_length_8abf5_K11 (l : Launch) (G : gG) {ex : gEx} (hZ : ∀ s : State, G.2.2.2 s → kC ex (gA G zC.1) s) (hG : gOK G zC.1) (hT : G.2.2.1.map (fun q => q.2) = zC.2.1) (σ : gS) (out : Int32) (hF : fJ0_length_8abf5_K11 σ = some out) : gCi l yJ0_length_8abf5 wsJ0_length_8abf5 rmJ0_length_8abf5 G zC [.ref (ex.1 11)] σ out σ :=
  gEnter (by decide) rfl ⟨rfl, rfl⟩ hG hT (Nat.le_of_ble_eq_true rfl) rfl (fun M X hl => wJ0_length_8abf5_K11 X hZ σ hF)
noncomputable def fJ0_isLatin1_aae02_K11 (σ : gS) : Option (Int32) :=
  if (1 : Int32) = 0 then none else if (0 : Int32) = 0 then some 1 else none
set_option maxRecDepth 100000 in
set_option maxHeartbeats 4000000 in
theorem wJ0_isLatin1_aae02_K11 {M : gM} {G : gG} {out : Int32} (X : gX M G zC cJ0_isLatin1_aae02 RJ0 1 wsJ0_isLatin1_aae02 rmJ0_isLatin1_aae02 (some .boolean)) {ex : gEx} (hZ : ∀ s : State, G.2.2.2 s → kC ex (gA G zC.1) s) (σ : gS) (hF : fJ0_isLatin1_aae02_K11 σ = some out) : WW M (gQi M G zC out σ) G zC 1 σ 0 [(0, .ref (ex.1 11))] [] := by
  unfold fJ0_isLatin1_aae02_K11 at hF
  refine ww_getsE (pc := 0) X (v := .int 1) dJ0_isLatin1_aae02_0 (eC_compact (hZ _ (gXk X))) (List.mem_of_getElem? (i := 1) rfl) rfl ?_
  refine ww_if_eq (pc := 3) (tgt := 17) X dJ0_isLatin1_aae02_3 (by decide) hF (fun h1 hF => ?_) (fun h1 hF => ?_)
  · cases hF
  · refine ww_aload_n (pc := 6) X (j := 0) dJ0_isLatin1_aae02_6 rfl rfl ?_
    refine ww_getE (pc := 7) X dJ0_isLatin1_aae02_7 (eC_coder (hZ _ (gXk X)) 11 (by decide)) (List.mem_of_getElem? (i := 2) rfl) rfl ?_
    refine ww_if_ne (pc := 10) (tgt := 17) X dJ0_isLatin1_aae02_10 (by decide) hF (fun h2 hF => ?_) (fun h2 hF => ?_)
    · cases hF
    · refine ww_iconst (pc := 13) X (v := 1) dJ0_isLatin1_aae02_13 (by decide) ?_
      refine ww_goto (pc := 14) X (tgt := 18) dJ0_isLatin1_aae02_14 (by decide) ?_
      exact ww_zret (pc := 18) X dJ0_isLatin1_aae02_18 (by cases hF; rfl) rfl
set_option maxRecDepth 100000 in
set_option maxHeartbeats 4000000 in
theorem kJ0_isLatin1_aae02_K11 (l : Launch) (G : gG) {ex : gEx} (hZ : ∀ s : State, G.2.2.2 s → kC ex (gA G zC.1) s) (hG : gOK G zC.1) (hT : G.2.2.1.map (fun q => q.2) = zC.2.1) (σ : gS) (out : Int32) (hF : fJ0_isLatin1_aae02_K11 σ = some out) : gCi l yJ0_isLatin1_aae02 wsJ0_isLatin1_aae02 rmJ0_isLatin1_aae02 G zC [.ref (ex.1 11)] σ out σ :=
  gEnter (by decide) rfl ⟨rfl, rfl⟩ hG hT (Nat.le_of_ble_eq_true rfl) rfl (fun M X hl => wJ0_isLatin1_aae02_K11 X hZ σ hF)
noncomputable def fJ1_charAt_3b067_V11 (σ : gS) (p1 : Int32) : Option (Int32) :=
  bd (fJ0_checkIndex_df160 σ p1 3) fun u2 => gd (gb p1 3) <| nm ((bytC 11) p1.toNatClampNeg) fun v3 => some (vp_nar .char (((v3 &&& 255).toUInt32 % 65536).toInt32))
set_option maxRecDepth 100000 in
set_option maxHeartbeats 4000000 in
theorem wJ1_charAt_3b067_V11 {M : gM} {G : gG} {out : Int32} (X : gX M G zC cJ1_charAt_3b067 RJ1 2 wsJ1_charAt_3b067 rmJ1_charAt_3b067 (some .char)) {ex : gEx} (hZ : ∀ s : State, G.2.2.2 s → kC ex (gA G zC.1) s) (σ : gS) (p1 : Int32) (hF : fJ1_charAt_3b067_V11 σ p1 = some out) : WW M (gQi M G zC out σ) G zC 2 σ 0 [(0, .ref (ex.2.1 11)), (1, .int p1)] [] := by
  unfold fJ1_charAt_3b067_V11 at hF
  refine ww_iload_n (pc := 0) X (j := 1) dJ1_charAt_3b067_0 rfl rfl ?_
  refine ww_aload_n (pc := 1) X (j := 0) dJ1_charAt_3b067_1 rfl rfl ?_
  refine ww_lenE (pc := 2) X (N := 3) (v := 3) dJ1_charAt_3b067_2 (eC_bytes (hZ _ (gXk X)) 11 (by decide)) (by decide) ?_
  obtain ⟨u2, h1, hF⟩ := bd_some hF
  refine ww_callSv (pc := 3) X (As := [.int p1, .int 3]) (rest := []) dJ1_charAt_3b067_3 (kJ0_checkIndex_df160 (mL M) G hZ X.2.2.2.2.2.2.1 X.2.2.2.2.2.2.2.1 σ p1 3 h1) rfl gJ1_charAt_3b067_J0_checkIndex_df160 hyJ0_checkIndex_df160 ⟨rfl, rfl⟩ ⟨Nat.le_of_ble_eq_true rfl, Nat.le_of_ble_eq_true rfl⟩ rfl rfl (Nat.le_of_ble_eq_true rfl) ?_
  refine ww_aload_n (pc := 6) X (j := 0) dJ1_charAt_3b067_6 rfl rfl ?_
  refine ww_iload_n (pc := 7) X (j := 1) dJ1_charAt_3b067_7 rfl rfl ?_
  refine ww_tbE (pc := 8) X (N := 3) (g := (bytC 11)) dJ1_charAt_3b067_8 (eC_bytes (hZ _ (gXk X)) 11 (by decide)) hF (fun v3 ev3 bv3 hF => ?_)
  refine ww_sipush (pc := 9) X (v := 255) dJ1_charAt_3b067_9 (by decide) ?_
  refine ww_iand (pc := 12) X dJ1_charAt_3b067_12 ?_
  refine ww_i2c (pc := 13) X dJ1_charAt_3b067_13 ?_
  exact ww_nret (pc := 14) X dJ1_charAt_3b067_14 rfl (Option.some.inj hF) rfl
set_option maxRecDepth 100000 in
set_option maxHeartbeats 4000000 in
theorem kJ1_charAt_3b067_V11 (l : Launch) (G : gG) {ex : gEx} (hZ : ∀ s : State, G.2.2.2 s → kC ex (gA G zC.1) s) (hG : gOK G zC.1) (hT : G.2.2.1.map (fun q => q.2) = zC.2.1) (σ : gS) (p1 : Int32) (out : Int32) (hF : fJ1_charAt_3b067_V11 σ p1 = some out) : gCi l yJ1_charAt_3b067 wsJ1_charAt_3b067 rmJ1_charAt_3b067 G zC [.ref (ex.2.1 11), .int p1] σ out σ :=
  gEnter (by decide) rfl ⟨rfl, rfl⟩ hG hT (Nat.le_of_ble_eq_true rfl) rfl (fun M X hl => wJ1_charAt_3b067_V11 X hZ σ p1 hF)
noncomputable def fJ0_charAt_5068e_K11 (σ : gS) (p1 : Int32) : Option (Int32) :=
  bd (fJ0_isLatin1_aae02_K11 σ) fun r2 => (if r2 = 0 then none else bd (fJ1_charAt_3b067_V11 σ p1) fun r5 => some (vp_nar .char r5))
set_option maxRecDepth 100000 in
set_option maxHeartbeats 4000000 in
theorem wJ0_charAt_5068e_K11 {M : gM} {G : gG} {out : Int32} (X : gX M G zC cJ0_charAt_5068e RJ0 2 wsJ0_charAt_5068e rmJ0_charAt_5068e (some .char)) {ex : gEx} (hZ : ∀ s : State, G.2.2.2 s → kC ex (gA G zC.1) s) (σ : gS) (p1 : Int32) (hF : fJ0_charAt_5068e_K11 σ p1 = some out) : WW M (gQi M G zC out σ) G zC 2 σ 0 [(0, .ref (ex.1 11)), (1, .int p1)] [] := by
  unfold fJ0_charAt_5068e_K11 at hF
  refine ww_aload_n (pc := 0) X (j := 0) dJ0_charAt_5068e_0 rfl rfl ?_
  obtain ⟨r2, h1, hF⟩ := bd_some hF
  refine ww_callXi (pc := 1) X (As := []) (rest := []) dJ0_charAt_5068e_1 (kJ0_isLatin1_aae02_K11 (mL M) G hZ X.2.2.2.2.2.2.1 X.2.2.2.2.2.2.2.1 σ r2 h1) rfl ((hZ _ (gXk X)).1.1 11 (by decide)).1 gJ0_charAt_5068e_J0_isLatin1_aae02 hyJ0_isLatin1_aae02 ⟨rfl, rfl⟩ ⟨Nat.le_of_ble_eq_true rfl, Nat.le_of_ble_eq_true rfl⟩ rfl rfl (Nat.le_of_ble_eq_true rfl) ?_
  refine ww_if_eq (pc := 4) (tgt := 16) X dJ0_charAt_5068e_4 (by decide) hF (fun h3 hF => ?_) (fun h3 hF => ?_)
  · refine ww_aload_n (pc := 16) X (j := 0) dJ0_charAt_5068e_16 rfl rfl ?_
    refine ww_getE (pc := 17) X dJ0_charAt_5068e_17 (eC_value (hZ _ (gXk X)) 11 (by decide)) (List.mem_of_getElem? (i := 1) rfl) rfl ?_
    refine ww_iload_n (pc := 20) X (j := 1) dJ0_charAt_5068e_20 rfl rfl ?_
    cases hF
  · refine ww_aload_n (pc := 7) X (j := 0) dJ0_charAt_5068e_7 rfl rfl ?_
    refine ww_getE (pc := 8) X dJ0_charAt_5068e_8 (eC_value (hZ _ (gXk X)) 11 (by decide)) (List.mem_of_getElem? (i := 1) rfl) rfl ?_
    refine ww_iload_n (pc := 11) X (j := 1) dJ0_charAt_5068e_11 rfl rfl ?_
    obtain ⟨r5, h4, hF⟩ := bd_some hF
    refine ww_callSi (pc := 12) X (As := [.ref (ex.2.1 11), .int p1]) (rest := []) dJ0_charAt_5068e_12 (kJ1_charAt_3b067_V11 (mL M) G hZ X.2.2.2.2.2.2.1 X.2.2.2.2.2.2.2.1 σ p1 r5 h4) rfl gJ0_charAt_5068e_J1_charAt_3b067 hyJ1_charAt_3b067 ⟨rfl, rfl⟩ ⟨Nat.le_of_ble_eq_true rfl, Nat.le_of_ble_eq_true rfl⟩ rfl rfl (Nat.le_of_ble_eq_true rfl) ?_
    exact ww_nret (pc := 15) X dJ0_charAt_5068e_15 rfl (Option.some.inj hF) rfl
set_option maxRecDepth 100000 in
set_option maxHeartbeats 4000000 in
theorem kJ0_charAt_5068e_K11 (l : Launch) (G : gG) {ex : gEx} (hZ : ∀ s : State, G.2.2.2 s → kC ex (gA G zC.1) s) (hG : gOK G zC.1) (hT : G.2.2.1.map (fun q => q.2) = zC.2.1) (σ : gS) (p1 : Int32) (out : Int32) (hF : fJ0_charAt_5068e_K11 σ p1 = some out) : gCi l yJ0_charAt_5068e wsJ0_charAt_5068e rmJ0_charAt_5068e G zC [.ref (ex.1 11), .int p1] σ out σ :=
  gEnter (by decide) rfl ⟨rfl, rfl⟩ hG hT (Nat.le_of_ble_eq_true rfl) rfl (fun M X hl => wJ0_charAt_5068e_K11 X hZ σ p1 hF)
noncomputable def bX3_isWord_K11_20 (σ : gS) (rec20 : Int32 → Option (Int32)) (a2 : Int32) : Option (Int32) :=
  bd (fJ0_length_8abf5_K11 σ) fun r6 => (if r6 ≤ a2 then some 1 else gd (gb ((σ.1 46 6) + a2) 1600) <| nm (σ.1 1 ((σ.1 46 6) + a2).toNatClampNeg) fun v8 => bd (fJ0_charAt_5068e_K11 σ a2) fun r10 => (if v8 = r10 then nm (a2 + 1 : Int32) fun x12 => rec20 x12 else some 0))
noncomputable def fX3_isWord_K11 (σ : gS) : Option (Int32) :=
  bd (fJ0_length_8abf5_K11 σ) fun r2 => (if ((σ.1 46 7) - (σ.1 46 6)) = r2 then nm (0 : Int32) fun x4 => lpc (S := Int32) K9 (fun rec s => bX3_isWord_K11_20 σ (fun a2 => rec (a2)) s) (x4) else some 0)
set_option maxRecDepth 100000 in
set_option maxHeartbeats 4000000 in
theorem wbX3_isWord_K11_20 {M : gM} {G : gG} {out : Int32} (X : gX M G zC cX3_isWord RX3 3 wsX3_isWord rmX3_isWord (some .boolean)) {ex : gEx} (hZ : ∀ s : State, G.2.2.2 s → kC ex (gA G zC.1) s) (σ : gS) (rec20 : Int32 → Option (Int32)) (ih20 : ∀ (a2 : Int32), rec20 a2 = some out → WW M (gQi M G zC out σ) G zC 3 σ 20 [(0, .ref (G.2.1 46)), (1, .ref (ex.1 11)), (2, .int a2)] []) (a2 : Int32) (hF : bX3_isWord_K11_20 σ rec20 a2 = some out) : WW M (gQi M G zC out σ) G zC 3 σ 20 [(0, .ref (G.2.1 46)), (1, .ref (ex.1 11)), (2, .int a2)] [] := by
  unfold bX3_isWord_K11_20 at hF
  refine ww_iload_n (pc := 20) X (j := 2) dX3_isWord_20 rfl rfl ?_
  refine ww_aload_n (pc := 21) X (j := 1) dX3_isWord_21 rfl rfl ?_
  obtain ⟨r6, h5, hF⟩ := bd_some hF
  refine ww_callXi (pc := 22) X (As := []) (rest := [.int a2]) dX3_isWord_22 (kJ0_length_8abf5_K11 (mL M) G hZ X.2.2.2.2.2.2.1 X.2.2.2.2.2.2.2.1 σ r6 h5) rfl ((hZ _ (gXk X)).1.1 11 (by decide)).1 gX3_isWord_J0_length_8abf5 hyJ0_length_8abf5 ⟨rfl, rfl⟩ ⟨Nat.le_of_ble_eq_true rfl, Nat.le_of_ble_eq_true rfl⟩ rfl rfl (Nat.le_of_ble_eq_true rfl) ?_
  refine ww_icmp_ge (pc := 25) (tgt := 55) X dX3_isWord_25 (by decide) hF (fun h7 hF => ?_) (fun h7 hF => ?_)
  · refine ww_iconst (pc := 55) X (v := 1) dX3_isWord_55 (by decide) ?_
    exact ww_zret (pc := 56) X dX3_isWord_56 (by cases hF; rfl) rfl
  · refine ww_aload_n (pc := 28) X (j := 0) dX3_isWord_28 rfl rfl ?_
    refine ww_get (pc := 29) X (ref := "PictureBlock$Reader") (T := TX3) (j := 0) dX3_isWord_29 inX3_isWord_RX3 shzC_46 clzC_3 (by decide) rfl (List.mem_of_getElem? (i := 3) rfl) rfl ?_
    refine ww_aload_n (pc := 32) X (j := 0) dX3_isWord_32 rfl rfl ?_
    refine ww_get (pc := 33) X (ref := "PictureBlock$Reader") (T := TX3) (j := 6) dX3_isWord_33 inX3_isWord_RX3 shzC_46 clzC_3 (by decide) rfl (List.mem_of_getElem? (i := 2) rfl) rfl ?_
    refine ww_iload_n (pc := 36) X (j := 2) dX3_isWord_36 rfl rfl ?_
    refine ww_iadd (pc := 37) X dX3_isWord_37 ?_
    refine ww_iald (pc := 38) X dX3_isWord_38 shzC_1 rfl hF (fun v8 ev8 bv8 hF => ?_)
    refine ww_aload_n (pc := 39) X (j := 1) dX3_isWord_39 rfl rfl ?_
    refine ww_iload_n (pc := 40) X (j := 2) dX3_isWord_40 rfl rfl ?_
    obtain ⟨r10, h9, hF⟩ := bd_some hF
    refine ww_callXi (pc := 41) X (As := [.int a2]) (rest := [.int v8]) dX3_isWord_41 (kJ0_charAt_5068e_K11 (mL M) G hZ X.2.2.2.2.2.2.1 X.2.2.2.2.2.2.2.1 σ a2 r10 h9) rfl ((hZ _ (gXk X)).1.1 11 (by decide)).1 gX3_isWord_J0_charAt_5068e hyJ0_charAt_5068e ⟨rfl, rfl⟩ ⟨Nat.le_of_ble_eq_true rfl, Nat.le_of_ble_eq_true rfl⟩ rfl rfl (Nat.le_of_ble_eq_true rfl) ?_
    refine ww_icmp_eq (pc := 44) (tgt := 49) X dX3_isWord_44 (by decide) hF (fun h11 hF => ?_) (fun h11 hF => ?_)
    · refine ww_iinc (pc := 49) X (j := 2) (v := 1) (lv' := [(0, .ref (G.2.1 46)), (1, .ref (ex.1 11))]) dX3_isWord_49 rfl rfl (by decide) rfl hF (fun x12 ex12 hF => ?_)
      refine ww_goto (pc := 52) X (tgt := 20) dX3_isWord_52 (by decide) ?_
      exact ww_sub [1, 2, 0] rfl (ih20 x12 hF)
    · refine ww_iconst (pc := 47) X (v := 0) dX3_isWord_47 (by decide) ?_
      exact ww_zret (pc := 48) X dX3_isWord_48 (by cases hF; rfl) rfl
set_option maxRecDepth 100000 in
set_option maxHeartbeats 4000000 in
theorem wX3_isWord_K11 {M : gM} {G : gG} {out : Int32} (X : gX M G zC cX3_isWord RX3 3 wsX3_isWord rmX3_isWord (some .boolean)) {ex : gEx} (hZ : ∀ s : State, G.2.2.2 s → kC ex (gA G zC.1) s) (σ : gS) (hF : fX3_isWord_K11 σ = some out) : WW M (gQi M G zC out σ) G zC 3 σ 0 [(0, .ref (G.2.1 46)), (1, .ref (ex.1 11))] [] := by
  unfold fX3_isWord_K11 at hF
  refine ww_aload_n (pc := 0) X (j := 0) dX3_isWord_0 rfl rfl ?_
  refine ww_get (pc := 1) X (ref := "PictureBlock$Reader") (T := TX3) (j := 7) dX3_isWord_1 inX3_isWord_RX3 shzC_46 clzC_3 (by decide) rfl (List.mem_of_getElem? (i := 1) rfl) rfl ?_
  refine ww_aload_n (pc := 4) X (j := 0) dX3_isWord_4 rfl rfl ?_
  refine ww_get (pc := 5) X (ref := "PictureBlock$Reader") (T := TX3) (j := 6) dX3_isWord_5 inX3_isWord_RX3 shzC_46 clzC_3 (by decide) rfl (List.mem_of_getElem? (i := 2) rfl) rfl ?_
  refine ww_isub (pc := 8) X dX3_isWord_8 ?_
  refine ww_aload_n (pc := 9) X (j := 1) dX3_isWord_9 rfl rfl ?_
  obtain ⟨r2, h1, hF⟩ := bd_some hF
  refine ww_callXi (pc := 10) X (As := []) (rest := [.int ((σ.1 46 7) - (σ.1 46 6))]) dX3_isWord_10 (kJ0_length_8abf5_K11 (mL M) G hZ X.2.2.2.2.2.2.1 X.2.2.2.2.2.2.2.1 σ r2 h1) rfl ((hZ _ (gXk X)).1.1 11 (by decide)).1 gX3_isWord_J0_length_8abf5 hyJ0_length_8abf5 ⟨rfl, rfl⟩ ⟨Nat.le_of_ble_eq_true rfl, Nat.le_of_ble_eq_true rfl⟩ rfl rfl (Nat.le_of_ble_eq_true rfl) ?_
  refine ww_icmp_eq (pc := 13) (tgt := 18) X dX3_isWord_13 (by decide) hF (fun h3 hF => ?_) (fun h3 hF => ?_)
  · refine ww_iconst (pc := 18) X (v := 0) dX3_isWord_18 (by decide) ?_
    refine ww_istore_n (pc := 19) X (lv' := [(0, .ref (G.2.1 46)), (1, .ref (ex.1 11))]) dX3_isWord_19 rfl (by decide) rfl hF (fun x4 ex4 hF => ?_)
    exact ww_sub [1, 2, 0] rfl (lpc_ind (P := (fun (s : Int32) => WW M (gQi M G zC out σ) G zC 3 σ 20 [(0, .ref (G.2.1 46)), (1, .ref (ex.1 11)), (2, .int s)] [])) (fun rec s ih hF => wbX3_isWord_K11_20 X hZ σ (fun a2 => rec (a2)) (fun a2 h => ih (a2) h) s hF) K9 (x4) hF)
  · refine ww_iconst (pc := 16) X (v := 0) dX3_isWord_16 (by decide) ?_
    exact ww_zret (pc := 17) X dX3_isWord_17 (by cases hF; rfl) rfl
set_option maxRecDepth 100000 in
set_option maxHeartbeats 4000000 in
theorem kX3_isWord_K11 (l : Launch) (G : gG) {ex : gEx} (hZ : ∀ s : State, G.2.2.2 s → kC ex (gA G zC.1) s) (hG : gOK G zC.1) (hT : G.2.2.1.map (fun q => q.2) = zC.2.1) (σ : gS) (out : Int32) (hF : fX3_isWord_K11 σ = some out) : gCi l yX3_isWord wsX3_isWord rmX3_isWord G zC [.ref (G.2.1 46), .ref (ex.1 11)] σ out σ :=
  gEnter (by decide) rfl ⟨rfl, rfl⟩ hG hT (Nat.le_of_ble_eq_true rfl) rfl (fun M X hl => wX3_isWord_K11 X hZ σ hF)
noncomputable def fX3_isOwnWord (σ : gS) : Option (Int32) :=
  bd (fX3_isWord_K0 σ) fun r2 => (if r2 = 0 then bd (fX3_isWord_K1 σ) fun r5 => (if r5 = 0 then bd (fX3_isWord_K6 σ) fun r8 => (if r8 = 0 then bd (fX3_isWord_K7 σ) fun r11 => (if r11 = 0 then bd (fX3_isWord_K8 σ) fun r14 => (if r14 = 0 then bd (fX3_isWord_K2 σ) fun r17 => (if r17 = 0 then bd (fX3_isWord_K3 σ) fun r20 => (if r20 = 0 then bd (fX3_isWord_K9 σ) fun r23 => (if r23 = 0 then bd (fX3_isWord_K10 σ) fun r26 => (if r26 = 0 then bd (fX3_isWord_K4 σ) fun r29 => (if r29 = 0 then bd (fX3_isWord_K11 σ) fun r32 => (if r32 = 0 then bd (fX3_isWord_K5 σ) fun r35 => (if r35 = 0 then some 0 else some 1) else some 1) else some 1) else some 1) else some 1) else some 1) else some 1) else some 1) else some 1) else some 1) else some 1) else some 1)
noncomputable abbrev rmX3_isOwnWord : Room := { frames := 5, cells := 0, slots := 0, locals := 107 }
set_option maxRecDepth 100000 in
set_option maxHeartbeats 4000000 in
theorem wX3_isOwnWord {M : gM} {G : gG} {out : Int32} (X : gX M G zC cX3_isOwnWord RX3 1 wsX3_isOwnWord rmX3_isOwnWord (some .boolean)) {ex : gEx} (hZ : ∀ s : State, G.2.2.2 s → kC ex (gA G zC.1) s) (σ : gS) (hF : fX3_isOwnWord σ = some out) : WW M (gQi M G zC out σ) G zC 1 σ 0 [(0, .ref (G.2.1 46))] [] := by
  unfold fX3_isOwnWord at hF
  refine ww_aload_n (pc := 0) X (j := 0) dX3_isOwnWord_0 rfl rfl ?_
  refine ww_ldcS (pc := 1) X (tx := "strip") (q := ex.1 0) dX3_isOwnWord_1 (eC_ref0 (hZ _ (gXk X))) ?_
  obtain ⟨r2, h1, hF⟩ := bd_some hF
  refine ww_callVi (pc := 3) X (As := [.ref (ex.1 0)]) (rest := []) dX3_isOwnWord_3 (kX3_isWord_K0 (mL M) G hZ X.2.2.2.2.2.2.1 X.2.2.2.2.2.2.2.1 σ r2 h1) rfl shzC_46 clzC_3 gX3_isOwnWord_X3_isWord hyX3_isWord ⟨rfl, rfl⟩ ⟨Nat.le_of_ble_eq_true rfl, Nat.le_of_ble_eq_true rfl⟩ rfl rfl (Nat.le_of_ble_eq_true rfl) ?_
  refine ww_if_ne (pc := 6) (tgt := 108) X dX3_isOwnWord_6 (by decide) hF (fun h3 hF => ?_) (fun h3 hF => ?_)
  · refine ww_iconst (pc := 108) X (v := 1) dX3_isOwnWord_108 (by decide) ?_
    refine ww_goto (pc := 109) X (tgt := 113) dX3_isOwnWord_109 (by decide) ?_
    exact ww_zret (pc := 113) X dX3_isOwnWord_113 (by cases hF; rfl) rfl
  · refine ww_aload_n (pc := 9) X (j := 0) dX3_isOwnWord_9 rfl rfl ?_
    refine ww_ldcS (pc := 10) X (tx := "picture") (q := ex.1 1) dX3_isOwnWord_10 (eC_ref1 (hZ _ (gXk X))) ?_
    obtain ⟨r5, h4, hF⟩ := bd_some hF
    refine ww_callVi (pc := 12) X (As := [.ref (ex.1 1)]) (rest := []) dX3_isOwnWord_12 (kX3_isWord_K1 (mL M) G hZ X.2.2.2.2.2.2.1 X.2.2.2.2.2.2.2.1 σ r5 h4) rfl shzC_46 clzC_3 gX3_isOwnWord_X3_isWord hyX3_isWord ⟨rfl, rfl⟩ ⟨Nat.le_of_ble_eq_true rfl, Nat.le_of_ble_eq_true rfl⟩ rfl rfl (Nat.le_of_ble_eq_true rfl) ?_
    refine ww_if_ne (pc := 15) (tgt := 108) X dX3_isOwnWord_15 (by decide) hF (fun h6 hF => ?_) (fun h6 hF => ?_)
    · refine ww_iconst (pc := 108) X (v := 1) dX3_isOwnWord_108 (by decide) ?_
      refine ww_goto (pc := 109) X (tgt := 113) dX3_isOwnWord_109 (by decide) ?_
      exact ww_zret (pc := 113) X dX3_isOwnWord_113 (by cases hF; rfl) rfl
    · refine ww_aload_n (pc := 18) X (j := 0) dX3_isOwnWord_18 rfl rfl ?_
      refine ww_ldcS (pc := 19) X (tx := "in") (q := ex.1 6) dX3_isOwnWord_19 (eC_ref6 (hZ _ (gXk X))) ?_
      obtain ⟨r8, h7, hF⟩ := bd_some hF
      refine ww_callVi (pc := 21) X (As := [.ref (ex.1 6)]) (rest := []) dX3_isOwnWord_21 (kX3_isWord_K6 (mL M) G hZ X.2.2.2.2.2.2.1 X.2.2.2.2.2.2.2.1 σ r8 h7) rfl shzC_46 clzC_3 gX3_isOwnWord_X3_isWord hyX3_isWord ⟨rfl, rfl⟩ ⟨Nat.le_of_ble_eq_true rfl, Nat.le_of_ble_eq_true rfl⟩ rfl rfl (Nat.le_of_ble_eq_true rfl) ?_
      refine ww_if_ne (pc := 24) (tgt := 108) X dX3_isOwnWord_24 (by decide) hF (fun h9 hF => ?_) (fun h9 hF => ?_)
      · refine ww_iconst (pc := 108) X (v := 1) dX3_isOwnWord_108 (by decide) ?_
        refine ww_goto (pc := 109) X (tgt := 113) dX3_isOwnWord_109 (by decide) ?_
        exact ww_zret (pc := 113) X dX3_isOwnWord_113 (by cases hF; rfl) rfl
      · refine ww_aload_n (pc := 27) X (j := 0) dX3_isOwnWord_27 rfl rfl ?_
        refine ww_ldcS (pc := 28) X (tx := "turn") (q := ex.1 7) dX3_isOwnWord_28 (eC_ref7 (hZ _ (gXk X))) ?_
        obtain ⟨r11, h10, hF⟩ := bd_some hF
        refine ww_callVi (pc := 30) X (As := [.ref (ex.1 7)]) (rest := []) dX3_isOwnWord_30 (kX3_isWord_K7 (mL M) G hZ X.2.2.2.2.2.2.1 X.2.2.2.2.2.2.2.1 σ r11 h10) rfl shzC_46 clzC_3 gX3_isOwnWord_X3_isWord hyX3_isWord ⟨rfl, rfl⟩ ⟨Nat.le_of_ble_eq_true rfl, Nat.le_of_ble_eq_true rfl⟩ rfl rfl (Nat.le_of_ble_eq_true rfl) ?_
        refine ww_if_ne (pc := 33) (tgt := 108) X dX3_isOwnWord_33 (by decide) hF (fun h12 hF => ?_) (fun h12 hF => ?_)
        · refine ww_iconst (pc := 108) X (v := 1) dX3_isOwnWord_108 (by decide) ?_
          refine ww_goto (pc := 109) X (tgt := 113) dX3_isOwnWord_109 (by decide) ?_
          exact ww_zret (pc := 113) X dX3_isOwnWord_113 (by cases hF; rfl) rfl
        · refine ww_aload_n (pc := 36) X (j := 0) dX3_isOwnWord_36 rfl rfl ?_
          refine ww_ldcS (pc := 37) X (tx := "any") (q := ex.1 8) dX3_isOwnWord_37 (eC_ref8 (hZ _ (gXk X))) ?_
          obtain ⟨r14, h13, hF⟩ := bd_some hF
          refine ww_callVi (pc := 39) X (As := [.ref (ex.1 8)]) (rest := []) dX3_isOwnWord_39 (kX3_isWord_K8 (mL M) G hZ X.2.2.2.2.2.2.1 X.2.2.2.2.2.2.2.1 σ r14 h13) rfl shzC_46 clzC_3 gX3_isOwnWord_X3_isWord hyX3_isWord ⟨rfl, rfl⟩ ⟨Nat.le_of_ble_eq_true rfl, Nat.le_of_ble_eq_true rfl⟩ rfl rfl (Nat.le_of_ble_eq_true rfl) ?_
          refine ww_if_ne (pc := 42) (tgt := 108) X dX3_isOwnWord_42 (by decide) hF (fun h15 hF => ?_) (fun h15 hF => ?_)
          · refine ww_iconst (pc := 108) X (v := 1) dX3_isOwnWord_108 (by decide) ?_
            refine ww_goto (pc := 109) X (tgt := 113) dX3_isOwnWord_109 (by decide) ?_
            exact ww_zret (pc := 113) X dX3_isOwnWord_113 (by cases hF; rfl) rfl
          · refine ww_aload_n (pc := 45) X (j := 0) dX3_isOwnWord_45 rfl rfl ?_
            refine ww_ldcS (pc := 46) X (tx := "point") (q := ex.1 2) dX3_isOwnWord_46 (eC_ref2 (hZ _ (gXk X))) ?_
            obtain ⟨r17, h16, hF⟩ := bd_some hF
            refine ww_callVi (pc := 48) X (As := [.ref (ex.1 2)]) (rest := []) dX3_isOwnWord_48 (kX3_isWord_K2 (mL M) G hZ X.2.2.2.2.2.2.1 X.2.2.2.2.2.2.2.1 σ r17 h16) rfl shzC_46 clzC_3 gX3_isOwnWord_X3_isWord hyX3_isWord ⟨rfl, rfl⟩ ⟨Nat.le_of_ble_eq_true rfl, Nat.le_of_ble_eq_true rfl⟩ rfl rfl (Nat.le_of_ble_eq_true rfl) ?_
            refine ww_if_ne (pc := 51) (tgt := 108) X dX3_isOwnWord_51 (by decide) hF (fun h18 hF => ?_) (fun h18 hF => ?_)
            · refine ww_iconst (pc := 108) X (v := 1) dX3_isOwnWord_108 (by decide) ?_
              refine ww_goto (pc := 109) X (tgt := 113) dX3_isOwnWord_109 (by decide) ?_
              exact ww_zret (pc := 113) X dX3_isOwnWord_113 (by cases hF; rfl) rfl
            · refine ww_aload_n (pc := 54) X (j := 0) dX3_isOwnWord_54 rfl rfl ?_
              refine ww_ldcS (pc := 55) X (tx := "row") (q := ex.1 3) dX3_isOwnWord_55 (eC_ref3 (hZ _ (gXk X))) ?_
              obtain ⟨r20, h19, hF⟩ := bd_some hF
              refine ww_callVi (pc := 57) X (As := [.ref (ex.1 3)]) (rest := []) dX3_isOwnWord_57 (kX3_isWord_K3 (mL M) G hZ X.2.2.2.2.2.2.1 X.2.2.2.2.2.2.2.1 σ r20 h19) rfl shzC_46 clzC_3 gX3_isOwnWord_X3_isWord hyX3_isWord ⟨rfl, rfl⟩ ⟨Nat.le_of_ble_eq_true rfl, Nat.le_of_ble_eq_true rfl⟩ rfl rfl (Nat.le_of_ble_eq_true rfl) ?_
              refine ww_if_ne (pc := 60) (tgt := 108) X dX3_isOwnWord_60 (by decide) hF (fun h21 hF => ?_) (fun h21 hF => ?_)
              · refine ww_iconst (pc := 108) X (v := 1) dX3_isOwnWord_108 (by decide) ?_
                refine ww_goto (pc := 109) X (tgt := 113) dX3_isOwnWord_109 (by decide) ?_
                exact ww_zret (pc := 113) X dX3_isOwnWord_113 (by cases hF; rfl) rfl
              · refine ww_aload_n (pc := 63) X (j := 0) dX3_isOwnWord_63 rfl rfl ?_
                refine ww_ldcS (pc := 64) X (tx := "at") (q := ex.1 9) dX3_isOwnWord_64 (eC_ref9 (hZ _ (gXk X))) ?_
                obtain ⟨r23, h22, hF⟩ := bd_some hF
                refine ww_callVi (pc := 66) X (As := [.ref (ex.1 9)]) (rest := []) dX3_isOwnWord_66 (kX3_isWord_K9 (mL M) G hZ X.2.2.2.2.2.2.1 X.2.2.2.2.2.2.2.1 σ r23 h22) rfl shzC_46 clzC_3 gX3_isOwnWord_X3_isWord hyX3_isWord ⟨rfl, rfl⟩ ⟨Nat.le_of_ble_eq_true rfl, Nat.le_of_ble_eq_true rfl⟩ rfl rfl (Nat.le_of_ble_eq_true rfl) ?_
                refine ww_if_ne (pc := 69) (tgt := 108) X dX3_isOwnWord_69 (by decide) hF (fun h24 hF => ?_) (fun h24 hF => ?_)
                · refine ww_iconst (pc := 108) X (v := 1) dX3_isOwnWord_108 (by decide) ?_
                  refine ww_goto (pc := 109) X (tgt := 113) dX3_isOwnWord_109 (by decide) ?_
                  exact ww_zret (pc := 113) X dX3_isOwnWord_113 (by cases hF; rfl) rfl
                · refine ww_aload_n (pc := 72) X (j := 0) dX3_isOwnWord_72 rfl rfl ?_
                  refine ww_ldcS (pc := 73) X (tx := "weight") (q := ex.1 10) dX3_isOwnWord_73 (eC_ref10 (hZ _ (gXk X))) ?_
                  obtain ⟨r26, h25, hF⟩ := bd_some hF
                  refine ww_callVi (pc := 75) X (As := [.ref (ex.1 10)]) (rest := []) dX3_isOwnWord_75 (kX3_isWord_K10 (mL M) G hZ X.2.2.2.2.2.2.1 X.2.2.2.2.2.2.2.1 σ r26 h25) rfl shzC_46 clzC_3 gX3_isOwnWord_X3_isWord hyX3_isWord ⟨rfl, rfl⟩ ⟨Nat.le_of_ble_eq_true rfl, Nat.le_of_ble_eq_true rfl⟩ rfl rfl (Nat.le_of_ble_eq_true rfl) ?_
                  refine ww_if_ne (pc := 78) (tgt := 108) X dX3_isOwnWord_78 (by decide) hF (fun h27 hF => ?_) (fun h27 hF => ?_)
                  · refine ww_iconst (pc := 108) X (v := 1) dX3_isOwnWord_108 (by decide) ?_
                    refine ww_goto (pc := 109) X (tgt := 113) dX3_isOwnWord_109 (by decide) ?_
                    exact ww_zret (pc := 113) X dX3_isOwnWord_113 (by cases hF; rfl) rfl
                  · refine ww_aload_n (pc := 81) X (j := 0) dX3_isOwnWord_81 rfl rfl ?_
                    refine ww_ldcS (pc := 82) X (tx := "control") (q := ex.1 4) dX3_isOwnWord_82 (eC_ref4 (hZ _ (gXk X))) ?_
                    obtain ⟨r29, h28, hF⟩ := bd_some hF
                    refine ww_callVi (pc := 84) X (As := [.ref (ex.1 4)]) (rest := []) dX3_isOwnWord_84 (kX3_isWord_K4 (mL M) G hZ X.2.2.2.2.2.2.1 X.2.2.2.2.2.2.2.1 σ r29 h28) rfl shzC_46 clzC_3 gX3_isOwnWord_X3_isWord hyX3_isWord ⟨rfl, rfl⟩ ⟨Nat.le_of_ble_eq_true rfl, Nat.le_of_ble_eq_true rfl⟩ rfl rfl (Nat.le_of_ble_eq_true rfl) ?_
                    refine ww_if_ne (pc := 87) (tgt := 108) X dX3_isOwnWord_87 (by decide) hF (fun h30 hF => ?_) (fun h30 hF => ?_)
                    · refine ww_iconst (pc := 108) X (v := 1) dX3_isOwnWord_108 (by decide) ?_
                      refine ww_goto (pc := 109) X (tgt := 113) dX3_isOwnWord_109 (by decide) ?_
                      exact ww_zret (pc := 113) X dX3_isOwnWord_113 (by cases hF; rfl) rfl
                    · refine ww_aload_n (pc := 90) X (j := 0) dX3_isOwnWord_90 rfl rfl ?_
                      refine ww_ldcS (pc := 91) X (tx := "set") (q := ex.1 11) dX3_isOwnWord_91 (eC_ref11 (hZ _ (gXk X))) ?_
                      obtain ⟨r32, h31, hF⟩ := bd_some hF
                      refine ww_callVi (pc := 93) X (As := [.ref (ex.1 11)]) (rest := []) dX3_isOwnWord_93 (kX3_isWord_K11 (mL M) G hZ X.2.2.2.2.2.2.1 X.2.2.2.2.2.2.2.1 σ r32 h31) rfl shzC_46 clzC_3 gX3_isOwnWord_X3_isWord hyX3_isWord ⟨rfl, rfl⟩ ⟨Nat.le_of_ble_eq_true rfl, Nat.le_of_ble_eq_true rfl⟩ rfl rfl (Nat.le_of_ble_eq_true rfl) ?_
                      refine ww_if_ne (pc := 96) (tgt := 108) X dX3_isOwnWord_96 (by decide) hF (fun h33 hF => ?_) (fun h33 hF => ?_)
                      · refine ww_iconst (pc := 108) X (v := 1) dX3_isOwnWord_108 (by decide) ?_
                        refine ww_goto (pc := 109) X (tgt := 113) dX3_isOwnWord_109 (by decide) ?_
                        exact ww_zret (pc := 113) X dX3_isOwnWord_113 (by cases hF; rfl) rfl
                      · refine ww_aload_n (pc := 99) X (j := 0) dX3_isOwnWord_99 rfl rfl ?_
                        refine ww_ldcS (pc := 100) X (tx := "centre") (q := ex.1 5) dX3_isOwnWord_100 (eC_ref5 (hZ _ (gXk X))) ?_
                        obtain ⟨r35, h34, hF⟩ := bd_some hF
                        refine ww_callVi (pc := 102) X (As := [.ref (ex.1 5)]) (rest := []) dX3_isOwnWord_102 (kX3_isWord_K5 (mL M) G hZ X.2.2.2.2.2.2.1 X.2.2.2.2.2.2.2.1 σ r35 h34) rfl shzC_46 clzC_3 gX3_isOwnWord_X3_isWord hyX3_isWord ⟨rfl, rfl⟩ ⟨Nat.le_of_ble_eq_true rfl, Nat.le_of_ble_eq_true rfl⟩ rfl rfl (Nat.le_of_ble_eq_true rfl) ?_
                        refine ww_if_eq (pc := 105) (tgt := 112) X dX3_isOwnWord_105 (by decide) hF (fun h36 hF => ?_) (fun h36 hF => ?_)
                        · refine ww_iconst (pc := 112) X (v := 0) dX3_isOwnWord_112 (by decide) ?_
                          exact ww_zret (pc := 113) X dX3_isOwnWord_113 (by cases hF; rfl) rfl
                        · refine ww_iconst (pc := 108) X (v := 1) dX3_isOwnWord_108 (by decide) ?_
                          refine ww_goto (pc := 109) X (tgt := 113) dX3_isOwnWord_109 (by decide) ?_
                          exact ww_zret (pc := 113) X dX3_isOwnWord_113 (by cases hF; rfl) rfl
set_option maxRecDepth 100000 in
set_option maxHeartbeats 4000000 in
theorem kX3_isOwnWord (l : Launch) (G : gG) {ex : gEx} (hZ : ∀ s : State, G.2.2.2 s → kC ex (gA G zC.1) s) (hG : gOK G zC.1) (hT : G.2.2.1.map (fun q => q.2) = zC.2.1) (σ : gS) (out : Int32) (hF : fX3_isOwnWord σ = some out) : gCi l yX3_isOwnWord wsX3_isOwnWord rmX3_isOwnWord G zC [.ref (G.2.1 46)] σ out σ :=
  gEnter (by decide) rfl ⟨rfl, rfl⟩ hG hT (Nat.le_of_ble_eq_true rfl) rfl (fun M X hl => wX3_isOwnWord X hZ σ hF)
