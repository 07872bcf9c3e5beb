noncomputable def fX9_copyAll (σ : gS) (p0 : Nat) (p1 : Nat) : Option (gS) :=
  gd (gis zC.1 0 0 p0) <| gd (gis zC.1 0 0 p1) <| gd (gis zC.1 0 0 p0) <| gd (gis zC.1 0 0 p1) <| gd (gcb 0 0 (if (Int32.ofNat (gsz zC.1 0 0 p1)) < (Int32.ofNat (gsz zC.1 0 0 p0)) then (Int32.ofNat (gsz zC.1 0 0 p1)) else (Int32.ofNat (gsz zC.1 0 0 p0))) (gsz zC.1 0 0 p0) (gsz zC.1 0 0 p1)) <| nm (gcp σ p0 p1 ((0 : Int32).toNatClampNeg) ((0 : Int32).toNatClampNeg) (if (Int32.ofNat (gsz zC.1 0 0 p1)) < (Int32.ofNat (gsz zC.1 0 0 p0)) then (Int32.ofNat (gsz zC.1 0 0 p1)) else (Int32.ofNat (gsz zC.1 0 0 p0))).toNatClampNeg) fun σ3 => some σ3
noncomputable abbrev rmX9_copyAll : Room := { frames := 1, cells := 0, slots := 0, locals := 32 }
set_option maxRecDepth 100000 in
set_option maxHeartbeats 4000000 in
theorem wX9_copyAll {M : gM} {G : gG} {out : gS} (X : gX M G zC cX9_copyAll RX9 2 wsX9_copyAll rmX9_copyAll none) {ex : gEx} (hZ : ∀ s : State, G.2.2.2 s → kC ex (gA G zC.1) s) (σ : gS) (p0 : Nat) (p1 : Nat) (hF : fX9_copyAll σ p0 p1 = some out) : WW M (gQv M G zC out) G zC 2 σ 0 [(0, .ref (G.2.1 p0)), (1, .ref (G.2.1 p1))] [] := by
  unfold fX9_copyAll at hF
  refine ww_aload_n (pc := 0) X (j := 0) dX9_copyAll_0 rfl rfl ?_
  refine ww_iconst (pc := 1) X (v := 0) dX9_copyAll_1 (by decide) ?_
  refine ww_aload_n (pc := 2) X (j := 1) dX9_copyAll_2 rfl rfl ?_
  refine ww_iconst (pc := 3) X (v := 0) dX9_copyAll_3 (by decide) ?_
  refine ww_aload_n (pc := 4) X (j := 0) dX9_copyAll_4 rfl rfl ?_
  refine ww_alenS (pc := 5) X (by decide) dX9_copyAll_5 (t := 0) rfl hF (fun h1 hF => ?_)
  refine ww_aload_n (pc := 6) X (j := 1) dX9_copyAll_6 rfl rfl ?_
  refine ww_alenS (pc := 7) X (by decide) dX9_copyAll_7 (t := 0) rfl hF (fun h2 hF => ?_)
  refine ww_mmin (pc := 8) X dX9_copyAll_8 (List.mem_of_getElem? (i := 1) rfl) (List.mem_of_getElem? (i := 2) rfl) (List.mem_of_getElem? (i := 3) rfl) (List.mem_of_getElem? (i := 4) rfl) ⟨Nat.le_of_ble_eq_true rfl, Nat.le_of_ble_eq_true rfl⟩ ?_
  refine ww_copyS (pc := 11) X (t := 0) dX9_copyAll_11 (List.mem_of_getElem? (i := 5) rfl) (List.mem_of_getElem? (i := 6) rfl) (List.mem_of_getElem? (i := 7) rfl) (List.mem_of_getElem? (i := 8) rfl) rfl ⟨Nat.le_of_ble_eq_true rfl, Nat.le_of_ble_eq_true rfl⟩ hF (fun σ3 eσ3 hF => ?_)
  exact ww_vret (pc := 14) X dX9_copyAll_14 (by cases hF; rfl)
set_option maxRecDepth 100000 in
set_option maxHeartbeats 4000000 in
theorem kX9_copyAll (l : Launch) (G : gG) {ex : gEx} (hZ : ∀ s : State, G.2.2.2 s → kC ex (gA G zC.1) s) (hG : gOK G zC.1) (hT : G.2.2.1.map (fun q => q.2) = zC.2.1) (σ : gS) (p0 : Nat) (p1 : Nat) (out : gS) (hF : fX9_copyAll σ p0 p1 = some out) : gCv l yX9_copyAll wsX9_copyAll rmX9_copyAll G zC [.ref (G.2.1 p0), .ref (G.2.1 p1)] σ out :=
  gEnter (by decide) rfl ⟨rfl, rfl⟩ hG hT (Nat.le_of_ble_eq_true rfl) rfl (fun M X hl => wX9_copyAll X hZ σ p0 p1 hF)
noncomputable def bX8_takeFrom_2_24_118 (σ : gS) (rec118 : Int32 → gS → Option (gS)) (a2 : Int32) (σ1 : gS) : Option (gS) :=
  if 2 ≤ a2 then some σ1 else gd (gb a2 2) <| gd (gb a2 2) <| bd (fX9_copyAll σ1 (35 + a2.toNatClampNeg) (13 + a2.toNatClampNeg)) fun σ24 => gd (gb a2 2) <| gd (gb a2 2) <| bd (fX9_copyAll σ24 (40 + a2.toNatClampNeg) (18 + a2.toNatClampNeg)) fun σ28 => gd (gb a2 2) <| gd (gb a2 2) <| bd (fX9_copyAll σ28 (44 + a2.toNatClampNeg) (22 + a2.toNatClampNeg)) fun σ32 => nm (a2 + 1 : Int32) fun x33 => rec118 x33 σ32
noncomputable def bX8_takeFrom_2_24_13 (σ : gS) (rec13 : Int32 → gS → Option (gS)) (a2 : Int32) (σ1 : gS) : Option (gS) :=
  if 2 < a2 then bd (fX9_copyAll σ1 30 8) fun σ6 => bd (fX9_copyAll σ6 31 9) fun σ8 => bd (fX9_copyAll σ8 32 10) fun σ10 => bd (fX9_copyAll σ10 33 11) fun σ12 => bd (fX9_copyAll σ12 37 15) fun σ14 => bd (fX9_copyAll σ14 38 16) fun σ16 => bd (fX9_copyAll σ16 42 20) fun σ18 => nm (0 : Int32) fun x19 => lpc (S := Int32 × gS) K9 (fun rec s => bX8_takeFrom_2_24_118 σ18 (fun a2 σ1 => rec (a2, σ1)) s.1 s.2) (x19, σ18) else gd (gb a2 3) <| gd (gb a2 3) <| bd (fX9_copyAll σ1 (27 + a2.toNatClampNeg) (5 + a2.toNatClampNeg)) fun σ37 => nm (a2 + 1 : Int32) fun x38 => rec13 x38 σ37
noncomputable def fX8_takeFrom_2_24 (σ : gS) : Option (gS) :=
  bd (fX9_copyAll σ 25 3) fun σ2 => nm (0 : Int32) fun x3 => lpc (S := Int32 × gS) K9 (fun rec s => bX8_takeFrom_2_24_13 σ2 (fun a2 σ1 => rec (a2, σ1)) s.1 s.2) (x3, σ2)
noncomputable abbrev rmX8_takeFrom : Room := { frames := 2, cells := 0, slots := 0, locals := 53 }
set_option maxRecDepth 100000 in
set_option maxHeartbeats 4000000 in
theorem wbX8_takeFrom_2_24_118 {M : gM} {G : gG} {out : gS} (X : gX M G zC cX8_takeFrom RX8 3 wsX8_takeFrom rmX8_takeFrom none) {ex : gEx} (hZ : ∀ s : State, G.2.2.2 s → kC ex (gA G zC.1) s) (σ : gS) (rec118 : Int32 → gS → Option (gS)) (ih118 : ∀ (a2 : Int32) (σ1 : gS), rec118 a2 σ1 = some out → WW M (gQv M G zC out) G zC 3 σ1 118 [(0, .ref (G.2.1 2)), (1, .ref (G.2.1 24)), (2, .int a2)] []) (a2 : Int32) (σ1 : gS) (hF : bX8_takeFrom_2_24_118 σ rec118 a2 σ1 = some out) : WW M (gQv M G zC out) G zC 3 σ1 118 [(0, .ref (G.2.1 2)), (1, .ref (G.2.1 24)), (2, .int a2)] [] := by
  unfold bX8_takeFrom_2_24_118 at hF
  refine ww_iload_n (pc := 118) X (j := 2) dX8_takeFrom_118 rfl rfl ?_
  refine ww_iconst (pc := 119) X (v := 2) dX8_takeFrom_119 (by decide) ?_
  refine ww_icmp_ge (pc := 120) (tgt := 174) X dX8_takeFrom_120 (by decide) hF (fun h20 hF => ?_) (fun h20 hF => ?_)
  · exact ww_vret (pc := 174) X dX8_takeFrom_174 (by cases hF; rfl)
  · refine ww_aload_n (pc := 123) X (j := 1) dX8_takeFrom_123 rfl rfl ?_
    refine ww_get (pc := 124) X (ref := "PictureBlock$Told") (T := TX8) (j := 6) dX8_takeFrom_124 inX8_takeFrom_RX8 shzC_24 clzC_8 (by decide) rfl (List.mem_of_getElem? (i := 10) rfl) rfl ?_
    refine ww_iload_n (pc := 127) X (j := 2) dX8_takeFrom_127 rfl rfl ?_
    refine ww_aald (pc := 128) X dX8_takeFrom_128 shzC_34 rfl hF (fun h21 hF => ?_)
    refine ww_aload_n (pc := 129) X (j := 0) dX8_takeFrom_129 rfl rfl ?_
    refine ww_get (pc := 130) X (ref := "PictureBlock$Told") (T := TX8) (j := 6) dX8_takeFrom_130 inX8_takeFrom_RX8 shzC_2 clzC_8 (by decide) rfl (List.mem_of_getElem? (i := 10) rfl) rfl ?_
    refine ww_iload_n (pc := 133) X (j := 2) dX8_takeFrom_133 rfl rfl ?_
    refine ww_aald (pc := 134) X dX8_takeFrom_134 shzC_12 rfl hF (fun h22 hF => ?_)
    obtain ⟨σ24, h23, hF⟩ := bd_some hF
    refine ww_callNv (pc := 135) X (As := [.ref (G.2.1 (35 + a2.toNatClampNeg)), .ref (G.2.1 (13 + a2.toNatClampNeg))]) (rest := []) dX8_takeFrom_135 (kX9_copyAll (mL M) G hZ X.2.2.2.2.2.2.1 X.2.2.2.2.2.2.2.1 σ1 (35 + a2.toNatClampNeg) (13 + a2.toNatClampNeg) σ24 h23) rfl (fun s h => eC_nmX8_takeFrom_56 (hZ s h)) gX8_takeFrom_X9_copyAll_n56 (List.mem_of_getElem? (i := 13) rfl) (List.mem_of_getElem? (i := 14) rfl) hyX9_copyAll ⟨rfl, rfl⟩ ⟨Nat.le_of_ble_eq_true rfl, Nat.le_of_ble_eq_true rfl⟩ rfl rfl (Nat.le_of_ble_eq_true rfl) ?_
    refine ww_aload_n (pc := 138) X (j := 1) dX8_takeFrom_138 rfl rfl ?_
    refine ww_get (pc := 139) X (ref := "PictureBlock$Told") (T := TX8) (j := 9) dX8_takeFrom_139 inX8_takeFrom_RX8 shzC_24 clzC_8 (by decide) rfl (List.mem_of_getElem? (i := 11) rfl) rfl ?_
    refine ww_iload_n (pc := 142) X (j := 2) dX8_takeFrom_142 rfl rfl ?_
    refine ww_aald (pc := 143) X dX8_takeFrom_143 shzC_39 rfl hF (fun h25 hF => ?_)
    refine ww_aload_n (pc := 144) X (j := 0) dX8_takeFrom_144 rfl rfl ?_
    refine ww_get (pc := 145) X (ref := "PictureBlock$Told") (T := TX8) (j := 9) dX8_takeFrom_145 inX8_takeFrom_RX8 shzC_2 clzC_8 (by decide) rfl (List.mem_of_getElem? (i := 11) rfl) rfl ?_
    refine ww_iload_n (pc := 148) X (j := 2) dX8_takeFrom_148 rfl rfl ?_
    refine ww_aald (pc := 149) X dX8_takeFrom_149 shzC_17 rfl hF (fun h26 hF => ?_)
    obtain ⟨σ28, h27, hF⟩ := bd_some hF
    refine ww_callNv (pc := 150) X (As := [.ref (G.2.1 (40 + a2.toNatClampNeg)), .ref (G.2.1 (18 + a2.toNatClampNeg))]) (rest := []) dX8_takeFrom_150 (kX9_copyAll (mL M) G hZ X.2.2.2.2.2.2.1 X.2.2.2.2.2.2.2.1 σ24 (40 + a2.toNatClampNeg) (18 + a2.toNatClampNeg) σ28 h27) rfl (fun s h => eC_nmX8_takeFrom_56 (hZ s h)) gX8_takeFrom_X9_copyAll_n56 (List.mem_of_getElem? (i := 13) rfl) (List.mem_of_getElem? (i := 14) rfl) hyX9_copyAll ⟨rfl, rfl⟩ ⟨Nat.le_of_ble_eq_true rfl, Nat.le_of_ble_eq_true rfl⟩ rfl rfl (Nat.le_of_ble_eq_true rfl) ?_
    refine ww_aload_n (pc := 153) X (j := 1) dX8_takeFrom_153 rfl rfl ?_
    refine ww_get (pc := 154) X (ref := "PictureBlock$Told") (T := TX8) (j := 11) dX8_takeFrom_154 inX8_takeFrom_RX8 shzC_24 clzC_8 (by decide) rfl (List.mem_of_getElem? (i := 12) rfl) rfl ?_
    refine ww_iload_n (pc := 157) X (j := 2) dX8_takeFrom_157 rfl rfl ?_
    refine ww_aald (pc := 158) X dX8_takeFrom_158 shzC_43 rfl hF (fun h29 hF => ?_)
    refine ww_aload_n (pc := 159) X (j := 0) dX8_takeFrom_159 rfl rfl ?_
    refine ww_get (pc := 160) X (ref := "PictureBlock$Told") (T := TX8) (j := 11) dX8_takeFrom_160 inX8_takeFrom_RX8 shzC_2 clzC_8 (by decide) rfl (List.mem_of_getElem? (i := 12) rfl) rfl ?_
    refine ww_iload_n (pc := 163) X (j := 2) dX8_takeFrom_163 rfl rfl ?_
    refine ww_aald (pc := 164) X dX8_takeFrom_164 shzC_21 rfl hF (fun h30 hF => ?_)
    obtain ⟨σ32, h31, hF⟩ := bd_some hF
    refine ww_callNv (pc := 165) X (As := [.ref (G.2.1 (44 + a2.toNatClampNeg)), .ref (G.2.1 (22 + a2.toNatClampNeg))]) (rest := []) dX8_takeFrom_165 (kX9_copyAll (mL M) G hZ X.2.2.2.2.2.2.1 X.2.2.2.2.2.2.2.1 σ28 (44 + a2.toNatClampNeg) (22 + a2.toNatClampNeg) σ32 h31) rfl (fun s h => eC_nmX8_takeFrom_56 (hZ s h)) gX8_takeFrom_X9_copyAll_n56 (List.mem_of_getElem? (i := 13) rfl) (List.mem_of_getElem? (i := 14) rfl) hyX9_copyAll ⟨rfl, rfl⟩ ⟨Nat.le_of_ble_eq_true rfl, Nat.le_of_ble_eq_true rfl⟩ rfl rfl (Nat.le_of_ble_eq_true rfl) ?_
    refine ww_iinc (pc := 168) X (j := 2) (v := 1) (lv' := [(0, .ref (G.2.1 2)), (1, .ref (G.2.1 24))]) dX8_takeFrom_168 rfl rfl (by decide) rfl hF (fun x33 ex33 hF => ?_)
    refine ww_goto (pc := 171) X (tgt := 118) dX8_takeFrom_171 (by decide) ?_
    exact ww_sub [1, 2, 0] rfl (ih118 x33 σ32 hF)
set_option maxRecDepth 100000 in
set_option maxHeartbeats 4000000 in
theorem wbX8_takeFrom_2_24_13 {M : gM} {G : gG} {out : gS} (X : gX M G zC cX8_takeFrom RX8 3 wsX8_takeFrom rmX8_takeFrom none) {ex : gEx} (hZ : ∀ s : State, G.2.2.2 s → kC ex (gA G zC.1) s) (σ : gS) (rec13 : Int32 → gS → Option (gS)) (ih13 : ∀ (a2 : Int32) (σ1 : gS), rec13 a2 σ1 = some out → WW M (gQv M G zC out) G zC 3 σ1 13 [(0, .ref (G.2.1 2)), (1, .ref (G.2.1 24)), (2, .int a2)] []) (a2 : Int32) (σ1 : gS) (hF : bX8_takeFrom_2_24_13 σ rec13 a2 σ1 = some out) : WW M (gQv M G zC out) G zC 3 σ1 13 [(0, .ref (G.2.1 2)), (1, .ref (G.2.1 24)), (2, .int a2)] [] := by
  unfold bX8_takeFrom_2_24_13 at hF
  refine ww_iload_n (pc := 13) X (j := 2) dX8_takeFrom_13 rfl rfl ?_
  refine ww_iconst (pc := 14) X (v := 2) dX8_takeFrom_14 (by decide) ?_
  refine ww_icmp_gt (pc := 15) (tgt := 39) X dX8_takeFrom_15 (by decide) hF (fun h4 hF => ?_) (fun h4 hF => ?_)
  · refine ww_aload_n (pc := 39) X (j := 1) dX8_takeFrom_39 rfl rfl ?_
    refine ww_get (pc := 40) X (ref := "PictureBlock$Told") (T := TX8) (j := 2) dX8_takeFrom_40 inX8_takeFrom_RX8 shzC_24 clzC_8 (by decide) rfl (List.mem_of_getElem? (i := 3) rfl) rfl ?_
    refine ww_aload_n (pc := 43) X (j := 0) dX8_takeFrom_43 rfl rfl ?_
    refine ww_get (pc := 44) X (ref := "PictureBlock$Told") (T := TX8) (j := 2) dX8_takeFrom_44 inX8_takeFrom_RX8 shzC_2 clzC_8 (by decide) rfl (List.mem_of_getElem? (i := 3) rfl) rfl ?_
    obtain ⟨σ6, h5, hF⟩ := bd_some hF
    refine ww_callNv (pc := 47) X (As := [.ref (G.2.1 30), .ref (G.2.1 8)]) (rest := []) dX8_takeFrom_47 (kX9_copyAll (mL M) G hZ X.2.2.2.2.2.2.1 X.2.2.2.2.2.2.2.1 σ1 30 8 σ6 h5) rfl (fun s h => eC_nmX8_takeFrom_56 (hZ s h)) gX8_takeFrom_X9_copyAll_n56 (List.mem_of_getElem? (i := 13) rfl) (List.mem_of_getElem? (i := 14) rfl) hyX9_copyAll ⟨rfl, rfl⟩ ⟨Nat.le_of_ble_eq_true rfl, Nat.le_of_ble_eq_true rfl⟩ rfl rfl (Nat.le_of_ble_eq_true rfl) ?_
    refine ww_aload_n (pc := 50) X (j := 1) dX8_takeFrom_50 rfl rfl ?_
    refine ww_get (pc := 51) X (ref := "PictureBlock$Told") (T := TX8) (j := 3) dX8_takeFrom_51 inX8_takeFrom_RX8 shzC_24 clzC_8 (by decide) rfl (List.mem_of_getElem? (i := 4) rfl) rfl ?_
    refine ww_aload_n (pc := 54) X (j := 0) dX8_takeFrom_54 rfl rfl ?_
    refine ww_get (pc := 55) X (ref := "PictureBlock$Told") (T := TX8) (j := 3) dX8_takeFrom_55 inX8_takeFrom_RX8 shzC_2 clzC_8 (by decide) rfl (List.mem_of_getElem? (i := 4) rfl) rfl ?_
    obtain ⟨σ8, h7, hF⟩ := bd_some hF
    refine ww_callNv (pc := 58) X (As := [.ref (G.2.1 31), .ref (G.2.1 9)]) (rest := []) dX8_takeFrom_58 (kX9_copyAll (mL M) G hZ X.2.2.2.2.2.2.1 X.2.2.2.2.2.2.2.1 σ6 31 9 σ8 h7) rfl (fun s h => eC_nmX8_takeFrom_56 (hZ s h)) gX8_takeFrom_X9_copyAll_n56 (List.mem_of_getElem? (i := 13) rfl) (List.mem_of_getElem? (i := 14) rfl) hyX9_copyAll ⟨rfl, rfl⟩ ⟨Nat.le_of_ble_eq_true rfl, Nat.le_of_ble_eq_true rfl⟩ rfl rfl (Nat.le_of_ble_eq_true rfl) ?_
    refine ww_aload_n (pc := 61) X (j := 1) dX8_takeFrom_61 rfl rfl ?_
    refine ww_get (pc := 62) X (ref := "PictureBlock$Told") (T := TX8) (j := 4) dX8_takeFrom_62 inX8_takeFrom_RX8 shzC_24 clzC_8 (by decide) rfl (List.mem_of_getElem? (i := 5) rfl) rfl ?_
    refine ww_aload_n (pc := 65) X (j := 0) dX8_takeFrom_65 rfl rfl ?_
    refine ww_get (pc := 66) X (ref := "PictureBlock$Told") (T := TX8) (j := 4) dX8_takeFrom_66 inX8_takeFrom_RX8 shzC_2 clzC_8 (by decide) rfl (List.mem_of_getElem? (i := 5) rfl) rfl ?_
    obtain ⟨σ10, h9, hF⟩ := bd_some hF
    refine ww_callNv (pc := 69) X (As := [.ref (G.2.1 32), .ref (G.2.1 10)]) (rest := []) dX8_takeFrom_69 (kX9_copyAll (mL M) G hZ X.2.2.2.2.2.2.1 X.2.2.2.2.2.2.2.1 σ8 32 10 σ10 h9) rfl (fun s h => eC_nmX8_takeFrom_56 (hZ s h)) gX8_takeFrom_X9_copyAll_n56 (List.mem_of_getElem? (i := 13) rfl) (List.mem_of_getElem? (i := 14) rfl) hyX9_copyAll ⟨rfl, rfl⟩ ⟨Nat.le_of_ble_eq_true rfl, Nat.le_of_ble_eq_true rfl⟩ rfl rfl (Nat.le_of_ble_eq_true rfl) ?_
    refine ww_aload_n (pc := 72) X (j := 1) dX8_takeFrom_72 rfl rfl ?_
    refine ww_get (pc := 73) X (ref := "PictureBlock$Told") (T := TX8) (j := 5) dX8_takeFrom_73 inX8_takeFrom_RX8 shzC_24 clzC_8 (by decide) rfl (List.mem_of_getElem? (i := 6) rfl) rfl ?_
    refine ww_aload_n (pc := 76) X (j := 0) dX8_takeFrom_76 rfl rfl ?_
    refine ww_get (pc := 77) X (ref := "PictureBlock$Told") (T := TX8) (j := 5) dX8_takeFrom_77 inX8_takeFrom_RX8 shzC_2 clzC_8 (by decide) rfl (List.mem_of_getElem? (i := 6) rfl) rfl ?_
    obtain ⟨σ12, h11, hF⟩ := bd_some hF
    refine ww_callNv (pc := 80) X (As := [.ref (G.2.1 33), .ref (G.2.1 11)]) (rest := []) dX8_takeFrom_80 (kX9_copyAll (mL M) G hZ X.2.2.2.2.2.2.1 X.2.2.2.2.2.2.2.1 σ10 33 11 σ12 h11) rfl (fun s h => eC_nmX8_takeFrom_56 (hZ s h)) gX8_takeFrom_X9_copyAll_n56 (List.mem_of_getElem? (i := 13) rfl) (List.mem_of_getElem? (i := 14) rfl) hyX9_copyAll ⟨rfl, rfl⟩ ⟨Nat.le_of_ble_eq_true rfl, Nat.le_of_ble_eq_true rfl⟩ rfl rfl (Nat.le_of_ble_eq_true rfl) ?_
    refine ww_aload_n (pc := 83) X (j := 1) dX8_takeFrom_83 rfl rfl ?_
    refine ww_get (pc := 84) X (ref := "PictureBlock$Told") (T := TX8) (j := 7) dX8_takeFrom_84 inX8_takeFrom_RX8 shzC_24 clzC_8 (by decide) rfl (List.mem_of_getElem? (i := 7) rfl) rfl ?_
    refine ww_aload_n (pc := 87) X (j := 0) dX8_takeFrom_87 rfl rfl ?_
    refine ww_get (pc := 88) X (ref := "PictureBlock$Told") (T := TX8) (j := 7) dX8_takeFrom_88 inX8_takeFrom_RX8 shzC_2 clzC_8 (by decide) rfl (List.mem_of_getElem? (i := 7) rfl) rfl ?_
    obtain ⟨σ14, h13, hF⟩ := bd_some hF
    refine ww_callNv (pc := 91) X (As := [.ref (G.2.1 37), .ref (G.2.1 15)]) (rest := []) dX8_takeFrom_91 (kX9_copyAll (mL M) G hZ X.2.2.2.2.2.2.1 X.2.2.2.2.2.2.2.1 σ12 37 15 σ14 h13) rfl (fun s h => eC_nmX8_takeFrom_56 (hZ s h)) gX8_takeFrom_X9_copyAll_n56 (List.mem_of_getElem? (i := 13) rfl) (List.mem_of_getElem? (i := 14) rfl) hyX9_copyAll ⟨rfl, rfl⟩ ⟨Nat.le_of_ble_eq_true rfl, Nat.le_of_ble_eq_true rfl⟩ rfl rfl (Nat.le_of_ble_eq_true rfl) ?_
    refine ww_aload_n (pc := 94) X (j := 1) dX8_takeFrom_94 rfl rfl ?_
    refine ww_get (pc := 95) X (ref := "PictureBlock$Told") (T := TX8) (j := 8) dX8_takeFrom_95 inX8_takeFrom_RX8 shzC_24 clzC_8 (by decide) rfl (List.mem_of_getElem? (i := 8) rfl) rfl ?_
    refine ww_aload_n (pc := 98) X (j := 0) dX8_takeFrom_98 rfl rfl ?_
    refine ww_get (pc := 99) X (ref := "PictureBlock$Told") (T := TX8) (j := 8) dX8_takeFrom_99 inX8_takeFrom_RX8 shzC_2 clzC_8 (by decide) rfl (List.mem_of_getElem? (i := 8) rfl) rfl ?_
    obtain ⟨σ16, h15, hF⟩ := bd_some hF
    refine ww_callNv (pc := 102) X (As := [.ref (G.2.1 38), .ref (G.2.1 16)]) (rest := []) dX8_takeFrom_102 (kX9_copyAll (mL M) G hZ X.2.2.2.2.2.2.1 X.2.2.2.2.2.2.2.1 σ14 38 16 σ16 h15) rfl (fun s h => eC_nmX8_takeFrom_56 (hZ s h)) gX8_takeFrom_X9_copyAll_n56 (List.mem_of_getElem? (i := 13) rfl) (List.mem_of_getElem? (i := 14) rfl) hyX9_copyAll ⟨rfl, rfl⟩ ⟨Nat.le_of_ble_eq_true rfl, Nat.le_of_ble_eq_true rfl⟩ rfl rfl (Nat.le_of_ble_eq_true rfl) ?_
    refine ww_aload_n (pc := 105) X (j := 1) dX8_takeFrom_105 rfl rfl ?_
    refine ww_get (pc := 106) X (ref := "PictureBlock$Told") (T := TX8) (j := 10) dX8_takeFrom_106 inX8_takeFrom_RX8 shzC_24 clzC_8 (by decide) rfl (List.mem_of_getElem? (i := 9) rfl) rfl ?_
    refine ww_aload_n (pc := 109) X (j := 0) dX8_takeFrom_109 rfl rfl ?_
    refine ww_get (pc := 110) X (ref := "PictureBlock$Told") (T := TX8) (j := 10) dX8_takeFrom_110 inX8_takeFrom_RX8 shzC_2 clzC_8 (by decide) rfl (List.mem_of_getElem? (i := 9) rfl) rfl ?_
    obtain ⟨σ18, h17, hF⟩ := bd_some hF
    refine ww_callNv (pc := 113) X (As := [.ref (G.2.1 42), .ref (G.2.1 20)]) (rest := []) dX8_takeFrom_113 (kX9_copyAll (mL M) G hZ X.2.2.2.2.2.2.1 X.2.2.2.2.2.2.2.1 σ16 42 20 σ18 h17) rfl (fun s h => eC_nmX8_takeFrom_56 (hZ s h)) gX8_takeFrom_X9_copyAll_n56 (List.mem_of_getElem? (i := 13) rfl) (List.mem_of_getElem? (i := 14) rfl) hyX9_copyAll ⟨rfl, rfl⟩ ⟨Nat.le_of_ble_eq_true rfl, Nat.le_of_ble_eq_true rfl⟩ rfl rfl (Nat.le_of_ble_eq_true rfl) ?_
    refine ww_iconst (pc := 116) X (v := 0) dX8_takeFrom_116 (by decide) ?_
    refine ww_istore_n (pc := 117) X (lv' := [(0, .ref (G.2.1 2)), (1, .ref (G.2.1 24))]) dX8_takeFrom_117 rfl (by decide) rfl hF (fun x19 ex19 hF => ?_)
    exact ww_sub [1, 2, 0] rfl (lpc_ind (P := (fun (s : Int32 × gS) => WW M (gQv M G zC out) G zC 3 s.2 118 [(0, .ref (G.2.1 2)), (1, .ref (G.2.1 24)), (2, .int s.1)] [])) (fun rec s ih hF => wbX8_takeFrom_2_24_118 X hZ σ18 (fun a2 σ1 => rec (a2, σ1)) (fun a2 σ1 h => ih (a2, σ1) h) s.1 s.2 hF) K9 (x19, σ18) hF)
  · refine ww_aload_n (pc := 18) X (j := 1) dX8_takeFrom_18 rfl rfl ?_
    refine ww_get (pc := 19) X (ref := "PictureBlock$Told") (T := TX8) (j := 1) dX8_takeFrom_19 inX8_takeFrom_RX8 shzC_24 clzC_8 (by decide) rfl (List.mem_of_getElem? (i := 2) rfl) rfl ?_
    refine ww_iload_n (pc := 22) X (j := 2) dX8_takeFrom_22 rfl rfl ?_
    refine ww_aald (pc := 23) X dX8_takeFrom_23 shzC_26 rfl hF (fun h34 hF => ?_)
    refine ww_aload_n (pc := 24) X (j := 0) dX8_takeFrom_24 rfl rfl ?_
    refine ww_get (pc := 25) X (ref := "PictureBlock$Told") (T := TX8) (j := 1) dX8_takeFrom_25 inX8_takeFrom_RX8 shzC_2 clzC_8 (by decide) rfl (List.mem_of_getElem? (i := 2) rfl) rfl ?_
    refine ww_iload_n (pc := 28) X (j := 2) dX8_takeFrom_28 rfl rfl ?_
    refine ww_aald (pc := 29) X dX8_takeFrom_29 shzC_4 rfl hF (fun h35 hF => ?_)
    obtain ⟨σ37, h36, hF⟩ := bd_some hF
    refine ww_callNv (pc := 30) X (As := [.ref (G.2.1 (27 + a2.toNatClampNeg)), .ref (G.2.1 (5 + a2.toNatClampNeg))]) (rest := []) dX8_takeFrom_30 (kX9_copyAll (mL M) G hZ X.2.2.2.2.2.2.1 X.2.2.2.2.2.2.2.1 σ1 (27 + a2.toNatClampNeg) (5 + a2.toNatClampNeg) σ37 h36) rfl (fun s h => eC_nmX8_takeFrom_56 (hZ s h)) gX8_takeFrom_X9_copyAll_n56 (List.mem_of_getElem? (i := 13) rfl) (List.mem_of_getElem? (i := 14) rfl) hyX9_copyAll ⟨rfl, rfl⟩ ⟨Nat.le_of_ble_eq_true rfl, Nat.le_of_ble_eq_true rfl⟩ rfl rfl (Nat.le_of_ble_eq_true rfl) ?_
    refine ww_iinc (pc := 33) X (j := 2) (v := 1) (lv' := [(0, .ref (G.2.1 2)), (1, .ref (G.2.1 24))]) dX8_takeFrom_33 rfl rfl (by decide) rfl hF (fun x38 ex38 hF => ?_)
    refine ww_goto (pc := 36) X (tgt := 13) dX8_takeFrom_36 (by decide) ?_
    exact ww_sub [1, 2, 0] rfl (ih13 x38 σ37 hF)
set_option maxRecDepth 100000 in
set_option maxHeartbeats 4000000 in
theorem wX8_takeFrom_2_24 {M : gM} {G : gG} {out : gS} (X : gX M G zC cX8_takeFrom RX8 3 wsX8_takeFrom rmX8_takeFrom none) {ex : gEx} (hZ : ∀ s : State, G.2.2.2 s → kC ex (gA G zC.1) s) (σ : gS) (hF : fX8_takeFrom_2_24 σ = some out) : WW M (gQv M G zC out) G zC 3 σ 0 [(0, .ref (G.2.1 2)), (1, .ref (G.2.1 24))] [] := by
  unfold fX8_takeFrom_2_24 at hF
  refine ww_aload_n (pc := 0) X (j := 1) dX8_takeFrom_0 rfl rfl ?_
  refine ww_get (pc := 1) X (ref := "PictureBlock$Told") (T := TX8) (j := 0) dX8_takeFrom_1 inX8_takeFrom_RX8 shzC_24 clzC_8 (by decide) rfl (List.mem_of_getElem? (i := 1) rfl) rfl ?_
  refine ww_aload_n (pc := 4) X (j := 0) dX8_takeFrom_4 rfl rfl ?_
  refine ww_get (pc := 5) X (ref := "PictureBlock$Told") (T := TX8) (j := 0) dX8_takeFrom_5 inX8_takeFrom_RX8 shzC_2 clzC_8 (by decide) rfl (List.mem_of_getElem? (i := 1) rfl) rfl ?_
  obtain ⟨σ2, h1, hF⟩ := bd_some hF
  refine ww_callNv (pc := 8) X (As := [.ref (G.2.1 25), .ref (G.2.1 3)]) (rest := []) dX8_takeFrom_8 (kX9_copyAll (mL M) G hZ X.2.2.2.2.2.2.1 X.2.2.2.2.2.2.2.1 σ 25 3 σ2 h1) rfl (fun s h => eC_nmX8_takeFrom_56 (hZ s h)) gX8_takeFrom_X9_copyAll_n56 (List.mem_of_getElem? (i := 13) rfl) (List.mem_of_getElem? (i := 14) rfl) hyX9_copyAll ⟨rfl, rfl⟩ ⟨Nat.le_of_ble_eq_true rfl, Nat.le_of_ble_eq_true rfl⟩ rfl rfl (Nat.le_of_ble_eq_true rfl) ?_
  refine ww_iconst (pc := 11) X (v := 0) dX8_takeFrom_11 (by decide) ?_
  refine ww_istore_n (pc := 12) X (lv' := [(0, .ref (G.2.1 2)), (1, .ref (G.2.1 24))]) dX8_takeFrom_12 rfl (by decide) rfl hF (fun x3 ex3 hF => ?_)
  exact ww_sub [1, 2, 0] rfl (lpc_ind (P := (fun (s : Int32 × gS) => WW M (gQv M G zC out) G zC 3 s.2 13 [(0, .ref (G.2.1 2)), (1, .ref (G.2.1 24)), (2, .int s.1)] [])) (fun rec s ih hF => wbX8_takeFrom_2_24_13 X hZ σ2 (fun a2 σ1 => rec (a2, σ1)) (fun a2 σ1 h => ih (a2, σ1) h) s.1 s.2 hF) K9 (x3, σ2) hF)
set_option maxRecDepth 100000 in
set_option maxHeartbeats 4000000 in
theorem kX8_takeFrom_2_24 (l : Launch) (G : gG) {ex : gEx} (hZ : ∀ s : State, G.2.2.2 s → kC ex (gA G zC.1) s) (hG : gOK G zC.1) (hT : G.2.2.1.map (fun q => q.2) = zC.2.1) (σ : gS) (out : gS) (hF : fX8_takeFrom_2_24 σ = some out) : gCv l yX8_takeFrom wsX8_takeFrom rmX8_takeFrom G zC [.ref (G.2.1 2), .ref (G.2.1 24)] σ out :=
  gEnter (by decide) rfl ⟨rfl, rfl⟩ hG hT (Nat.le_of_ble_eq_true rfl) rfl (fun M X hl => wX8_takeFrom_2_24 X hZ σ hF)
noncomputable def bX6_reset_62 (σ : gS) (rec62 : Int32 → gS → Option (gS)) (a1 : Int32) (σ1 : gS) : Option (gS) :=
  gd (gb 1 6) <| nm (σ1.1 3 ((1 : Int32).toNatClampNeg)) fun v6 => (if v6 ≤ a1 then some σ1 else gd (gb a1 12) <| nm (σ1.1 9 a1.toNatClampNeg) fun v8 => (if v8 = 4 then gd (gb a1 12) <| nm (gsI σ1 48 a1.toNatClampNeg 0) fun σ13 => nm (a1 + 1 : Int32) fun x14 => rec62 x14 σ13 else gd (gb a1 12) <| nm (σ1.1 9 a1.toNatClampNeg) fun v10 => gd (gb a1 12) <| nm (gsI σ1 48 a1.toNatClampNeg v10) fun σ11 => nm (a1 + 1 : Int32) fun x12 => rec62 x12 σ11))
noncomputable def bX6_reset_10 (σ : gS) (rec10 : Int32 → gS → Option (gS)) (a1 : Int32) (σ1 : gS) : Option (gS) :=
  if 2 ≤ a1 then nm (0 : Int32) fun x5 => lpc (S := Int32 × gS) K9 (fun rec s => bX6_reset_62 σ1 (fun a1 σ1 => rec (a1, σ1)) s.1 s.2) (x5, σ1) else gd (gb a1 2) <| bd (fJ7_fill_53178 σ1 (50 + a1.toNatClampNeg) 0) fun σ17 => gd (gb a1 2) <| bd (fJ7_fill_53178 σ17 (53 + a1.toNatClampNeg) 0) fun σ20 => gd (gb a1 2) <| bd (fJ7_fill_53178 σ20 (56 + a1.toNatClampNeg) 0) fun σ23 => nm (a1 + 1 : Int32) fun x24 => rec10 x24 σ23
noncomputable def fX6_reset (σ : gS) : Option (gS) :=
  bd (fJ7_fill_53178 σ 84 0) fun σ2 => nm (0 : Int32) fun x3 => lpc (S := Int32 × gS) K9 (fun rec s => bX6_reset_10 σ2 (fun a1 σ1 => rec (a1, σ1)) s.1 s.2) (x3, σ2)
noncomputable abbrev rmX6_reset : Room := { frames := 1, cells := 0, slots := 0, locals := 23 }
set_option maxRecDepth 100000 in
set_option maxHeartbeats 4000000 in
theorem wbX6_reset_62 {M : gM} {G : gG} {out : gS} (X : gX M G zC cX6_reset RX6 2 wsX6_reset rmX6_reset none) {ex : gEx} (hZ : ∀ s : State, G.2.2.2 s → kC ex (gA G zC.1) s) (σ : gS) (rec62 : Int32 → gS → Option (gS)) (ih62 : ∀ (a1 : Int32) (σ1 : gS), rec62 a1 σ1 = some out → WW M (gQv M G zC out) G zC 2 σ1 62 [(0, .ref (G.2.1 83)), (1, .int a1)] []) (a1 : Int32) (σ1 : gS) (hF : bX6_reset_62 σ rec62 a1 σ1 = some out) : WW M (gQv M G zC out) G zC 2 σ1 62 [(0, .ref (G.2.1 83)), (1, .int a1)] [] := by
  unfold bX6_reset_62 at hF
  refine ww_iload_n (pc := 62) X (j := 1) dX6_reset_62 rfl rfl ?_
  refine ww_aload_n (pc := 63) X (j := 0) dX6_reset_63 rfl rfl ?_
  refine ww_get (pc := 64) X (ref := "PictureBlock$Starter") (T := TX6) (j := 0) dX6_reset_64 inX6_reset_RX6 shzC_83 clzC_6 (by decide) rfl (List.mem_of_getElem? (i := 6) rfl) rfl ?_
  refine ww_get (pc := 67) X (ref := "PictureBlock$Told") (T := TX8) (j := 0) dX6_reset_67 inX6_reset_RX8 shzC_2 clzC_8 (by decide) rfl (List.mem_of_getElem? (i := 7) rfl) rfl ?_
  refine ww_iconst (pc := 70) X (v := 1) dX6_reset_70 (by decide) ?_
  refine ww_iald (pc := 71) X dX6_reset_71 shzC_3 rfl hF (fun v6 ev6 bv6 hF => ?_)
  refine ww_icmp_ge (pc := 72) (tgt := 116) X dX6_reset_72 (by decide) hF (fun h7 hF => ?_) (fun h7 hF => ?_)
  · exact ww_vret (pc := 116) X dX6_reset_116 (by cases hF; rfl)
  · refine ww_aload_n (pc := 75) X (j := 0) dX6_reset_75 rfl rfl ?_
    refine ww_get (pc := 76) X (ref := "PictureBlock$Starter") (T := TX6) (j := 1) dX6_reset_76 inX6_reset_RX6 shzC_83 clzC_6 (by decide) rfl (List.mem_of_getElem? (i := 2) rfl) rfl ?_
    refine ww_get (pc := 79) X (ref := "PictureBlock$Stand") (T := TX5) (j := 2) dX6_reset_79 inX6_reset_RX5 shzC_47 clzC_5 (by decide) rfl (List.mem_of_getElem? (i := 8) rfl) rfl ?_
    refine ww_iload_n (pc := 82) X (j := 1) dX6_reset_82 rfl rfl ?_
    refine ww_aload_n (pc := 83) X (j := 0) dX6_reset_83 rfl rfl ?_
    refine ww_get (pc := 84) X (ref := "PictureBlock$Starter") (T := TX6) (j := 0) dX6_reset_84 inX6_reset_RX6 shzC_83 clzC_6 (by decide) rfl (List.mem_of_getElem? (i := 6) rfl) rfl ?_
    refine ww_get (pc := 87) X (ref := "PictureBlock$Told") (T := TX8) (j := 3) dX6_reset_87 inX6_reset_RX8 shzC_2 clzC_8 (by decide) rfl (List.mem_of_getElem? (i := 9) rfl) rfl ?_
    refine ww_iload_n (pc := 90) X (j := 1) dX6_reset_90 rfl rfl ?_
    refine ww_iald (pc := 91) X dX6_reset_91 shzC_9 rfl hF (fun v8 ev8 bv8 hF => ?_)
    refine ww_iconst (pc := 92) X (v := 4) dX6_reset_92 (by decide) ?_
    refine ww_icmp_ne (pc := 93) (tgt := 100) X dX6_reset_93 (by decide) hF (fun h9 hF => ?_) (fun h9 hF => ?_)
    · refine ww_aload_n (pc := 100) X (j := 0) dX6_reset_100 rfl rfl ?_
      refine ww_get (pc := 101) X (ref := "PictureBlock$Starter") (T := TX6) (j := 0) dX6_reset_101 inX6_reset_RX6 shzC_83 clzC_6 (by decide) rfl (List.mem_of_getElem? (i := 6) rfl) rfl ?_
      refine ww_get (pc := 104) X (ref := "PictureBlock$Told") (T := TX8) (j := 3) dX6_reset_104 inX6_reset_RX8 shzC_2 clzC_8 (by decide) rfl (List.mem_of_getElem? (i := 9) rfl) rfl ?_
      refine ww_iload_n (pc := 107) X (j := 1) dX6_reset_107 rfl rfl ?_
      refine ww_iald (pc := 108) X dX6_reset_108 shzC_9 rfl hF (fun v10 ev10 bv10 hF => ?_)
      refine ww_iast (pc := 109) X dX6_reset_109 shzC_48 rfl hF (fun σ11 eσ11 bσ11 hF => ?_)
      refine ww_iinc (pc := 110) X (j := 1) (v := 1) (lv' := [(0, .ref (G.2.1 83))]) dX6_reset_110 rfl rfl (by decide) rfl hF (fun x12 ex12 hF => ?_)
      refine ww_goto (pc := 113) X (tgt := 62) dX6_reset_113 (by decide) ?_
      exact ww_sub [1, 0] rfl (ih62 x12 σ11 hF)
    · refine ww_iconst (pc := 96) X (v := 0) dX6_reset_96 (by decide) ?_
      refine ww_goto (pc := 97) X (tgt := 109) dX6_reset_97 (by decide) ?_
      refine ww_iast (pc := 109) X dX6_reset_109 shzC_48 rfl hF (fun σ13 eσ13 bσ13 hF => ?_)
      refine ww_iinc (pc := 110) X (j := 1) (v := 1) (lv' := [(0, .ref (G.2.1 83))]) dX6_reset_110 rfl rfl (by decide) rfl hF (fun x14 ex14 hF => ?_)
      refine ww_goto (pc := 113) X (tgt := 62) dX6_reset_113 (by decide) ?_
      exact ww_sub [1, 0] rfl (ih62 x14 σ13 hF)
set_option maxRecDepth 100000 in
set_option maxHeartbeats 4000000 in
theorem wbX6_reset_10 {M : gM} {G : gG} {out : gS} (X : gX M G zC cX6_reset RX6 2 wsX6_reset rmX6_reset none) {ex : gEx} (hZ : ∀ s : State, G.2.2.2 s → kC ex (gA G zC.1) s) (σ : gS) (rec10 : Int32 → gS → Option (gS)) (ih10 : ∀ (a1 : Int32) (σ1 : gS), rec10 a1 σ1 = some out → WW M (gQv M G zC out) G zC 2 σ1 10 [(0, .ref (G.2.1 83)), (1, .int a1)] []) (a1 : Int32) (σ1 : gS) (hF : bX6_reset_10 σ rec10 a1 σ1 = some out) : WW M (gQv M G zC out) G zC 2 σ1 10 [(0, .ref (G.2.1 83)), (1, .int a1)] [] := by
  unfold bX6_reset_10 at hF
  refine ww_iload_n (pc := 10) X (j := 1) dX6_reset_10 rfl rfl ?_
  refine ww_iconst (pc := 11) X (v := 2) dX6_reset_11 (by decide) ?_
  refine ww_icmp_ge (pc := 12) (tgt := 60) X dX6_reset_12 (by decide) hF (fun h4 hF => ?_) (fun h4 hF => ?_)
  · refine ww_iconst (pc := 60) X (v := 0) dX6_reset_60 (by decide) ?_
    refine ww_istore_n (pc := 61) X (lv' := [(0, .ref (G.2.1 83))]) dX6_reset_61 rfl (by decide) rfl hF (fun x5 ex5 hF => ?_)
    exact ww_sub [1, 0] rfl (lpc_ind (P := (fun (s : Int32 × gS) => WW M (gQv M G zC out) G zC 2 s.2 62 [(0, .ref (G.2.1 83)), (1, .int s.1)] [])) (fun rec s ih hF => wbX6_reset_62 X hZ σ1 (fun a1 σ1 => rec (a1, σ1)) (fun a1 σ1 h => ih (a1, σ1) h) s.1 s.2 hF) K9 (x5, σ1) hF)
  · refine ww_aload_n (pc := 15) X (j := 0) dX6_reset_15 rfl rfl ?_
    refine ww_get (pc := 16) X (ref := "PictureBlock$Starter") (T := TX6) (j := 1) dX6_reset_16 inX6_reset_RX6 shzC_83 clzC_6 (by decide) rfl (List.mem_of_getElem? (i := 2) rfl) rfl ?_
    refine ww_get (pc := 19) X (ref := "PictureBlock$Stand") (T := TX5) (j := 3) dX6_reset_19 inX6_reset_RX5 shzC_47 clzC_5 (by decide) rfl (List.mem_of_getElem? (i := 3) rfl) rfl ?_
    refine ww_iload_n (pc := 22) X (j := 1) dX6_reset_22 rfl rfl ?_
    refine ww_aald (pc := 23) X dX6_reset_23 shzC_49 rfl hF (fun h15 hF => ?_)
    refine ww_iconst (pc := 24) X (v := 0) dX6_reset_24 (by decide) ?_
    obtain ⟨σ17, h16, hF⟩ := bd_some hF
    refine ww_callSv (pc := 25) X (As := [.ref (G.2.1 (50 + a1.toNatClampNeg)), .int 0]) (rest := []) dX6_reset_25 (kJ7_fill_53178 (mL M) G hZ X.2.2.2.2.2.2.1 X.2.2.2.2.2.2.2.1 σ1 (50 + a1.toNatClampNeg) 0 σ17 h16) rfl gX6_reset_J7_fill_53178 hyJ7_fill_53178 ⟨rfl, rfl⟩ ⟨Nat.le_of_ble_eq_true rfl, Nat.le_of_ble_eq_true rfl⟩ rfl rfl (Nat.le_of_ble_eq_true rfl) ?_
    refine ww_aload_n (pc := 28) X (j := 0) dX6_reset_28 rfl rfl ?_
    refine ww_get (pc := 29) X (ref := "PictureBlock$Starter") (T := TX6) (j := 1) dX6_reset_29 inX6_reset_RX6 shzC_83 clzC_6 (by decide) rfl (List.mem_of_getElem? (i := 2) rfl) rfl ?_
    refine ww_get (pc := 32) X (ref := "PictureBlock$Stand") (T := TX5) (j := 4) dX6_reset_32 inX6_reset_RX5 shzC_47 clzC_5 (by decide) rfl (List.mem_of_getElem? (i := 4) rfl) rfl ?_
    refine ww_iload_n (pc := 35) X (j := 1) dX6_reset_35 rfl rfl ?_
    refine ww_aald (pc := 36) X dX6_reset_36 shzC_52 rfl hF (fun h18 hF => ?_)
    refine ww_iconst (pc := 37) X (v := 0) dX6_reset_37 (by decide) ?_
    obtain ⟨σ20, h19, hF⟩ := bd_some hF
    refine ww_callSv (pc := 38) X (As := [.ref (G.2.1 (53 + a1.toNatClampNeg)), .int 0]) (rest := []) dX6_reset_38 (kJ7_fill_53178 (mL M) G hZ X.2.2.2.2.2.2.1 X.2.2.2.2.2.2.2.1 σ17 (53 + a1.toNatClampNeg) 0 σ20 h19) rfl gX6_reset_J7_fill_53178 hyJ7_fill_53178 ⟨rfl, rfl⟩ ⟨Nat.le_of_ble_eq_true rfl, Nat.le_of_ble_eq_true rfl⟩ rfl rfl (Nat.le_of_ble_eq_true rfl) ?_
    refine ww_aload_n (pc := 41) X (j := 0) dX6_reset_41 rfl rfl ?_
    refine ww_get (pc := 42) X (ref := "PictureBlock$Starter") (T := TX6) (j := 1) dX6_reset_42 inX6_reset_RX6 shzC_83 clzC_6 (by decide) rfl (List.mem_of_getElem? (i := 2) rfl) rfl ?_
    refine ww_get (pc := 45) X (ref := "PictureBlock$Stand") (T := TX5) (j := 5) dX6_reset_45 inX6_reset_RX5 shzC_47 clzC_5 (by decide) rfl (List.mem_of_getElem? (i := 5) rfl) rfl ?_
    refine ww_iload_n (pc := 48) X (j := 1) dX6_reset_48 rfl rfl ?_
    refine ww_aald (pc := 49) X dX6_reset_49 shzC_55 rfl hF (fun h21 hF => ?_)
    refine ww_iconst (pc := 50) X (v := 0) dX6_reset_50 (by decide) ?_
    obtain ⟨σ23, h22, hF⟩ := bd_some hF
    refine ww_callSv (pc := 51) X (As := [.ref (G.2.1 (56 + a1.toNatClampNeg)), .int 0]) (rest := []) dX6_reset_51 (kJ7_fill_53178 (mL M) G hZ X.2.2.2.2.2.2.1 X.2.2.2.2.2.2.2.1 σ20 (56 + a1.toNatClampNeg) 0 σ23 h22) rfl gX6_reset_J7_fill_53178 hyJ7_fill_53178 ⟨rfl, rfl⟩ ⟨Nat.le_of_ble_eq_true rfl, Nat.le_of_ble_eq_true rfl⟩ rfl rfl (Nat.le_of_ble_eq_true rfl) ?_
    refine ww_iinc (pc := 54) X (j := 1) (v := 1) (lv' := [(0, .ref (G.2.1 83))]) dX6_reset_54 rfl rfl (by decide) rfl hF (fun x24 ex24 hF => ?_)
    refine ww_goto (pc := 57) X (tgt := 10) dX6_reset_57 (by decide) ?_
    exact ww_sub [1, 0] rfl (ih10 x24 σ23 hF)
set_option maxRecDepth 100000 in
set_option maxHeartbeats 4000000 in
theorem wX6_reset {M : gM} {G : gG} {out : gS} (X : gX M G zC cX6_reset RX6 2 wsX6_reset rmX6_reset none) {ex : gEx} (hZ : ∀ s : State, G.2.2.2 s → kC ex (gA G zC.1) s) (σ : gS) (hF : fX6_reset σ = some out) : WW M (gQv M G zC out) G zC 2 σ 0 [(0, .ref (G.2.1 83))] [] := by
  unfold fX6_reset at hF
  refine ww_aload_n (pc := 0) X (j := 0) dX6_reset_0 rfl rfl ?_
  refine ww_get (pc := 1) X (ref := "PictureBlock$Starter") (T := TX6) (j := 2) dX6_reset_1 inX6_reset_RX6 shzC_83 clzC_6 (by decide) rfl (List.mem_of_getElem? (i := 1) rfl) rfl ?_
  refine ww_iconst (pc := 4) X (v := 0) dX6_reset_4 (by decide) ?_
  obtain ⟨σ2, h1, hF⟩ := bd_some hF
  refine ww_callSv (pc := 5) X (As := [.ref (G.2.1 84), .int 0]) (rest := []) dX6_reset_5 (kJ7_fill_53178 (mL M) G hZ X.2.2.2.2.2.2.1 X.2.2.2.2.2.2.2.1 σ 84 0 σ2 h1) rfl gX6_reset_J7_fill_53178 hyJ7_fill_53178 ⟨rfl, rfl⟩ ⟨Nat.le_of_ble_eq_true rfl, Nat.le_of_ble_eq_true rfl⟩ rfl rfl (Nat.le_of_ble_eq_true rfl) ?_
  refine ww_iconst (pc := 8) X (v := 0) dX6_reset_8 (by decide) ?_
  refine ww_istore_n (pc := 9) X (lv' := [(0, .ref (G.2.1 83))]) dX6_reset_9 rfl (by decide) rfl hF (fun x3 ex3 hF => ?_)
  exact ww_sub [1, 0] rfl (lpc_ind (P := (fun (s : Int32 × gS) => WW M (gQv M G zC out) G zC 2 s.2 10 [(0, .ref (G.2.1 83)), (1, .int s.1)] [])) (fun rec s ih hF => wbX6_reset_10 X hZ σ2 (fun a1 σ1 => rec (a1, σ1)) (fun a1 σ1 h => ih (a1, σ1) h) s.1 s.2 hF) K9 (x3, σ2) hF)
set_option maxRecDepth 100000 in
set_option maxHeartbeats 4000000 in
theorem kX6_reset (l : Launch) (G : gG) {ex : gEx} (hZ : ∀ s : State, G.2.2.2 s → kC ex (gA G zC.1) s) (hG : gOK G zC.1) (hT : G.2.2.1.map (fun q => q.2) = zC.2.1) (σ : gS) (out : gS) (hF : fX6_reset σ = some out) : gCv l yX6_reset wsX6_reset rmX6_reset G zC [.ref (G.2.1 83)] σ out :=
  gEnter (by decide) rfl ⟨rfl, rfl⟩ hG hT (Nat.le_of_ble_eq_true rfl) rfl (fun M X hl => wX6_reset X hZ σ hF)
noncomputable def fX5_isFixed_47 (σ : gS) (p1 : Int32) : Option (Int32) :=
  gd (gb p1 20) <| nm (σ.1 16 p1.toNatClampNeg) fun v1 => (if (v1 &&& (σ.1 47 1)) = 0 then some 0 else some 1)
noncomputable abbrev rmX5_isFixed : Room := { frames := 0, cells := 0, slots := 0, locals := 0 }
set_option maxRecDepth 100000 in
set_option maxHeartbeats 4000000 in
theorem wX5_isFixed_47 {M : gM} {G : gG} {out : Int32} (X : gX M G zC cX5_isFixed RX5 2 wsX5_isFixed rmX5_isFixed (some .boolean)) {ex : gEx} (hZ : ∀ s : State, G.2.2.2 s → kC ex (gA G zC.1) s) (σ : gS) (p1 : Int32) (hF : fX5_isFixed_47 σ p1 = some out) : WW M (gQi M G zC out σ) G zC 2 σ 0 [(0, .ref (G.2.1 47)), (1, .int p1)] [] := by
  unfold fX5_isFixed_47 at hF
  refine ww_aload_n (pc := 0) X (j := 0) dX5_isFixed_0 rfl rfl ?_
  refine ww_get (pc := 1) X (ref := "PictureBlock$Stand") (T := TX5) (j := 0) dX5_isFixed_1 inX5_isFixed_RX5 shzC_47 clzC_5 (by decide) rfl (List.mem_of_getElem? (i := 1) rfl) rfl ?_
  refine ww_get (pc := 4) X (ref := "PictureBlock$Told") (T := TX8) (j := 8) dX5_isFixed_4 inX5_isFixed_RX8 shzC_2 clzC_8 (by decide) rfl (List.mem_of_getElem? (i := 2) rfl) rfl ?_
  refine ww_iload_n (pc := 7) X (j := 1) dX5_isFixed_7 rfl rfl ?_
  refine ww_iald (pc := 8) X dX5_isFixed_8 shzC_16 rfl hF (fun v1 ev1 bv1 hF => ?_)
  refine ww_aload_n (pc := 9) X (j := 0) dX5_isFixed_9 rfl rfl ?_
  refine ww_get (pc := 10) X (ref := "PictureBlock$Stand") (T := TX5) (j := 1) dX5_isFixed_10 inX5_isFixed_RX5 shzC_47 clzC_5 (by decide) rfl (List.mem_of_getElem? (i := 3) rfl) rfl ?_
  refine ww_iand (pc := 13) X dX5_isFixed_13 ?_
  refine ww_if_eq (pc := 14) (tgt := 21) X dX5_isFixed_14 (by decide) hF (fun h2 hF => ?_) (fun h2 hF => ?_)
  · refine ww_iconst (pc := 21) X (v := 0) dX5_isFixed_21 (by decide) ?_
    exact ww_zret (pc := 22) X dX5_isFixed_22 (by cases hF; rfl) rfl
  · refine ww_iconst (pc := 17) X (v := 1) dX5_isFixed_17 (by decide) ?_
    refine ww_goto (pc := 18) X (tgt := 22) dX5_isFixed_18 (by decide) ?_
    exact ww_zret (pc := 22) X dX5_isFixed_22 (by cases hF; rfl) rfl
set_option maxRecDepth 100000 in
set_option maxHeartbeats 4000000 in
theorem kX5_isFixed_47 (l : Launch) (G : gG) {ex : gEx} (hZ : ∀ s : State, G.2.2.2 s → kC ex (gA G zC.1) s) (hG : gOK G zC.1) (hT : G.2.2.1.map (fun q => q.2) = zC.2.1) (σ : gS) (p1 : Int32) (out : Int32) (hF : fX5_isFixed_47 σ p1 = some out) : gCi l yX5_isFixed wsX5_isFixed rmX5_isFixed G zC [.ref (G.2.1 47), .int p1] σ out σ :=
  gEnter (by decide) rfl ⟨rfl, rfl⟩ hG hT (Nat.le_of_ble_eq_true rfl) rfl (fun M X hl => wX5_isFixed_47 X hZ σ p1 hF)
noncomputable def fX5_fixedAt_47 (σ : gS) (p1 : Int32) (p2 : Int32) : Option (Int32) :=
  gd (gb p2 2) <| gd (gb p1 20) <| nm (σ.1 (18 + p2.toNatClampNeg) p1.toNatClampNeg) fun v2 => some (100 * v2)
noncomputable abbrev rmX5_fixedAt : Room := { frames := 0, cells := 0, slots := 0, locals := 0 }
set_option maxRecDepth 100000 in
set_option maxHeartbeats 4000000 in
theorem wX5_fixedAt_47 {M : gM} {G : gG} {out : Int32} (X : gX M G zC cX5_fixedAt RX5 3 wsX5_fixedAt rmX5_fixedAt (some .int)) {ex : gEx} (hZ : ∀ s : State, G.2.2.2 s → kC ex (gA G zC.1) s) (σ : gS) (p1 : Int32) (p2 : Int32) (hF : fX5_fixedAt_47 σ p1 p2 = some out) : WW M (gQi M G zC out σ) G zC 3 σ 0 [(0, .ref (G.2.1 47)), (1, .int p1), (2, .int p2)] [] := by
  unfold fX5_fixedAt_47 at hF
  refine ww_bipush (pc := 0) X (v := 100) dX5_fixedAt_0 (by decide) ?_
  refine ww_aload_n (pc := 2) X (j := 0) dX5_fixedAt_2 rfl rfl ?_
  refine ww_get (pc := 3) X (ref := "PictureBlock$Stand") (T := TX5) (j := 0) dX5_fixedAt_3 inX5_fixedAt_RX5 shzC_47 clzC_5 (by decide) rfl (List.mem_of_getElem? (i := 1) rfl) rfl ?_
  refine ww_get (pc := 6) X (ref := "PictureBlock$Told") (T := TX8) (j := 9) dX5_fixedAt_6 inX5_fixedAt_RX8 shzC_2 clzC_8 (by decide) rfl (List.mem_of_getElem? (i := 2) rfl) rfl ?_
  refine ww_iload_n (pc := 9) X (j := 2) dX5_fixedAt_9 rfl rfl ?_
  refine ww_aald (pc := 10) X dX5_fixedAt_10 shzC_17 rfl hF (fun h1 hF => ?_)
  refine ww_iload_n (pc := 11) X (j := 1) dX5_fixedAt_11 rfl rfl ?_
  refine ww_iald (pc := 12) X dX5_fixedAt_12 (rwzC_17 _ (gb_lt h1)) rfl hF (fun v2 ev2 bv2 hF => ?_)
  refine ww_imul (pc := 13) X dX5_fixedAt_13 ?_
  exact ww_iret (pc := 14) X dX5_fixedAt_14 (Option.some.inj hF) rfl
set_option maxRecDepth 100000 in
set_option maxHeartbeats 4000000 in
theorem kX5_fixedAt_47 (l : Launch) (G : gG) {ex : gEx} (hZ : ∀ s : State, G.2.2.2 s → kC ex (gA G zC.1) s) (hG : gOK G zC.1) (hT : G.2.2.1.map (fun q => q.2) = zC.2.1) (σ : gS) (p1 : Int32) (p2 : Int32) (out : Int32) (hF : fX5_fixedAt_47 σ p1 p2 = some out) : gCi l yX5_fixedAt wsX5_fixedAt rmX5_fixedAt G zC [.ref (G.2.1 47), .int p1, .int p2] σ out σ :=
  gEnter (by decide) rfl ⟨rfl, rfl⟩ hG hT (Nat.le_of_ble_eq_true rfl) rfl (fun M X hl => wX5_fixedAt_47 X hZ σ p1 p2 hF)
noncomputable def bX5_placeFixed_47_2 (σ : gS) (rec2 : Int32 → gS → Option (gS)) (a1 : Int32) (σ1 : gS) : Option (gS) :=
  gd (gb 2 6) <| nm (σ1.1 3 ((2 : Int32).toNatClampNeg)) fun v2 => (if v2 ≤ a1 then some σ1 else bd (fX5_isFixed_47 σ1 a1) fun r5 => (if r5 = 0 then nm (a1 + 1 : Int32) fun x16 => rec2 x16 σ1 else gd (gb 0 2) <| bd (fX5_fixedAt_47 σ1 a1 0) fun r9 => gd (gb a1 20) <| nm (gsI σ1 53 a1.toNatClampNeg r9) fun σ10 => gd (gb 1 2) <| bd (fX5_fixedAt_47 σ10 a1 1) fun r13 => gd (gb a1 20) <| nm (gsI σ10 54 a1.toNatClampNeg r13) fun σ14 => nm (a1 + 1 : Int32) fun x15 => rec2 x15 σ14))
noncomputable def fX5_placeFixed_47 (σ : gS) : Option (gS) :=
  nm (0 : Int32) fun x1 => lpc (S := Int32 × gS) K9 (fun rec s => bX5_placeFixed_47_2 σ (fun a1 σ1 => rec (a1, σ1)) s.1 s.2) (x1, σ)
noncomputable abbrev rmX5_placeFixed : Room := { frames := 1, cells := 0, slots := 0, locals := 22 }
set_option maxRecDepth 100000 in
set_option maxHeartbeats 4000000 in
theorem wbX5_placeFixed_47_2 {M : gM} {G : gG} {out : gS} (X : gX M G zC cX5_placeFixed RX5 2 wsX5_placeFixed rmX5_placeFixed none) {ex : gEx} (hZ : ∀ s : State, G.2.2.2 s → kC ex (gA G zC.1) s) (σ : gS) (rec2 : Int32 → gS → Option (gS)) (ih2 : ∀ (a1 : Int32) (σ1 : gS), rec2 a1 σ1 = some out → WW M (gQv M G zC out) G zC 2 σ1 2 [(0, .ref (G.2.1 47)), (1, .int a1)] []) (a1 : Int32) (σ1 : gS) (hF : bX5_placeFixed_47_2 σ rec2 a1 σ1 = some out) : WW M (gQv M G zC out) G zC 2 σ1 2 [(0, .ref (G.2.1 47)), (1, .int a1)] [] := by
  unfold bX5_placeFixed_47_2 at hF
  refine ww_iload_n (pc := 2) X (j := 1) dX5_placeFixed_2 rfl rfl ?_
  refine ww_aload_n (pc := 3) X (j := 0) dX5_placeFixed_3 rfl rfl ?_
  refine ww_get (pc := 4) X (ref := "PictureBlock$Stand") (T := TX5) (j := 0) dX5_placeFixed_4 inX5_placeFixed_RX5 shzC_47 clzC_5 (by decide) rfl (List.mem_of_getElem? (i := 1) rfl) rfl ?_
  refine ww_get (pc := 7) X (ref := "PictureBlock$Told") (T := TX8) (j := 0) dX5_placeFixed_7 inX5_placeFixed_RX8 shzC_2 clzC_8 (by decide) rfl (List.mem_of_getElem? (i := 2) rfl) rfl ?_
  refine ww_iconst (pc := 10) X (v := 2) dX5_placeFixed_10 (by decide) ?_
  refine ww_iald (pc := 11) X dX5_placeFixed_11 shzC_3 rfl hF (fun v2 ev2 bv2 hF => ?_)
  refine ww_icmp_ge (pc := 12) (tgt := 60) X dX5_placeFixed_12 (by decide) hF (fun h3 hF => ?_) (fun h3 hF => ?_)
  · exact ww_vret (pc := 60) X dX5_placeFixed_60 (by cases hF; rfl)
  · refine ww_aload_n (pc := 15) X (j := 0) dX5_placeFixed_15 rfl rfl ?_
    refine ww_iload_n (pc := 16) X (j := 1) dX5_placeFixed_16 rfl rfl ?_
    obtain ⟨r5, h4, hF⟩ := bd_some hF
    refine ww_callVi (pc := 17) X (As := [.int a1]) (rest := []) dX5_placeFixed_17 (kX5_isFixed_47 (mL M) G hZ X.2.2.2.2.2.2.1 X.2.2.2.2.2.2.2.1 σ1 a1 r5 h4) rfl shzC_47 clzC_5 gX5_placeFixed_X5_isFixed hyX5_isFixed ⟨rfl, rfl⟩ ⟨Nat.le_of_ble_eq_true rfl, Nat.le_of_ble_eq_true rfl⟩ rfl rfl (Nat.le_of_ble_eq_true rfl) ?_
    refine ww_if_ne (pc := 20) (tgt := 26) X dX5_placeFixed_20 (by decide) hF (fun h6 hF => ?_) (fun h6 hF => ?_)
    · refine ww_aload_n (pc := 26) X (j := 0) dX5_placeFixed_26 rfl rfl ?_
      refine ww_get (pc := 27) X (ref := "PictureBlock$Stand") (T := TX5) (j := 4) dX5_placeFixed_27 inX5_placeFixed_RX5 shzC_47 clzC_5 (by decide) rfl (List.mem_of_getElem? (i := 3) rfl) rfl ?_
      refine ww_iconst (pc := 30) X (v := 0) dX5_placeFixed_30 (by decide) ?_
      refine ww_aald (pc := 31) X dX5_placeFixed_31 shzC_52 rfl hF (fun h7 hF => ?_)
      show WW M _ G zC _ _ _ _ (.ref (G.2.1 53) :: _)
      refine ww_iload_n (pc := 32) X (j := 1) dX5_placeFixed_32 rfl rfl ?_
      refine ww_aload_n (pc := 33) X (j := 0) dX5_placeFixed_33 rfl rfl ?_
      refine ww_iload_n (pc := 34) X (j := 1) dX5_placeFixed_34 rfl rfl ?_
      refine ww_iconst (pc := 35) X (v := 0) dX5_placeFixed_35 (by decide) ?_
      obtain ⟨r9, h8, hF⟩ := bd_some hF
      refine ww_callVi (pc := 36) X (As := [.int a1, .int 0]) (rest := [.int a1, .ref (G.2.1 53)]) dX5_placeFixed_36 (kX5_fixedAt_47 (mL M) G hZ X.2.2.2.2.2.2.1 X.2.2.2.2.2.2.2.1 σ1 a1 0 r9 h8) rfl shzC_47 clzC_5 gX5_placeFixed_X5_fixedAt hyX5_fixedAt ⟨rfl, rfl⟩ ⟨Nat.le_of_ble_eq_true rfl, Nat.le_of_ble_eq_true rfl⟩ rfl rfl (Nat.le_of_ble_eq_true rfl) ?_
      refine ww_iast (pc := 39) X dX5_placeFixed_39 shzC_53 rfl hF (fun σ10 eσ10 bσ10 hF => ?_)
      refine ww_aload_n (pc := 40) X (j := 0) dX5_placeFixed_40 rfl rfl ?_
      refine ww_get (pc := 41) X (ref := "PictureBlock$Stand") (T := TX5) (j := 4) dX5_placeFixed_41 inX5_placeFixed_RX5 shzC_47 clzC_5 (by decide) rfl (List.mem_of_getElem? (i := 3) rfl) rfl ?_
      refine ww_iconst (pc := 44) X (v := 1) dX5_placeFixed_44 (by decide) ?_
      refine ww_aald (pc := 45) X dX5_placeFixed_45 shzC_52 rfl hF (fun h11 hF => ?_)
      show WW M _ G zC _ _ _ _ (.ref (G.2.1 54) :: _)
      refine ww_iload_n (pc := 46) X (j := 1) dX5_placeFixed_46 rfl rfl ?_
      refine ww_aload_n (pc := 47) X (j := 0) dX5_placeFixed_47 rfl rfl ?_
      refine ww_iload_n (pc := 48) X (j := 1) dX5_placeFixed_48 rfl rfl ?_
      refine ww_iconst (pc := 49) X (v := 1) dX5_placeFixed_49 (by decide) ?_
      obtain ⟨r13, h12, hF⟩ := bd_some hF
      refine ww_callVi (pc := 50) X (As := [.int a1, .int 1]) (rest := [.int a1, .ref (G.2.1 54)]) dX5_placeFixed_50 (kX5_fixedAt_47 (mL M) G hZ X.2.2.2.2.2.2.1 X.2.2.2.2.2.2.2.1 σ10 a1 1 r13 h12) rfl shzC_47 clzC_5 gX5_placeFixed_X5_fixedAt hyX5_fixedAt ⟨rfl, rfl⟩ ⟨Nat.le_of_ble_eq_true rfl, Nat.le_of_ble_eq_true rfl⟩ rfl rfl (Nat.le_of_ble_eq_true rfl) ?_
      refine ww_iast (pc := 53) X dX5_placeFixed_53 shzC_54 rfl hF (fun σ14 eσ14 bσ14 hF => ?_)
      refine ww_iinc (pc := 54) X (j := 1) (v := 1) (lv' := [(0, .ref (G.2.1 47))]) dX5_placeFixed_54 rfl rfl (by decide) rfl hF (fun x15 ex15 hF => ?_)
      refine ww_goto (pc := 57) X (tgt := 2) dX5_placeFixed_57 (by decide) ?_
      exact ww_sub [1, 0] rfl (ih2 x15 σ14 hF)
    · refine ww_goto (pc := 23) X (tgt := 54) dX5_placeFixed_23 (by decide) ?_
      refine ww_iinc (pc := 54) X (j := 1) (v := 1) (lv' := [(0, .ref (G.2.1 47))]) dX5_placeFixed_54 rfl rfl (by decide) rfl hF (fun x16 ex16 hF => ?_)
      refine ww_goto (pc := 57) X (tgt := 2) dX5_placeFixed_57 (by decide) ?_
      exact ww_sub [1, 0] rfl (ih2 x16 σ1 hF)
set_option maxRecDepth 100000 in
set_option maxHeartbeats 4000000 in
theorem wX5_placeFixed_47 {M : gM} {G : gG} {out : gS} (X : gX M G zC cX5_placeFixed RX5 2 wsX5_placeFixed rmX5_placeFixed none) {ex : gEx} (hZ : ∀ s : State, G.2.2.2 s → kC ex (gA G zC.1) s) (σ : gS) (hF : fX5_placeFixed_47 σ = some out) : WW M (gQv M G zC out) G zC 2 σ 0 [(0, .ref (G.2.1 47))] [] := by
  unfold fX5_placeFixed_47 at hF
  refine ww_iconst (pc := 0) X (v := 0) dX5_placeFixed_0 (by decide) ?_
  refine ww_istore_n (pc := 1) X (lv' := [(0, .ref (G.2.1 47))]) dX5_placeFixed_1 rfl (by decide) rfl hF (fun x1 ex1 hF => ?_)
  exact ww_sub [1, 0] rfl (lpc_ind (P := (fun (s : Int32 × gS) => WW M (gQv M G zC out) G zC 2 s.2 2 [(0, .ref (G.2.1 47)), (1, .int s.1)] [])) (fun rec s ih hF => wbX5_placeFixed_47_2 X hZ σ (fun a1 σ1 => rec (a1, σ1)) (fun a1 σ1 h => ih (a1, σ1) h) s.1 s.2 hF) K9 (x1, σ) hF)
set_option maxRecDepth 100000 in
set_option maxHeartbeats 4000000 in
theorem kX5_placeFixed_47 (l : Launch) (G : gG) {ex : gEx} (hZ : ∀ s : State, G.2.2.2 s → kC ex (gA G zC.1) s) (hG : gOK G zC.1) (hT : G.2.2.1.map (fun q => q.2) = zC.2.1) (σ : gS) (out : gS) (hF : fX5_placeFixed_47 σ = some out) : gCv l yX5_placeFixed wsX5_placeFixed rmX5_placeFixed G zC [.ref (G.2.1 47)] σ out :=
  gEnter (by decide) rfl ⟨rfl, rfl⟩ hG hT (Nat.le_of_ble_eq_true rfl) rfl (fun M X hl => wX5_placeFixed_47 X hZ σ hF)
noncomputable def fX5_uses_47 (σ : gS) (p1 : Int32) : Option (Int32) :=
  gd (gb p1 60) <| nm (σ.1 58 p1.toNatClampNeg) fun v1 => (if v1 = 0 then some 1 else some 0)
noncomputable abbrev rmX5_uses : Room := { frames := 0, cells := 0, slots := 0, locals := 0 }
set_option maxRecDepth 100000 in
set_option maxHeartbeats 4000000 in
theorem wX5_uses_47 {M : gM} {G : gG} {out : Int32} (X : gX M G zC cX5_uses RX5 2 wsX5_uses rmX5_uses (some .boolean)) {ex : gEx} (hZ : ∀ s : State, G.2.2.2 s → kC ex (gA G zC.1) s) (σ : gS) (p1 : Int32) (hF : fX5_uses_47 σ p1 = some out) : WW M (gQi M G zC out σ) G zC 2 σ 0 [(0, .ref (G.2.1 47)), (1, .int p1)] [] := by
  unfold fX5_uses_47 at hF
  refine ww_aload_n (pc := 0) X (j := 0) dX5_uses_0 rfl rfl ?_
  refine ww_get (pc := 1) X (ref := "PictureBlock$Stand") (T := TX5) (j := 6) dX5_uses_1 inX5_uses_RX5 shzC_47 clzC_5 (by decide) rfl (List.mem_of_getElem? (i := 1) rfl) rfl ?_
  refine ww_iload_n (pc := 4) X (j := 1) dX5_uses_4 rfl rfl ?_
  refine ww_iald (pc := 5) X dX5_uses_5 shzC_58 rfl hF (fun v1 ev1 bv1 hF => ?_)
  refine ww_if_ne (pc := 6) (tgt := 13) X dX5_uses_6 (by decide) hF (fun h2 hF => ?_) (fun h2 hF => ?_)
  · refine ww_iconst (pc := 13) X (v := 0) dX5_uses_13 (by decide) ?_
    exact ww_zret (pc := 14) X dX5_uses_14 (by cases hF; rfl) rfl
  · refine ww_iconst (pc := 9) X (v := 1) dX5_uses_9 (by decide) ?_
    refine ww_goto (pc := 10) X (tgt := 14) dX5_uses_10 (by decide) ?_
    exact ww_zret (pc := 14) X dX5_uses_14 (by cases hF; rfl) rfl
set_option maxRecDepth 100000 in
set_option maxHeartbeats 4000000 in
theorem kX5_uses_47 (l : Launch) (G : gG) {ex : gEx} (hZ : ∀ s : State, G.2.2.2 s → kC ex (gA G zC.1) s) (hG : gOK G zC.1) (hT : G.2.2.1.map (fun q => q.2) = zC.2.1) (σ : gS) (p1 : Int32) (out : Int32) (hF : fX5_uses_47 σ p1 = some out) : gCi l yX5_uses wsX5_uses rmX5_uses G zC [.ref (G.2.1 47), .int p1] σ out σ :=
  gEnter (by decide) rfl ⟨rfl, rfl⟩ hG hT (Nat.le_of_ble_eq_true rfl) rfl (fun M X hl => wX5_uses_47 X hZ σ p1 hF)
noncomputable def jX8_turnedBy_2_15 (σ : gS) (a2 : Int32) (z0 : Int32) : Option (Int32) :=
  nm (z0 : Int32) fun x2 => gd (gb 0 2) <| gd (gb a2 60) <| nm (σ.1 13 a2.toNatClampNeg) fun v4 => nm (100 * v4 : Int32) fun x5 => gd (gb 1 2) <| gd (gb a2 60) <| nm (σ.1 14 a2.toNatClampNeg) fun v7 => nm (100 * v7 : Int32) fun x8 => (if x2 = 0 then some x5 else if x2 = 1 then some (-x8) else if x2 = 2 then some (-x5) else some x8)
noncomputable def fX8_turnedBy_2 (σ : gS) (p1 : Int32) (p2 : Int32) (p3 : Int32) : Option (Int32) :=
  if p3 = 0 then jX8_turnedBy_2_15 σ p2 (p1 &&& 3) else jX8_turnedBy_2_15 σ p2 ((p1 + 3) &&& 3)
noncomputable abbrev rmX8_turnedBy : Room := { frames := 0, cells := 0, slots := 0, locals := 0 }
set_option maxRecDepth 100000 in
set_option maxHeartbeats 4000000 in
theorem wjX8_turnedBy_2_15 {M : gM} {G : gG} {out : Int32} (X : gX M G zC cX8_turnedBy RX8 7 wsX8_turnedBy rmX8_turnedBy (some .int)) {ex : gEx} (hZ : ∀ s : State, G.2.2.2 s → kC ex (gA G zC.1) s) (σ : gS) (a2 : Int32) (z0 : Int32) (hF : jX8_turnedBy_2_15 σ a2 z0 = some out) : WW M (gQi M G zC out σ) G zC 7 σ 15 [(0, .ref (G.2.1 2)), (2, .int a2)] [.int z0] := by
  unfold jX8_turnedBy_2_15 at hF
  refine ww_istore (pc := 15) X (lv' := [(0, .ref (G.2.1 2)), (2, .int a2)]) dX8_turnedBy_15 (by decide) rfl hF (fun x2 ex2 hF => ?_)
  refine ww_bipush (pc := 17) X (v := 100) dX8_turnedBy_17 (by decide) ?_
  refine ww_aload_n (pc := 19) X (j := 1) dX8_turnedBy_19 rfl rfl ?_
  refine ww_get (pc := 20) X (ref := "PictureBlock$Told") (T := TX8) (j := 6) dX8_turnedBy_20 inX8_turnedBy_RX8 shzC_2 clzC_8 (by decide) rfl (List.mem_of_getElem? (i := 1) rfl) rfl ?_
  refine ww_iconst (pc := 23) X (v := 0) dX8_turnedBy_23 (by decide) ?_
  refine ww_aald (pc := 24) X dX8_turnedBy_24 shzC_12 rfl hF (fun h3 hF => ?_)
  show WW M _ G zC _ _ _ _ (.ref (G.2.1 13) :: _)
  refine ww_iload_n (pc := 25) X (j := 2) dX8_turnedBy_25 rfl rfl ?_
  refine ww_iald (pc := 26) X dX8_turnedBy_26 shzC_13 rfl hF (fun v4 ev4 bv4 hF => ?_)
  refine ww_imul (pc := 27) X dX8_turnedBy_27 ?_
  refine ww_istore (pc := 28) X (lv' := [(4, .int x2), (0, .ref (G.2.1 2)), (2, .int a2)]) dX8_turnedBy_28 (by decide) rfl hF (fun x5 ex5 hF => ?_)
  refine ww_bipush (pc := 30) X (v := 100) dX8_turnedBy_30 (by decide) ?_
  refine ww_aload_n (pc := 32) X (j := 2) dX8_turnedBy_32 rfl rfl ?_
  refine ww_get (pc := 33) X (ref := "PictureBlock$Told") (T := TX8) (j := 6) dX8_turnedBy_33 inX8_turnedBy_RX8 shzC_2 clzC_8 (by decide) rfl (List.mem_of_getElem? (i := 1) rfl) rfl ?_
  refine ww_iconst (pc := 36) X (v := 1) dX8_turnedBy_36 (by decide) ?_
  refine ww_aald (pc := 37) X dX8_turnedBy_37 shzC_12 rfl hF (fun h6 hF => ?_)
  show WW M _ G zC _ _ _ _ (.ref (G.2.1 14) :: _)
  refine ww_iload_n (pc := 38) X (j := 3) dX8_turnedBy_38 rfl rfl ?_
  refine ww_iald (pc := 39) X dX8_turnedBy_39 shzC_14 rfl hF (fun v7 ev7 bv7 hF => ?_)
  refine ww_imul (pc := 40) X dX8_turnedBy_40 ?_
  refine ww_istore (pc := 41) X (lv' := [(5, .int x5), (4, .int x2), (0, .ref (G.2.1 2)), (2, .int a2)]) dX8_turnedBy_41 (by decide) rfl hF (fun x8 ex8 hF => ?_)
  refine ww_iload (pc := 43) X (j := 2) dX8_turnedBy_43 rfl ?_
  refine ww_case (v := 0) hF (fun h9 hF => ?_) (fun h9 hF => ?_)
  · refine ww_tin (pc := 45) X (off := 27) (tgt := 72) dX8_turnedBy_45 (by decide) (by decide) (by decide) (by decide) ?_
    refine ww_iload (pc := 72) X (j := 1) dX8_turnedBy_72 rfl ?_
    exact ww_iret (pc := 74) X dX8_turnedBy_74 (Option.some.inj hF) rfl
  refine ww_case (v := 1) hF (fun h10 hF => ?_) (fun h10 hF => ?_)
  · refine ww_tin (pc := 45) X (off := 30) (tgt := 75) dX8_turnedBy_45 (by decide) (by decide) (by decide) (by decide) ?_
    refine ww_iload (pc := 75) X (j := 0) dX8_turnedBy_75 rfl ?_
    refine ww_ineg (pc := 77) X dX8_turnedBy_77 ?_
    exact ww_iret (pc := 78) X dX8_turnedBy_78 (Option.some.inj hF) rfl
  refine ww_case (v := 2) hF (fun h11 hF => ?_) (fun h11 hF => ?_)
  · refine ww_tin (pc := 45) X (off := 34) (tgt := 79) dX8_turnedBy_45 (by decide) (by decide) (by decide) (by decide) ?_
    refine ww_iload (pc := 79) X (j := 1) dX8_turnedBy_79 rfl ?_
    refine ww_ineg (pc := 81) X dX8_turnedBy_81 ?_
    exact ww_iret (pc := 82) X dX8_turnedBy_82 (Option.some.inj hF) rfl
  refine ww_tout (pc := 45) X (tgt := 83) dX8_turnedBy_45 (sw_out 0 2 (fun i q1 q2 => by rcases (show i = 0 ∨ i = 1 ∨ i = 2 by omega) with rfl | rfl | rfl <;> first | exact lv_neT h9 (by decide) | exact lv_neT h10 (by decide) | exact lv_neT h11 (by decide))) (by decide) ?_
  refine ww_iload (pc := 83) X (j := 0) dX8_turnedBy_83 rfl ?_
  exact ww_iret (pc := 85) X dX8_turnedBy_85 (Option.some.inj hF) rfl
set_option maxRecDepth 100000 in
set_option maxHeartbeats 4000000 in
theorem wX8_turnedBy_2 {M : gM} {G : gG} {out : Int32} (X : gX M G zC cX8_turnedBy RX8 7 wsX8_turnedBy rmX8_turnedBy (some .int)) {ex : gEx} (hZ : ∀ s : State, G.2.2.2 s → kC ex (gA G zC.1) s) (σ : gS) (p1 : Int32) (p2 : Int32) (p3 : Int32) (hF : fX8_turnedBy_2 σ p1 p2 p3 = some out) : WW M (gQi M G zC out σ) G zC 7 σ 0 [(0, .ref (G.2.1 2)), (1, .int p1), (2, .int p2), (3, .int p3)] [] := by
  unfold fX8_turnedBy_2 at hF
  refine ww_iload_n (pc := 0) X (j := 3) dX8_turnedBy_0 rfl rfl ?_
  refine ww_if_ne (pc := 1) (tgt := 10) X dX8_turnedBy_1 (by decide) hF (fun h1 hF => ?_) (fun h1 hF => ?_)
  · refine ww_iload_n (pc := 10) X (j := 1) dX8_turnedBy_10 rfl rfl ?_
    refine ww_iconst (pc := 11) X (v := 3) dX8_turnedBy_11 (by decide) ?_
    refine ww_iadd (pc := 12) X dX8_turnedBy_12 ?_
    refine ww_iconst (pc := 13) X (v := 3) dX8_turnedBy_13 (by decide) ?_
    refine ww_iand (pc := 14) X dX8_turnedBy_14 ?_
    exact ww_sub [0, 2] rfl (wjX8_turnedBy_2_15 X hZ σ p2 ((p1 + 3) &&& 3) hF)
  · refine ww_iload_n (pc := 4) X (j := 1) dX8_turnedBy_4 rfl rfl ?_
    refine ww_iconst (pc := 5) X (v := 3) dX8_turnedBy_5 (by decide) ?_
    refine ww_iand (pc := 6) X dX8_turnedBy_6 ?_
    refine ww_goto (pc := 7) X (tgt := 15) dX8_turnedBy_7 (by decide) ?_
    exact ww_sub [0, 2] rfl (wjX8_turnedBy_2_15 X hZ σ p2 (p1 &&& 3) hF)
set_option maxRecDepth 100000 in
set_option maxHeartbeats 4000000 in
theorem kX8_turnedBy_2 (l : Launch) (G : gG) {ex : gEx} (hZ : ∀ s : State, G.2.2.2 s → kC ex (gA G zC.1) s) (hG : gOK G zC.1) (hT : G.2.2.1.map (fun q => q.2) = zC.2.1) (σ : gS) (p1 : Int32) (p2 : Int32) (p3 : Int32) (out : Int32) (hF : fX8_turnedBy_2 σ p1 p2 p3 = some out) : gCi l yX8_turnedBy wsX8_turnedBy rmX8_turnedBy G zC [.ref (G.2.1 2), .int p1, .int p2, .int p3] σ out σ :=
  gEnter (by decide) rfl ⟨rfl, rfl⟩ hG hT (Nat.le_of_ble_eq_true rfl) rfl (fun M X hl => wX8_turnedBy_2 X hZ σ p1 p2 p3 hF)
noncomputable def fX5_putAt_47 (σ : gS) (p1 : Int32) (p2 : Int32) : Option (Int32) :=
  gd (gb p1 60) <| nm (σ.1 10 p1.toNatClampNeg) fun v1 => nm (v1 : Int32) fun x2 => gd (gb p2 2) <| gd (gb x2 12) <| nm (σ.1 (50 + p2.toNatClampNeg) x2.toNatClampNeg) fun v4 => gd (gb x2 12) <| nm (σ.1 48 x2.toNatClampNeg) fun v5 => bd (fX8_turnedBy_2 σ v5 p1 p2) fun r7 => some (v4 + r7)
noncomputable abbrev rmX5_putAt : Room := { frames := 1, cells := 0, slots := 0, locals := 26 }
set_option maxRecDepth 100000 in
set_option maxHeartbeats 4000000 in
theorem wX5_putAt_47 {M : gM} {G : gG} {out : Int32} (X : gX M G zC cX5_putAt RX5 4 wsX5_putAt rmX5_putAt (some .int)) {ex : gEx} (hZ : ∀ s : State, G.2.2.2 s → kC ex (gA G zC.1) s) (σ : gS) (p1 : Int32) (p2 : Int32) (hF : fX5_putAt_47 σ p1 p2 = some out) : WW M (gQi M G zC out σ) G zC 4 σ 0 [(0, .ref (G.2.1 47)), (1, .int p1), (2, .int p2)] [] := by
  unfold fX5_putAt_47 at hF
  refine ww_aload_n (pc := 0) X (j := 0) dX5_putAt_0 rfl rfl ?_
  refine ww_get (pc := 1) X (ref := "PictureBlock$Stand") (T := TX5) (j := 0) dX5_putAt_1 inX5_putAt_RX5 shzC_47 clzC_5 (by decide) rfl (List.mem_of_getElem? (i := 1) rfl) rfl ?_
  refine ww_get (pc := 4) X (ref := "PictureBlock$Told") (T := TX8) (j := 4) dX5_putAt_4 inX5_putAt_RX8 shzC_2 clzC_8 (by decide) rfl (List.mem_of_getElem? (i := 2) rfl) rfl ?_
  refine ww_iload_n (pc := 7) X (j := 1) dX5_putAt_7 rfl rfl ?_
  refine ww_iald (pc := 8) X dX5_putAt_8 shzC_10 rfl hF (fun v1 ev1 bv1 hF => ?_)
  refine ww_istore_n (pc := 9) X (lv' := [(0, .ref (G.2.1 47)), (1, .int p1), (2, .int p2)]) dX5_putAt_9 rfl (by decide) rfl hF (fun x2 ex2 hF => ?_)
  refine ww_aload_n (pc := 10) X (j := 1) dX5_putAt_10 rfl rfl ?_
  refine ww_get (pc := 11) X (ref := "PictureBlock$Stand") (T := TX5) (j := 3) dX5_putAt_11 inX5_putAt_RX5 shzC_47 clzC_5 (by decide) rfl (List.mem_of_getElem? (i := 3) rfl) rfl ?_
  refine ww_iload_n (pc := 14) X (j := 3) dX5_putAt_14 rfl rfl ?_
  refine ww_aald (pc := 15) X dX5_putAt_15 shzC_49 rfl hF (fun h3 hF => ?_)
  refine ww_iload_n (pc := 16) X (j := 0) dX5_putAt_16 rfl rfl ?_
  refine ww_iald (pc := 17) X dX5_putAt_17 (rwzC_49 _ (gb_lt h3)) rfl hF (fun v4 ev4 bv4 hF => ?_)
  refine ww_aload_n (pc := 18) X (j := 1) dX5_putAt_18 rfl rfl ?_
  refine ww_get (pc := 19) X (ref := "PictureBlock$Stand") (T := TX5) (j := 0) dX5_putAt_19 inX5_putAt_RX5 shzC_47 clzC_5 (by decide) rfl (List.mem_of_getElem? (i := 1) rfl) rfl ?_
  refine ww_aload_n (pc := 22) X (j := 1) dX5_putAt_22 rfl rfl ?_
  refine ww_get (pc := 23) X (ref := "PictureBlock$Stand") (T := TX5) (j := 2) dX5_putAt_23 inX5_putAt_RX5 shzC_47 clzC_5 (by decide) rfl (List.mem_of_getElem? (i := 4) rfl) rfl ?_
  refine ww_iload_n (pc := 26) X (j := 0) dX5_putAt_26 rfl rfl ?_
  refine ww_iald (pc := 27) X dX5_putAt_27 shzC_48 rfl hF (fun v5 ev5 bv5 hF => ?_)
  refine ww_iload_n (pc := 28) X (j := 2) dX5_putAt_28 rfl rfl ?_
  refine ww_iload_n (pc := 29) X (j := 3) dX5_putAt_29 rfl rfl ?_
  obtain ⟨r7, h6, hF⟩ := bd_some hF
  refine ww_callVi (pc := 30) X (As := [.int v5, .int p1, .int p2]) (rest := [.int v4]) dX5_putAt_30 (kX8_turnedBy_2 (mL M) G hZ X.2.2.2.2.2.2.1 X.2.2.2.2.2.2.2.1 σ v5 p1 p2 r7 h6) rfl shzC_2 clzC_8 gX5_putAt_X8_turnedBy hyX8_turnedBy ⟨rfl, rfl⟩ ⟨Nat.le_of_ble_eq_true rfl, Nat.le_of_ble_eq_true rfl⟩ rfl rfl (Nat.le_of_ble_eq_true rfl) ?_
  refine ww_iadd (pc := 33) X dX5_putAt_33 ?_
  exact ww_iret (pc := 34) X dX5_putAt_34 (Option.some.inj hF) rfl
set_option maxRecDepth 100000 in
set_option maxHeartbeats 4000000 in
theorem kX5_putAt_47 (l : Launch) (G : gG) {ex : gEx} (hZ : ∀ s : State, G.2.2.2 s → kC ex (gA G zC.1) s) (hG : gOK G zC.1) (hT : G.2.2.1.map (fun q => q.2) = zC.2.1) (σ : gS) (p1 : Int32) (p2 : Int32) (out : Int32) (hF : fX5_putAt_47 σ p1 p2 = some out) : gCi l yX5_putAt wsX5_putAt rmX5_putAt G zC [.ref (G.2.1 47), .int p1, .int p2] σ out σ :=
  gEnter (by decide) rfl ⟨rfl, rfl⟩ hG hT (Nat.le_of_ble_eq_true rfl) rfl (fun M X hl => wX5_putAt_47 X hZ σ p1 p2 hF)
noncomputable def bX6_putPoints_12 (σ : gS) (rec12 : Int32 → gS → Option (gS)) (a1 : Int32) (σ1 : gS) : Option (gS) :=
  if a1 < 0 then bd (fX5_placeFixed_47 σ1) fun σ5 => some σ5 else bd (fX5_uses_47 σ1 a1) fun r7 => (if r7 = 0 then nm (a1 + (-1) : Int32) fun x20 => rec12 x20 σ1 else gd (gb 0 2) <| gd (gb a1 60) <| nm (σ1.1 11 a1.toNatClampNeg) fun v10 => bd (fX5_putAt_47 σ1 a1 0) fun r12 => gd (gb v10 20) <| nm (gsI σ1 53 v10.toNatClampNeg r12) fun σ13 => gd (gb 1 2) <| gd (gb a1 60) <| nm (σ13.1 11 a1.toNatClampNeg) fun v15 => bd (fX5_putAt_47 σ13 a1 1) fun r17 => gd (gb v15 20) <| nm (gsI σ13 54 v15.toNatClampNeg r17) fun σ18 => nm (a1 + (-1) : Int32) fun x19 => rec12 x19 σ18)
noncomputable def fX6_putPoints (σ : gS) : Option (gS) :=
  gd (gb 3 6) <| nm (σ.1 3 ((3 : Int32).toNatClampNeg)) fun v1 => nm (v1 - 1 : Int32) fun x2 => lpc (S := Int32 × gS) K9 (fun rec s => bX6_putPoints_12 σ (fun a1 σ1 => rec (a1, σ1)) s.1 s.2) (x2, σ)
noncomputable abbrev rmX6_putPoints : Room := { frames := 2, cells := 0, slots := 0, locals := 49 }
set_option maxRecDepth 100000 in
set_option maxHeartbeats 4000000 in
theorem wbX6_putPoints_12 {M : gM} {G : gG} {out : gS} (X : gX M G zC cX6_putPoints RX6 2 wsX6_putPoints rmX6_putPoints none) {ex : gEx} (hZ : ∀ s : State, G.2.2.2 s → kC ex (gA G zC.1) s) (σ : gS) (rec12 : Int32 → gS → Option (gS)) (ih12 : ∀ (a1 : Int32) (σ1 : gS), rec12 a1 σ1 = some out → WW M (gQv M G zC out) G zC 2 σ1 12 [(0, .ref (G.2.1 83)), (1, .int a1)] []) (a1 : Int32) (σ1 : gS) (hF : bX6_putPoints_12 σ rec12 a1 σ1 = some out) : WW M (gQv M G zC out) G zC 2 σ1 12 [(0, .ref (G.2.1 83)), (1, .int a1)] [] := by
  unfold bX6_putPoints_12 at hF
  refine ww_iload_n (pc := 12) X (j := 1) dX6_putPoints_12 rfl rfl ?_
  refine ww_if_lt (pc := 13) (tgt := 92) X dX6_putPoints_13 (by decide) hF (fun h3 hF => ?_) (fun h3 hF => ?_)
  · refine ww_aload_n (pc := 92) X (j := 0) dX6_putPoints_92 rfl rfl ?_
    refine ww_get (pc := 93) X (ref := "PictureBlock$Starter") (T := TX6) (j := 1) dX6_putPoints_93 inX6_putPoints_RX6 shzC_83 clzC_6 (by decide) rfl (List.mem_of_getElem? (i := 3) rfl) rfl ?_
    obtain ⟨σ5, h4, hF⟩ := bd_some hF
    refine ww_callVv (pc := 96) X (As := []) (rest := []) dX6_putPoints_96 (kX5_placeFixed_47 (mL M) G hZ X.2.2.2.2.2.2.1 X.2.2.2.2.2.2.2.1 σ1 σ5 h4) rfl shzC_47 clzC_5 gX6_putPoints_X5_placeFixed hyX5_placeFixed ⟨rfl, rfl⟩ ⟨Nat.le_of_ble_eq_true rfl, Nat.le_of_ble_eq_true rfl⟩ rfl rfl (Nat.le_of_ble_eq_true rfl) ?_
    exact ww_vret (pc := 99) X dX6_putPoints_99 (by cases hF; rfl)
  · refine ww_aload_n (pc := 16) X (j := 0) dX6_putPoints_16 rfl rfl ?_
    refine ww_get (pc := 17) X (ref := "PictureBlock$Starter") (T := TX6) (j := 1) dX6_putPoints_17 inX6_putPoints_RX6 shzC_83 clzC_6 (by decide) rfl (List.mem_of_getElem? (i := 3) rfl) rfl ?_
    refine ww_iload_n (pc := 20) X (j := 1) dX6_putPoints_20 rfl rfl ?_
    obtain ⟨r7, h6, hF⟩ := bd_some hF
    refine ww_callVi (pc := 21) X (As := [.int a1]) (rest := []) dX6_putPoints_21 (kX5_uses_47 (mL M) G hZ X.2.2.2.2.2.2.1 X.2.2.2.2.2.2.2.1 σ1 a1 r7 h6) rfl shzC_47 clzC_5 gX6_putPoints_X5_uses hyX5_uses ⟨rfl, rfl⟩ ⟨Nat.le_of_ble_eq_true rfl, Nat.le_of_ble_eq_true rfl⟩ rfl rfl (Nat.le_of_ble_eq_true rfl) ?_
    refine ww_if_ne (pc := 24) (tgt := 30) X dX6_putPoints_24 (by decide) hF (fun h8 hF => ?_) (fun h8 hF => ?_)
    · refine ww_aload_n (pc := 30) X (j := 0) dX6_putPoints_30 rfl rfl ?_
      refine ww_get (pc := 31) X (ref := "PictureBlock$Starter") (T := TX6) (j := 1) dX6_putPoints_31 inX6_putPoints_RX6 shzC_83 clzC_6 (by decide) rfl (List.mem_of_getElem? (i := 3) rfl) rfl ?_
      refine ww_get (pc := 34) X (ref := "PictureBlock$Stand") (T := TX5) (j := 4) dX6_putPoints_34 inX6_putPoints_RX5 shzC_47 clzC_5 (by decide) rfl (List.mem_of_getElem? (i := 4) rfl) rfl ?_
      refine ww_iconst (pc := 37) X (v := 0) dX6_putPoints_37 (by decide) ?_
      refine ww_aald (pc := 38) X dX6_putPoints_38 shzC_52 rfl hF (fun h9 hF => ?_)
      show WW M _ G zC _ _ _ _ (.ref (G.2.1 53) :: _)
      refine ww_aload_n (pc := 39) X (j := 0) dX6_putPoints_39 rfl rfl ?_
      refine ww_get (pc := 40) X (ref := "PictureBlock$Starter") (T := TX6) (j := 0) dX6_putPoints_40 inX6_putPoints_RX6 shzC_83 clzC_6 (by decide) rfl (List.mem_of_getElem? (i := 1) rfl) rfl ?_
      refine ww_get (pc := 43) X (ref := "PictureBlock$Told") (T := TX8) (j := 5) dX6_putPoints_43 inX6_putPoints_RX8 shzC_2 clzC_8 (by decide) rfl (List.mem_of_getElem? (i := 5) rfl) rfl ?_
      refine ww_iload_n (pc := 46) X (j := 1) dX6_putPoints_46 rfl rfl ?_
      refine ww_iald (pc := 47) X dX6_putPoints_47 shzC_11 rfl hF (fun v10 ev10 bv10 hF => ?_)
      refine ww_aload_n (pc := 48) X (j := 0) dX6_putPoints_48 rfl rfl ?_
      refine ww_get (pc := 49) X (ref := "PictureBlock$Starter") (T := TX6) (j := 1) dX6_putPoints_49 inX6_putPoints_RX6 shzC_83 clzC_6 (by decide) rfl (List.mem_of_getElem? (i := 3) rfl) rfl ?_
      refine ww_iload_n (pc := 52) X (j := 1) dX6_putPoints_52 rfl rfl ?_
      refine ww_iconst (pc := 53) X (v := 0) dX6_putPoints_53 (by decide) ?_
      obtain ⟨r12, h11, hF⟩ := bd_some hF
      refine ww_callVi (pc := 54) X (As := [.int a1, .int 0]) (rest := [.int v10, .ref (G.2.1 53)]) dX6_putPoints_54 (kX5_putAt_47 (mL M) G hZ X.2.2.2.2.2.2.1 X.2.2.2.2.2.2.2.1 σ1 a1 0 r12 h11) rfl shzC_47 clzC_5 gX6_putPoints_X5_putAt hyX5_putAt ⟨rfl, rfl⟩ ⟨Nat.le_of_ble_eq_true rfl, Nat.le_of_ble_eq_true rfl⟩ rfl rfl (Nat.le_of_ble_eq_true rfl) ?_
      refine ww_iast (pc := 57) X dX6_putPoints_57 shzC_53 rfl hF (fun σ13 eσ13 bσ13 hF => ?_)
      refine ww_aload_n (pc := 58) X (j := 0) dX6_putPoints_58 rfl rfl ?_
      refine ww_get (pc := 59) X (ref := "PictureBlock$Starter") (T := TX6) (j := 1) dX6_putPoints_59 inX6_putPoints_RX6 shzC_83 clzC_6 (by decide) rfl (List.mem_of_getElem? (i := 3) rfl) rfl ?_
      refine ww_get (pc := 62) X (ref := "PictureBlock$Stand") (T := TX5) (j := 4) dX6_putPoints_62 inX6_putPoints_RX5 shzC_47 clzC_5 (by decide) rfl (List.mem_of_getElem? (i := 4) rfl) rfl ?_
      refine ww_iconst (pc := 65) X (v := 1) dX6_putPoints_65 (by decide) ?_
      refine ww_aald (pc := 66) X dX6_putPoints_66 shzC_52 rfl hF (fun h14 hF => ?_)
      show WW M _ G zC _ _ _ _ (.ref (G.2.1 54) :: _)
      refine ww_aload_n (pc := 67) X (j := 0) dX6_putPoints_67 rfl rfl ?_
      refine ww_get (pc := 68) X (ref := "PictureBlock$Starter") (T := TX6) (j := 0) dX6_putPoints_68 inX6_putPoints_RX6 shzC_83 clzC_6 (by decide) rfl (List.mem_of_getElem? (i := 1) rfl) rfl ?_
      refine ww_get (pc := 71) X (ref := "PictureBlock$Told") (T := TX8) (j := 5) dX6_putPoints_71 inX6_putPoints_RX8 shzC_2 clzC_8 (by decide) rfl (List.mem_of_getElem? (i := 5) rfl) rfl ?_
      refine ww_iload_n (pc := 74) X (j := 1) dX6_putPoints_74 rfl rfl ?_
      refine ww_iald (pc := 75) X dX6_putPoints_75 shzC_11 rfl hF (fun v15 ev15 bv15 hF => ?_)
      refine ww_aload_n (pc := 76) X (j := 0) dX6_putPoints_76 rfl rfl ?_
      refine ww_get (pc := 77) X (ref := "PictureBlock$Starter") (T := TX6) (j := 1) dX6_putPoints_77 inX6_putPoints_RX6 shzC_83 clzC_6 (by decide) rfl (List.mem_of_getElem? (i := 3) rfl) rfl ?_
      refine ww_iload_n (pc := 80) X (j := 1) dX6_putPoints_80 rfl rfl ?_
      refine ww_iconst (pc := 81) X (v := 1) dX6_putPoints_81 (by decide) ?_
      obtain ⟨r17, h16, hF⟩ := bd_some hF
      refine ww_callVi (pc := 82) X (As := [.int a1, .int 1]) (rest := [.int v15, .ref (G.2.1 54)]) dX6_putPoints_82 (kX5_putAt_47 (mL M) G hZ X.2.2.2.2.2.2.1 X.2.2.2.2.2.2.2.1 σ13 a1 1 r17 h16) rfl shzC_47 clzC_5 gX6_putPoints_X5_putAt hyX5_putAt ⟨rfl, rfl⟩ ⟨Nat.le_of_ble_eq_true rfl, Nat.le_of_ble_eq_true rfl⟩ rfl rfl (Nat.le_of_ble_eq_true rfl) ?_
      refine ww_iast (pc := 85) X dX6_putPoints_85 shzC_54 rfl hF (fun σ18 eσ18 bσ18 hF => ?_)
      refine ww_iinc (pc := 86) X (j := 1) (v := (-1)) (lv' := [(0, .ref (G.2.1 83))]) dX6_putPoints_86 rfl rfl (by decide) rfl hF (fun x19 ex19 hF => ?_)
      refine ww_goto (pc := 89) X (tgt := 12) dX6_putPoints_89 (by decide) ?_
      exact ww_sub [1, 0] rfl (ih12 x19 σ18 hF)
    · refine ww_goto (pc := 27) X (tgt := 86) dX6_putPoints_27 (by decide) ?_
      refine ww_iinc (pc := 86) X (j := 1) (v := (-1)) (lv' := [(0, .ref (G.2.1 83))]) dX6_putPoints_86 rfl rfl (by decide) rfl hF (fun x20 ex20 hF => ?_)
      refine ww_goto (pc := 89) X (tgt := 12) dX6_putPoints_89 (by decide) ?_
      exact ww_sub [1, 0] rfl (ih12 x20 σ1 hF)
set_option maxRecDepth 100000 in
set_option maxHeartbeats 4000000 in
theorem wX6_putPoints {M : gM} {G : gG} {out : gS} (X : gX M G zC cX6_putPoints RX6 2 wsX6_putPoints rmX6_putPoints none) {ex : gEx} (hZ : ∀ s : State, G.2.2.2 s → kC ex (gA G zC.1) s) (σ : gS) (hF : fX6_putPoints σ = some out) : WW M (gQv M G zC out) G zC 2 σ 0 [(0, .ref (G.2.1 83))] [] := by
  unfold fX6_putPoints at hF
  refine ww_aload_n (pc := 0) X (j := 0) dX6_putPoints_0 rfl rfl ?_
  refine ww_get (pc := 1) X (ref := "PictureBlock$Starter") (T := TX6) (j := 0) dX6_putPoints_1 inX6_putPoints_RX6 shzC_83 clzC_6 (by decide) rfl (List.mem_of_getElem? (i := 1) rfl) rfl ?_
  refine ww_get (pc := 4) X (ref := "PictureBlock$Told") (T := TX8) (j := 0) dX6_putPoints_4 inX6_putPoints_RX8 shzC_2 clzC_8 (by decide) rfl (List.mem_of_getElem? (i := 2) rfl) rfl ?_
  refine ww_iconst (pc := 7) X (v := 3) dX6_putPoints_7 (by decide) ?_
  refine ww_iald (pc := 8) X dX6_putPoints_8 shzC_3 rfl hF (fun v1 ev1 bv1 hF => ?_)
  refine ww_iconst (pc := 9) X (v := 1) dX6_putPoints_9 (by decide) ?_
  refine ww_isub (pc := 10) X dX6_putPoints_10 ?_
  refine ww_istore_n (pc := 11) X (lv' := [(0, .ref (G.2.1 83))]) dX6_putPoints_11 rfl (by decide) rfl hF (fun x2 ex2 hF => ?_)
  exact ww_sub [1, 0] rfl (lpc_ind (P := (fun (s : Int32 × gS) => WW M (gQv M G zC out) G zC 2 s.2 12 [(0, .ref (G.2.1 83)), (1, .int s.1)] [])) (fun rec s ih hF => wbX6_putPoints_12 X hZ σ (fun a1 σ1 => rec (a1, σ1)) (fun a1 σ1 h => ih (a1, σ1) h) s.1 s.2 hF) K9 (x2, σ) hF)
set_option maxRecDepth 100000 in
set_option maxHeartbeats 4000000 in
theorem kX6_putPoints (l : Launch) (G : gG) {ex : gEx} (hZ : ∀ s : State, G.2.2.2 s → kC ex (gA G zC.1) s) (hG : gOK G zC.1) (hT : G.2.2.1.map (fun q => q.2) = zC.2.1) (σ : gS) (out : gS) (hF : fX6_putPoints σ = some out) : gCv l yX6_putPoints wsX6_putPoints rmX6_putPoints G zC [.ref (G.2.1 83)] σ out :=
  gEnter (by decide) rfl ⟨rfl, rfl⟩ hG hT (Nat.le_of_ble_eq_true rfl) rfl (fun M X hl => wX6_putPoints X hZ σ hF)
noncomputable def bX6_gatherStarted_20 (σ : gS) (rec20 : Int32 → gS → Option (gS)) (a1 : Int32) (σ1 : gS) : Option (gS) :=
  if a1 < 0 then some σ1 else bd (fX5_uses_47 σ1 a1) fun r7 => (if r7 = 0 then nm (a1 + (-1) : Int32) fun x9 => rec20 x9 σ1 else gd (gb a1 60) <| nm (σ1.1 10 a1.toNatClampNeg) fun v10 => gd (gb v10 12) <| nm (σ1.1 84 v10.toNatClampNeg) fun v11 => (if v11 = 0 then nm (a1 + (-1) : Int32) fun x25 => rec20 x25 σ1 else gd (gb a1 60) <| nm (σ1.1 11 a1.toNatClampNeg) fun v13 => nm (v13 : Int32) fun x14 => gd (gb x14 20) <| nm (gsI σ1 85 x14.toNatClampNeg 1) fun σ15 => gd (gb 0 2) <| bd (fX5_putAt_47 σ15 a1 0) fun r18 => gd (gb x14 20) <| nm (gsI σ15 88 x14.toNatClampNeg r18) fun σ19 => gd (gb 1 2) <| bd (fX5_putAt_47 σ19 a1 1) fun r22 => gd (gb x14 20) <| nm (gsI σ19 89 x14.toNatClampNeg r22) fun σ23 => nm (a1 + (-1) : Int32) fun x24 => rec20 x24 σ23))
noncomputable def fX6_gatherStarted (σ : gS) : Option (gS) :=
  bd (fJ7_fill_53178 σ 85 0) fun σ2 => gd (gb 3 6) <| nm (σ2.1 3 ((3 : Int32).toNatClampNeg)) fun v3 => nm (v3 - 1 : Int32) fun x4 => lpc (S := Int32 × gS) K9 (fun rec s => bX6_gatherStarted_20 σ2 (fun a1 σ1 => rec (a1, σ1)) s.1 s.2) (x4, σ2)
noncomputable abbrev rmX6_gatherStarted : Room := { frames := 2, cells := 0, slots := 0, locals := 49 }
set_option maxRecDepth 100000 in
set_option maxHeartbeats 4000000 in
theorem wbX6_gatherStarted_20 {M : gM} {G : gG} {out : gS} (X : gX M G zC cX6_gatherStarted RX6 3 wsX6_gatherStarted rmX6_gatherStarted none) {ex : gEx} (hZ : ∀ s : State, G.2.2.2 s → kC ex (gA G zC.1) s) (σ : gS) (rec20 : Int32 → gS → Option (gS)) (ih20 : ∀ (a1 : Int32) (σ1 : gS), rec20 a1 σ1 = some out → WW M (gQv M G zC out) G zC 3 σ1 20 [(0, .ref (G.2.1 83)), (1, .int a1)] []) (a1 : Int32) (σ1 : gS) (hF : bX6_gatherStarted_20 σ rec20 a1 σ1 = some out) : WW M (gQv M G zC out) G zC 3 σ1 20 [(0, .ref (G.2.1 83)), (1, .int a1)] [] := by
  unfold bX6_gatherStarted_20 at hF
  refine ww_iload_n (pc := 20) X (j := 1) dX6_gatherStarted_20 rfl rfl ?_
  refine ww_if_lt (pc := 21) (tgt := 112) X dX6_gatherStarted_21 (by decide) hF (fun h5 hF => ?_) (fun h5 hF => ?_)
  · exact ww_vret (pc := 112) X dX6_gatherStarted_112 (by cases hF; rfl)
  · refine ww_aload_n (pc := 24) X (j := 0) dX6_gatherStarted_24 rfl rfl ?_
    refine ww_get (pc := 25) X (ref := "PictureBlock$Starter") (T := TX6) (j := 1) dX6_gatherStarted_25 inX6_gatherStarted_RX6 shzC_83 clzC_6 (by decide) rfl (List.mem_of_getElem? (i := 4) rfl) rfl ?_
    refine ww_iload_n (pc := 28) X (j := 1) dX6_gatherStarted_28 rfl rfl ?_
    obtain ⟨r7, h6, hF⟩ := bd_some hF
    refine ww_callVi (pc := 29) X (As := [.int a1]) (rest := []) dX6_gatherStarted_29 (kX5_uses_47 (mL M) G hZ X.2.2.2.2.2.2.1 X.2.2.2.2.2.2.2.1 σ1 a1 r7 h6) rfl shzC_47 clzC_5 gX6_gatherStarted_X5_uses hyX5_uses ⟨rfl, rfl⟩ ⟨Nat.le_of_ble_eq_true rfl, Nat.le_of_ble_eq_true rfl⟩ rfl rfl (Nat.le_of_ble_eq_true rfl) ?_
    refine ww_if_eq (pc := 32) (tgt := 106) X dX6_gatherStarted_32 (by decide) hF (fun h8 hF => ?_) (fun h8 hF => ?_)
    · refine ww_iinc (pc := 106) X (j := 1) (v := (-1)) (lv' := [(0, .ref (G.2.1 83))]) dX6_gatherStarted_106 rfl rfl (by decide) rfl hF (fun x9 ex9 hF => ?_)
      refine ww_goto (pc := 109) X (tgt := 20) dX6_gatherStarted_109 (by decide) ?_
      exact ww_sub [1, 0] rfl (ih20 x9 σ1 hF)
    · refine ww_aload_n (pc := 35) X (j := 0) dX6_gatherStarted_35 rfl rfl ?_
      refine ww_get (pc := 36) X (ref := "PictureBlock$Starter") (T := TX6) (j := 2) dX6_gatherStarted_36 inX6_gatherStarted_RX6 shzC_83 clzC_6 (by decide) rfl (List.mem_of_getElem? (i := 5) rfl) rfl ?_
      refine ww_aload_n (pc := 39) X (j := 0) dX6_gatherStarted_39 rfl rfl ?_
      refine ww_get (pc := 40) X (ref := "PictureBlock$Starter") (T := TX6) (j := 0) dX6_gatherStarted_40 inX6_gatherStarted_RX6 shzC_83 clzC_6 (by decide) rfl (List.mem_of_getElem? (i := 2) rfl) rfl ?_
      refine ww_get (pc := 43) X (ref := "PictureBlock$Told") (T := TX8) (j := 4) dX6_gatherStarted_43 inX6_gatherStarted_RX8 shzC_2 clzC_8 (by decide) rfl (List.mem_of_getElem? (i := 6) rfl) rfl ?_
      refine ww_iload_n (pc := 46) X (j := 1) dX6_gatherStarted_46 rfl rfl ?_
      refine ww_iald (pc := 47) X dX6_gatherStarted_47 shzC_10 rfl hF (fun v10 ev10 bv10 hF => ?_)
      refine ww_iald (pc := 48) X dX6_gatherStarted_48 shzC_84 rfl hF (fun v11 ev11 bv11 hF => ?_)
      refine ww_if_ne (pc := 49) (tgt := 55) X dX6_gatherStarted_49 (by decide) hF (fun h12 hF => ?_) (fun h12 hF => ?_)
      · refine ww_aload_n (pc := 55) X (j := 0) dX6_gatherStarted_55 rfl rfl ?_
        refine ww_get (pc := 56) X (ref := "PictureBlock$Starter") (T := TX6) (j := 0) dX6_gatherStarted_56 inX6_gatherStarted_RX6 shzC_83 clzC_6 (by decide) rfl (List.mem_of_getElem? (i := 2) rfl) rfl ?_
        refine ww_get (pc := 59) X (ref := "PictureBlock$Told") (T := TX8) (j := 5) dX6_gatherStarted_59 inX6_gatherStarted_RX8 shzC_2 clzC_8 (by decide) rfl (List.mem_of_getElem? (i := 7) rfl) rfl ?_
        refine ww_iload_n (pc := 62) X (j := 1) dX6_gatherStarted_62 rfl rfl ?_
        refine ww_iald (pc := 63) X dX6_gatherStarted_63 shzC_11 rfl hF (fun v13 ev13 bv13 hF => ?_)
        refine ww_istore_n (pc := 64) X (lv' := [(0, .ref (G.2.1 83)), (1, .int a1)]) dX6_gatherStarted_64 rfl (by decide) rfl hF (fun x14 ex14 hF => ?_)
        refine ww_aload_n (pc := 65) X (j := 1) dX6_gatherStarted_65 rfl rfl ?_
        refine ww_get (pc := 66) X (ref := "PictureBlock$Starter") (T := TX6) (j := 3) dX6_gatherStarted_66 inX6_gatherStarted_RX6 shzC_83 clzC_6 (by decide) rfl (List.mem_of_getElem? (i := 1) rfl) rfl ?_
        refine ww_iload_n (pc := 69) X (j := 0) dX6_gatherStarted_69 rfl rfl ?_
        refine ww_iconst (pc := 70) X (v := 1) dX6_gatherStarted_70 (by decide) ?_
        refine ww_iast (pc := 71) X dX6_gatherStarted_71 shzC_85 rfl hF (fun σ15 eσ15 bσ15 hF => ?_)
        refine ww_aload_n (pc := 72) X (j := 1) dX6_gatherStarted_72 rfl rfl ?_
        refine ww_get (pc := 73) X (ref := "PictureBlock$Starter") (T := TX6) (j := 5) dX6_gatherStarted_73 inX6_gatherStarted_RX6 shzC_83 clzC_6 (by decide) rfl (List.mem_of_getElem? (i := 8) rfl) rfl ?_
        refine ww_iconst (pc := 76) X (v := 0) dX6_gatherStarted_76 (by decide) ?_
        refine ww_aald (pc := 77) X dX6_gatherStarted_77 shzC_87 rfl hF (fun h16 hF => ?_)
        show WW M _ G zC _ _ _ _ (.ref (G.2.1 88) :: _)
        refine ww_iload_n (pc := 78) X (j := 0) dX6_gatherStarted_78 rfl rfl ?_
        refine ww_aload_n (pc := 79) X (j := 1) dX6_gatherStarted_79 rfl rfl ?_
        refine ww_get (pc := 80) X (ref := "PictureBlock$Starter") (T := TX6) (j := 1) dX6_gatherStarted_80 inX6_gatherStarted_RX6 shzC_83 clzC_6 (by decide) rfl (List.mem_of_getElem? (i := 4) rfl) rfl ?_
        refine ww_iload_n (pc := 83) X (j := 2) dX6_gatherStarted_83 rfl rfl ?_
        refine ww_iconst (pc := 84) X (v := 0) dX6_gatherStarted_84 (by decide) ?_
        obtain ⟨r18, h17, hF⟩ := bd_some hF
        refine ww_callVi (pc := 85) X (As := [.int a1, .int 0]) (rest := [.int x14, .ref (G.2.1 88)]) dX6_gatherStarted_85 (kX5_putAt_47 (mL M) G hZ X.2.2.2.2.2.2.1 X.2.2.2.2.2.2.2.1 σ15 a1 0 r18 h17) rfl shzC_47 clzC_5 gX6_gatherStarted_X5_putAt hyX5_putAt ⟨rfl, rfl⟩ ⟨Nat.le_of_ble_eq_true rfl, Nat.le_of_ble_eq_true rfl⟩ rfl rfl (Nat.le_of_ble_eq_true rfl) ?_
        refine ww_iast (pc := 88) X dX6_gatherStarted_88 shzC_88 rfl hF (fun σ19 eσ19 bσ19 hF => ?_)
        refine ww_aload_n (pc := 89) X (j := 1) dX6_gatherStarted_89 rfl rfl ?_
        refine ww_get (pc := 90) X (ref := "PictureBlock$Starter") (T := TX6) (j := 5) dX6_gatherStarted_90 inX6_gatherStarted_RX6 shzC_83 clzC_6 (by decide) rfl (List.mem_of_getElem? (i := 8) rfl) rfl ?_
        refine ww_iconst (pc := 93) X (v := 1) dX6_gatherStarted_93 (by decide) ?_
        refine ww_aald (pc := 94) X dX6_gatherStarted_94 shzC_87 rfl hF (fun h20 hF => ?_)
        show WW M _ G zC _ _ _ _ (.ref (G.2.1 89) :: _)
        refine ww_iload_n (pc := 95) X (j := 0) dX6_gatherStarted_95 rfl rfl ?_
        refine ww_aload_n (pc := 96) X (j := 1) dX6_gatherStarted_96 rfl rfl ?_
        refine ww_get (pc := 97) X (ref := "PictureBlock$Starter") (T := TX6) (j := 1) dX6_gatherStarted_97 inX6_gatherStarted_RX6 shzC_83 clzC_6 (by decide) rfl (List.mem_of_getElem? (i := 4) rfl) rfl ?_
        refine ww_iload_n (pc := 100) X (j := 2) dX6_gatherStarted_100 rfl rfl ?_
        refine ww_iconst (pc := 101) X (v := 1) dX6_gatherStarted_101 (by decide) ?_
        obtain ⟨r22, h21, hF⟩ := bd_some hF
        refine ww_callVi (pc := 102) X (As := [.int a1, .int 1]) (rest := [.int x14, .ref (G.2.1 89)]) dX6_gatherStarted_102 (kX5_putAt_47 (mL M) G hZ X.2.2.2.2.2.2.1 X.2.2.2.2.2.2.2.1 σ19 a1 1 r22 h21) rfl shzC_47 clzC_5 gX6_gatherStarted_X5_putAt hyX5_putAt ⟨rfl, rfl⟩ ⟨Nat.le_of_ble_eq_true rfl, Nat.le_of_ble_eq_true rfl⟩ rfl rfl (Nat.le_of_ble_eq_true rfl) ?_
        refine ww_iast (pc := 105) X dX6_gatherStarted_105 shzC_89 rfl hF (fun σ23 eσ23 bσ23 hF => ?_)
        refine ww_iinc (pc := 106) X (j := 2) (v := (-1)) (lv' := [(2, .int x14), (0, .ref (G.2.1 83))]) dX6_gatherStarted_106 rfl rfl (by decide) rfl hF (fun x24 ex24 hF => ?_)
        refine ww_goto (pc := 109) X (tgt := 20) dX6_gatherStarted_109 (by decide) ?_
        exact ww_sub [2, 0] rfl (ih20 x24 σ23 hF)
      · refine ww_goto (pc := 52) X (tgt := 106) dX6_gatherStarted_52 (by decide) ?_
        refine ww_iinc (pc := 106) X (j := 1) (v := (-1)) (lv' := [(0, .ref (G.2.1 83))]) dX6_gatherStarted_106 rfl rfl (by decide) rfl hF (fun x25 ex25 hF => ?_)
        refine ww_goto (pc := 109) X (tgt := 20) dX6_gatherStarted_109 (by decide) ?_
        exact ww_sub [1, 0] rfl (ih20 x25 σ1 hF)
set_option maxRecDepth 100000 in
set_option maxHeartbeats 4000000 in
theorem wX6_gatherStarted {M : gM} {G : gG} {out : gS} (X : gX M G zC cX6_gatherStarted RX6 3 wsX6_gatherStarted rmX6_gatherStarted none) {ex : gEx} (hZ : ∀ s : State, G.2.2.2 s → kC ex (gA G zC.1) s) (σ : gS) (hF : fX6_gatherStarted σ = some out) : WW M (gQv M G zC out) G zC 3 σ 0 [(0, .ref (G.2.1 83))] [] := by
  unfold fX6_gatherStarted at hF
  refine ww_aload_n (pc := 0) X (j := 0) dX6_gatherStarted_0 rfl rfl ?_
  refine ww_get (pc := 1) X (ref := "PictureBlock$Starter") (T := TX6) (j := 3) dX6_gatherStarted_1 inX6_gatherStarted_RX6 shzC_83 clzC_6 (by decide) rfl (List.mem_of_getElem? (i := 1) rfl) rfl ?_
  refine ww_iconst (pc := 4) X (v := 0) dX6_gatherStarted_4 (by decide) ?_
  obtain ⟨σ2, h1, hF⟩ := bd_some hF
  refine ww_callSv (pc := 5) X (As := [.ref (G.2.1 85), .int 0]) (rest := []) dX6_gatherStarted_5 (kJ7_fill_53178 (mL M) G hZ X.2.2.2.2.2.2.1 X.2.2.2.2.2.2.2.1 σ 85 0 σ2 h1) rfl gX6_gatherStarted_J7_fill_53178 hyJ7_fill_53178 ⟨rfl, rfl⟩ ⟨Nat.le_of_ble_eq_true rfl, Nat.le_of_ble_eq_true rfl⟩ rfl rfl (Nat.le_of_ble_eq_true rfl) ?_
  refine ww_aload_n (pc := 8) X (j := 0) dX6_gatherStarted_8 rfl rfl ?_
  refine ww_get (pc := 9) X (ref := "PictureBlock$Starter") (T := TX6) (j := 0) dX6_gatherStarted_9 inX6_gatherStarted_RX6 shzC_83 clzC_6 (by decide) rfl (List.mem_of_getElem? (i := 2) rfl) rfl ?_
  refine ww_get (pc := 12) X (ref := "PictureBlock$Told") (T := TX8) (j := 0) dX6_gatherStarted_12 inX6_gatherStarted_RX8 shzC_2 clzC_8 (by decide) rfl (List.mem_of_getElem? (i := 3) rfl) rfl ?_
  refine ww_iconst (pc := 15) X (v := 3) dX6_gatherStarted_15 (by decide) ?_
  refine ww_iald (pc := 16) X dX6_gatherStarted_16 shzC_3 rfl hF (fun v3 ev3 bv3 hF => ?_)
  refine ww_iconst (pc := 17) X (v := 1) dX6_gatherStarted_17 (by decide) ?_
  refine ww_isub (pc := 18) X dX6_gatherStarted_18 ?_
  refine ww_istore_n (pc := 19) X (lv' := [(0, .ref (G.2.1 83))]) dX6_gatherStarted_19 rfl (by decide) rfl hF (fun x4 ex4 hF => ?_)
  exact ww_sub [1, 0] rfl (lpc_ind (P := (fun (s : Int32 × gS) => WW M (gQv M G zC out) G zC 3 s.2 20 [(0, .ref (G.2.1 83)), (1, .int s.1)] [])) (fun rec s ih hF => wbX6_gatherStarted_20 X hZ σ2 (fun a1 σ1 => rec (a1, σ1)) (fun a1 σ1 h => ih (a1, σ1) h) s.1 s.2 hF) K9 (x4, σ2) hF)
set_option maxRecDepth 100000 in
set_option maxHeartbeats 4000000 in
theorem kX6_gatherStarted (l : Launch) (G : gG) {ex : gEx} (hZ : ∀ s : State, G.2.2.2 s → kC ex (gA G zC.1) s) (hG : gOK G zC.1) (hT : G.2.2.1.map (fun q => q.2) = zC.2.1) (σ : gS) (out : gS) (hF : fX6_gatherStarted σ = some out) : gCv l yX6_gatherStarted wsX6_gatherStarted rmX6_gatherStarted G zC [.ref (G.2.1 83)] σ out :=
  gEnter (by decide) rfl ⟨rfl, rfl⟩ hG hT (Nat.le_of_ble_eq_true rfl) rfl (fun M X hl => wX6_gatherStarted X hZ σ hF)
noncomputable def bX6_gatherOwn_12 (σ : gS) (c12_1 : Int32) (rec12 : Int32 → Int32 → gS → Option (Int32 × gS)) (a2 : Int32) (a3 : Int32) (σ1 : gS) : Option (Int32 × gS) :=
  gd (gb 3 6) <| nm (σ1.1 3 ((3 : Int32).toNatClampNeg)) fun v5 => (if v5 ≤ a3 then some (a2, σ1) else gd (gb a3 60) <| nm (σ1.1 11 a3.toNatClampNeg) fun v7 => nm (v7 : Int32) fun x8 => bd (fX5_uses_47 σ1 a3) fun r10 => (if r10 = 0 then nm (a3 + 1 : Int32) fun x12 => rec12 a2 x12 σ1 else gd (gb a3 60) <| nm (σ1.1 10 a3.toNatClampNeg) fun v13 => (if v13 = c12_1 then gd (gb x8 20) <| nm (σ1.1 85 x8.toNatClampNeg) fun v16 => (if v16 = 0 then nm (a3 + 1 : Int32) fun x21 => rec12 a2 x21 σ1 else gd (gb x8 20) <| nm (gsI σ1 86 x8.toNatClampNeg a3) fun σ18 => nm (a2 + 1 : Int32) fun x19 => nm (a3 + 1 : Int32) fun x20 => rec12 x19 x20 σ18) else nm (a3 + 1 : Int32) fun x15 => rec12 a2 x15 σ1)))
noncomputable def fX6_gatherOwn (σ : gS) (p1 : Int32) : Option (Int32 × gS) :=
  bd (fJ7_fill_53178 σ 86 ((-1))) fun σ2 => nm (0 : Int32) fun x3 => nm (0 : Int32) fun x4 => lpc (S := Int32 × Int32 × gS) K9 (fun rec s => bX6_gatherOwn_12 σ2 p1 (fun a2 a3 σ1 => rec (a2, a3, σ1)) s.1 s.2.1 s.2.2) (x3, x4, σ2)
noncomputable abbrev rmX6_gatherOwn : Room := { frames := 1, cells := 0, slots := 0, locals := 23 }
set_option maxRecDepth 100000 in
set_option maxHeartbeats 4000000 in
theorem wbX6_gatherOwn_12 {M : gM} {G : gG} {out : Int32 × gS} (X : gX M G zC cX6_gatherOwn RX6 5 wsX6_gatherOwn rmX6_gatherOwn (some .int)) {ex : gEx} (hZ : ∀ s : State, G.2.2.2 s → kC ex (gA G zC.1) s) (σ : gS) (c12_1 : Int32) (rec12 : Int32 → Int32 → gS → Option (Int32 × gS)) (ih12 : ∀ (a2 : Int32) (a3 : Int32) (σ1 : gS), rec12 a2 a3 σ1 = some out → WW M (gQi M G zC out.1 out.2) G zC 5 σ1 12 [(0, .ref (G.2.1 83)), (1, .int c12_1), (2, .int a2), (3, .int a3)] []) (a2 : Int32) (a3 : Int32) (σ1 : gS) (hF : bX6_gatherOwn_12 σ c12_1 rec12 a2 a3 σ1 = some out) : WW M (gQi M G zC out.1 out.2) G zC 5 σ1 12 [(0, .ref (G.2.1 83)), (1, .int c12_1), (2, .int a2), (3, .int a3)] [] := by
  unfold bX6_gatherOwn_12 at hF
  refine ww_iload_n (pc := 12) X (j := 3) dX6_gatherOwn_12 rfl rfl ?_
  refine ww_aload_n (pc := 13) X (j := 0) dX6_gatherOwn_13 rfl rfl ?_
  refine ww_get (pc := 14) X (ref := "PictureBlock$Starter") (T := TX6) (j := 0) dX6_gatherOwn_14 inX6_gatherOwn_RX6 shzC_83 clzC_6 (by decide) rfl (List.mem_of_getElem? (i := 2) rfl) rfl ?_
  refine ww_get (pc := 17) X (ref := "PictureBlock$Told") (T := TX8) (j := 0) dX6_gatherOwn_17 inX6_gatherOwn_RX8 shzC_2 clzC_8 (by decide) rfl (List.mem_of_getElem? (i := 3) rfl) rfl ?_
  refine ww_iconst (pc := 20) X (v := 3) dX6_gatherOwn_20 (by decide) ?_
  refine ww_iald (pc := 21) X dX6_gatherOwn_21 shzC_3 rfl hF (fun v5 ev5 bv5 hF => ?_)
  refine ww_icmp_ge (pc := 22) (tgt := 90) X dX6_gatherOwn_22 (by decide) hF (fun h6 hF => ?_) (fun h6 hF => ?_)
  · refine ww_iload_n (pc := 90) X (j := 2) dX6_gatherOwn_90 rfl rfl ?_
    exact ww_iret (pc := 91) X dX6_gatherOwn_91 (fst_of hF) (snd_of hF)
  · refine ww_aload_n (pc := 25) X (j := 0) dX6_gatherOwn_25 rfl rfl ?_
    refine ww_get (pc := 26) X (ref := "PictureBlock$Starter") (T := TX6) (j := 0) dX6_gatherOwn_26 inX6_gatherOwn_RX6 shzC_83 clzC_6 (by decide) rfl (List.mem_of_getElem? (i := 2) rfl) rfl ?_
    refine ww_get (pc := 29) X (ref := "PictureBlock$Told") (T := TX8) (j := 5) dX6_gatherOwn_29 inX6_gatherOwn_RX8 shzC_2 clzC_8 (by decide) rfl (List.mem_of_getElem? (i := 4) rfl) rfl ?_
    refine ww_iload_n (pc := 32) X (j := 3) dX6_gatherOwn_32 rfl rfl ?_
    refine ww_iald (pc := 33) X dX6_gatherOwn_33 shzC_11 rfl hF (fun v7 ev7 bv7 hF => ?_)
    refine ww_istore (pc := 34) X (lv' := [(0, .ref (G.2.1 83)), (1, .int c12_1), (2, .int a2), (3, .int a3)]) dX6_gatherOwn_34 (by decide) rfl hF (fun x8 ex8 hF => ?_)
    refine ww_aload_n (pc := 36) X (j := 1) dX6_gatherOwn_36 rfl rfl ?_
    refine ww_get (pc := 37) X (ref := "PictureBlock$Starter") (T := TX6) (j := 1) dX6_gatherOwn_37 inX6_gatherOwn_RX6 shzC_83 clzC_6 (by decide) rfl (List.mem_of_getElem? (i := 5) rfl) rfl ?_
    refine ww_iload_n (pc := 40) X (j := 4) dX6_gatherOwn_40 rfl rfl ?_
    obtain ⟨r10, h9, hF⟩ := bd_some hF
    refine ww_callVi (pc := 41) X (As := [.int a3]) (rest := []) dX6_gatherOwn_41 (kX5_uses_47 (mL M) G hZ X.2.2.2.2.2.2.1 X.2.2.2.2.2.2.2.1 σ1 a3 r10 h9) rfl shzC_47 clzC_5 gX6_gatherOwn_X5_uses hyX5_uses ⟨rfl, rfl⟩ ⟨Nat.le_of_ble_eq_true rfl, Nat.le_of_ble_eq_true rfl⟩ rfl rfl (Nat.le_of_ble_eq_true rfl) ?_
    refine ww_if_eq (pc := 44) (tgt := 84) X dX6_gatherOwn_44 (by decide) hF (fun h11 hF => ?_) (fun h11 hF => ?_)
    · refine ww_iinc (pc := 84) X (j := 4) (v := 1) (lv' := [(4, .int x8), (0, .ref (G.2.1 83)), (1, .int c12_1), (2, .int a2)]) dX6_gatherOwn_84 rfl rfl (by decide) rfl hF (fun x12 ex12 hF => ?_)
      refine ww_goto (pc := 87) X (tgt := 12) dX6_gatherOwn_87 (by decide) ?_
      exact ww_sub [2, 3, 4, 0] rfl (ih12 a2 x12 σ1 hF)
    · refine ww_aload_n (pc := 47) X (j := 1) dX6_gatherOwn_47 rfl rfl ?_
      refine ww_get (pc := 48) X (ref := "PictureBlock$Starter") (T := TX6) (j := 0) dX6_gatherOwn_48 inX6_gatherOwn_RX6 shzC_83 clzC_6 (by decide) rfl (List.mem_of_getElem? (i := 2) rfl) rfl ?_
      refine ww_get (pc := 51) X (ref := "PictureBlock$Told") (T := TX8) (j := 4) dX6_gatherOwn_51 inX6_gatherOwn_RX8 shzC_2 clzC_8 (by decide) rfl (List.mem_of_getElem? (i := 6) rfl) rfl ?_
      refine ww_iload_n (pc := 54) X (j := 4) dX6_gatherOwn_54 rfl rfl ?_
      refine ww_iald (pc := 55) X dX6_gatherOwn_55 shzC_10 rfl hF (fun v13 ev13 bv13 hF => ?_)
      refine ww_iload_n (pc := 56) X (j := 2) dX6_gatherOwn_56 rfl rfl ?_
      refine ww_icmp_ne (pc := 57) (tgt := 84) X dX6_gatherOwn_57 (by decide) hF (fun h14 hF => ?_) (fun h14 hF => ?_)
      · refine ww_iinc (pc := 84) X (j := 4) (v := 1) (lv' := [(4, .int x8), (0, .ref (G.2.1 83)), (1, .int c12_1), (2, .int a2)]) dX6_gatherOwn_84 rfl rfl (by decide) rfl hF (fun x15 ex15 hF => ?_)
        refine ww_goto (pc := 87) X (tgt := 12) dX6_gatherOwn_87 (by decide) ?_
        exact ww_sub [2, 3, 4, 0] rfl (ih12 a2 x15 σ1 hF)
      · refine ww_aload_n (pc := 60) X (j := 1) dX6_gatherOwn_60 rfl rfl ?_
        refine ww_get (pc := 61) X (ref := "PictureBlock$Starter") (T := TX6) (j := 3) dX6_gatherOwn_61 inX6_gatherOwn_RX6 shzC_83 clzC_6 (by decide) rfl (List.mem_of_getElem? (i := 7) rfl) rfl ?_
        refine ww_iload (pc := 64) X (j := 0) dX6_gatherOwn_64 rfl ?_
        refine ww_iald (pc := 66) X dX6_gatherOwn_66 shzC_85 rfl hF (fun v16 ev16 bv16 hF => ?_)
        refine ww_if_ne (pc := 67) (tgt := 73) X dX6_gatherOwn_67 (by decide) hF (fun h17 hF => ?_) (fun h17 hF => ?_)
        · refine ww_aload_n (pc := 73) X (j := 1) dX6_gatherOwn_73 rfl rfl ?_
          refine ww_get (pc := 74) X (ref := "PictureBlock$Starter") (T := TX6) (j := 4) dX6_gatherOwn_74 inX6_gatherOwn_RX6 shzC_83 clzC_6 (by decide) rfl (List.mem_of_getElem? (i := 1) rfl) rfl ?_
          refine ww_iload (pc := 77) X (j := 0) dX6_gatherOwn_77 rfl ?_
          refine ww_iload_n (pc := 79) X (j := 4) dX6_gatherOwn_79 rfl rfl ?_
          refine ww_iast (pc := 80) X dX6_gatherOwn_80 shzC_86 rfl hF (fun σ18 eσ18 bσ18 hF => ?_)
          refine ww_iinc (pc := 81) X (j := 3) (v := 1) (lv' := [(4, .int x8), (0, .ref (G.2.1 83)), (1, .int c12_1), (3, .int a3)]) dX6_gatherOwn_81 rfl rfl (by decide) rfl hF (fun x19 ex19 hF => ?_)
          refine ww_iinc (pc := 84) X (j := 4) (v := 1) (lv' := [(2, .int x19), (4, .int x8), (0, .ref (G.2.1 83)), (1, .int c12_1)]) dX6_gatherOwn_84 rfl rfl (by decide) rfl hF (fun x20 ex20 hF => ?_)
          refine ww_goto (pc := 87) X (tgt := 12) dX6_gatherOwn_87 (by decide) ?_
          exact ww_sub [3, 4, 1, 0] rfl (ih12 x19 x20 σ18 hF)
        · refine ww_goto (pc := 70) X (tgt := 84) dX6_gatherOwn_70 (by decide) ?_
          refine ww_iinc (pc := 84) X (j := 4) (v := 1) (lv' := [(4, .int x8), (0, .ref (G.2.1 83)), (1, .int c12_1), (2, .int a2)]) dX6_gatherOwn_84 rfl rfl (by decide) rfl hF (fun x21 ex21 hF => ?_)
          refine ww_goto (pc := 87) X (tgt := 12) dX6_gatherOwn_87 (by decide) ?_
          exact ww_sub [2, 3, 4, 0] rfl (ih12 a2 x21 σ1 hF)
set_option maxRecDepth 100000 in
set_option maxHeartbeats 4000000 in
theorem wX6_gatherOwn {M : gM} {G : gG} {out : Int32 × gS} (X : gX M G zC cX6_gatherOwn RX6 5 wsX6_gatherOwn rmX6_gatherOwn (some .int)) {ex : gEx} (hZ : ∀ s : State, G.2.2.2 s → kC ex (gA G zC.1) s) (σ : gS) (p1 : Int32) (hF : fX6_gatherOwn σ p1 = some out) : WW M (gQi M G zC out.1 out.2) G zC 5 σ 0 [(0, .ref (G.2.1 83)), (1, .int p1)] [] := by
  unfold fX6_gatherOwn at hF
  refine ww_aload_n (pc := 0) X (j := 0) dX6_gatherOwn_0 rfl rfl ?_
  refine ww_get (pc := 1) X (ref := "PictureBlock$Starter") (T := TX6) (j := 4) dX6_gatherOwn_1 inX6_gatherOwn_RX6 shzC_83 clzC_6 (by decide) rfl (List.mem_of_getElem? (i := 1) rfl) rfl ?_
  refine ww_iconst (pc := 4) X (v := (-1)) dX6_gatherOwn_4 (by decide) ?_
  obtain ⟨σ2, h1, hF⟩ := bd_some hF
  refine ww_callSv (pc := 5) X (As := [.ref (G.2.1 86), .int ((-1))]) (rest := []) dX6_gatherOwn_5 (kJ7_fill_53178 (mL M) G hZ X.2.2.2.2.2.2.1 X.2.2.2.2.2.2.2.1 σ 86 ((-1)) σ2 h1) rfl gX6_gatherOwn_J7_fill_53178 hyJ7_fill_53178 ⟨rfl, rfl⟩ ⟨Nat.le_of_ble_eq_true rfl, Nat.le_of_ble_eq_true rfl⟩ rfl rfl (Nat.le_of_ble_eq_true rfl) ?_
  refine ww_iconst (pc := 8) X (v := 0) dX6_gatherOwn_8 (by decide) ?_
  refine ww_istore_n (pc := 9) X (lv' := [(0, .ref (G.2.1 83)), (1, .int p1)]) dX6_gatherOwn_9 rfl (by decide) rfl hF (fun x3 ex3 hF => ?_)
  refine ww_iconst (pc := 10) X (v := 0) dX6_gatherOwn_10 (by decide) ?_
  refine ww_istore_n (pc := 11) X (lv' := [(2, .int x3), (0, .ref (G.2.1 83)), (1, .int p1)]) dX6_gatherOwn_11 rfl (by decide) rfl hF (fun x4 ex4 hF => ?_)
  exact ww_sub [2, 3, 1, 0] rfl (lpc_ind (P := (fun (s : Int32 × Int32 × gS) => WW M (gQi M G zC out.1 out.2) G zC 5 s.2.2 12 [(0, .ref (G.2.1 83)), (1, .int p1), (2, .int s.1), (3, .int s.2.1)] [])) (fun rec s ih hF => wbX6_gatherOwn_12 X hZ σ2 p1 (fun a2 a3 σ1 => rec (a2, a3, σ1)) (fun a2 a3 σ1 h => ih (a2, a3, σ1) h) s.1 s.2.1 s.2.2 hF) K9 (x3, x4, σ2) hF)
set_option maxRecDepth 100000 in
set_option maxHeartbeats 4000000 in
theorem kX6_gatherOwn (l : Launch) (G : gG) {ex : gEx} (hZ : ∀ s : State, G.2.2.2 s → kC ex (gA G zC.1) s) (hG : gOK G zC.1) (hT : G.2.2.1.map (fun q => q.2) = zC.2.1) (σ : gS) (p1 : Int32) (out : Int32 × gS) (hF : fX6_gatherOwn σ p1 = some out) : gCi l yX6_gatherOwn wsX6_gatherOwn rmX6_gatherOwn G zC [.ref (G.2.1 83), .int p1] σ out.1 out.2 :=
  gEnter (by decide) rfl ⟨rfl, rfl⟩ hG hT (Nat.le_of_ble_eq_true rfl) rfl (fun M X hl => wX6_gatherOwn X hZ σ p1 hF)
