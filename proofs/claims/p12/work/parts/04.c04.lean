noncomputable def bX8_find_24_2 (σ : gS) (c2_1 : Int32) (c2_2 : Int32) (rec2 : Int32 → Option (Int32)) (a3 : Int32) : Option (Int32) :=
  gd (gb c2_1 6) <| nm (σ.1 25 c2_1.toNatClampNeg) fun v2 => (if v2 ≤ a3 then some ((-1)) else gd (gb c2_1 3) <| gd (gb a3 20) <| nm (σ.1 (27 + c2_1.toNatClampNeg) a3.toNatClampNeg) fun v5 => (if v5 = c2_2 then some a3 else nm (a3 + 1 : Int32) fun x7 => rec2 x7))
noncomputable def fX8_find_24 (σ : gS) (p1 : Int32) (p2 : Int32) : Option (Int32) :=
  nm (0 : Int32) fun x1 => lpc (S := Int32) K9 (fun rec s => bX8_find_24_2 σ p1 p2 (fun a3 => rec (a3)) s) (x1)
noncomputable abbrev rmX8_find : Room := { frames := 0, cells := 0, slots := 0, locals := 0 }
set_option maxRecDepth 100000 in
set_option maxHeartbeats 4000000 in
theorem wbX8_find_24_2 {M : gM} {G : gG} {out : Int32} (X : gX M G zC cX8_find RX8 4 wsX8_find rmX8_find (some .int)) {ex : gEx} (hZ : ∀ s : State, G.2.2.2 s → kC ex (gA G zC.1) s) (σ : gS) (c2_1 : Int32) (c2_2 : Int32) (rec2 : Int32 → Option (Int32)) (ih2 : ∀ (a3 : Int32), rec2 a3 = some out → WW M (gQi M G zC out σ) G zC 4 σ 2 [(0, .ref (G.2.1 24)), (1, .int c2_1), (2, .int c2_2), (3, .int a3)] []) (a3 : Int32) (hF : bX8_find_24_2 σ c2_1 c2_2 rec2 a3 = some out) : WW M (gQi M G zC out σ) G zC 4 σ 2 [(0, .ref (G.2.1 24)), (1, .int c2_1), (2, .int c2_2), (3, .int a3)] [] := by
  unfold bX8_find_24_2 at hF
  refine ww_iload_n (pc := 2) X (j := 3) dX8_find_2 rfl rfl ?_
  refine ww_aload_n (pc := 3) X (j := 0) dX8_find_3 rfl rfl ?_
  refine ww_get (pc := 4) X (ref := "PictureBlock$Told") (T := TX8) (j := 0) dX8_find_4 inX8_find_RX8 shzC_24 clzC_8 (by decide) rfl (List.mem_of_getElem? (i := 1) rfl) rfl ?_
  refine ww_iload_n (pc := 7) X (j := 1) dX8_find_7 rfl rfl ?_
  refine ww_iald (pc := 8) X dX8_find_8 shzC_25 rfl hF (fun v2 ev2 bv2 hF => ?_)
  refine ww_icmp_ge (pc := 9) (tgt := 32) X dX8_find_9 (by decide) hF (fun h3 hF => ?_) (fun h3 hF => ?_)
  · refine ww_iconst (pc := 32) X (v := (-1)) dX8_find_32 (by decide) ?_
    exact ww_iret (pc := 33) X dX8_find_33 (Option.some.inj hF) rfl
  · refine ww_aload_n (pc := 12) X (j := 0) dX8_find_12 rfl rfl ?_
    refine ww_get (pc := 13) X (ref := "PictureBlock$Told") (T := TX8) (j := 1) dX8_find_13 inX8_find_RX8 shzC_24 clzC_8 (by decide) rfl (List.mem_of_getElem? (i := 2) rfl) rfl ?_
    refine ww_iload_n (pc := 16) X (j := 1) dX8_find_16 rfl rfl ?_
    refine ww_aald (pc := 17) X dX8_find_17 shzC_26 rfl hF (fun h4 hF => ?_)
    refine ww_iload_n (pc := 18) X (j := 3) dX8_find_18 rfl rfl ?_
    refine ww_iald (pc := 19) X dX8_find_19 (rwzC_26 _ (gb_lt h4)) rfl hF (fun v5 ev5 bv5 hF => ?_)
    refine ww_iload_n (pc := 20) X (j := 2) dX8_find_20 rfl rfl ?_
    refine ww_icmp_ne (pc := 21) (tgt := 26) X dX8_find_21 (by decide) hF (fun h6 hF => ?_) (fun h6 hF => ?_)
    · refine ww_iinc (pc := 26) X (j := 3) (v := 1) (lv' := [(0, .ref (G.2.1 24)), (1, .int c2_1), (2, .int c2_2)]) dX8_find_26 rfl rfl (by decide) rfl hF (fun x7 ex7 hF => ?_)
      refine ww_goto (pc := 29) X (tgt := 2) dX8_find_29 (by decide) ?_
      exact ww_sub [1, 2, 3, 0] rfl (ih2 x7 hF)
    · refine ww_iload_n (pc := 24) X (j := 3) dX8_find_24 rfl rfl ?_
      exact ww_iret (pc := 25) X dX8_find_25 (Option.some.inj hF) rfl
set_option maxRecDepth 100000 in
set_option maxHeartbeats 4000000 in
theorem wX8_find_24 {M : gM} {G : gG} {out : Int32} (X : gX M G zC cX8_find RX8 4 wsX8_find rmX8_find (some .int)) {ex : gEx} (hZ : ∀ s : State, G.2.2.2 s → kC ex (gA G zC.1) s) (σ : gS) (p1 : Int32) (p2 : Int32) (hF : fX8_find_24 σ p1 p2 = some out) : WW M (gQi M G zC out σ) G zC 4 σ 0 [(0, .ref (G.2.1 24)), (1, .int p1), (2, .int p2)] [] := by
  unfold fX8_find_24 at hF
  refine ww_iconst (pc := 0) X (v := 0) dX8_find_0 (by decide) ?_
  refine ww_istore_n (pc := 1) X (lv' := [(0, .ref (G.2.1 24)), (1, .int p1), (2, .int p2)]) dX8_find_1 rfl (by decide) rfl hF (fun x1 ex1 hF => ?_)
  exact ww_sub [1, 2, 3, 0] rfl (lpc_ind (P := (fun (s : Int32) => WW M (gQi M G zC out σ) G zC 4 σ 2 [(0, .ref (G.2.1 24)), (1, .int p1), (2, .int p2), (3, .int s)] [])) (fun rec s ih hF => wbX8_find_24_2 X hZ σ p1 p2 (fun a3 => rec (a3)) (fun a3 h => ih (a3) h) s hF) K9 (x1) hF)
set_option maxRecDepth 100000 in
set_option maxHeartbeats 4000000 in
theorem kX8_find_24 (l : Launch) (G : gG) {ex : gEx} (hZ : ∀ s : State, G.2.2.2 s → kC ex (gA G zC.1) s) (hG : gOK G zC.1) (hT : G.2.2.1.map (fun q => q.2) = zC.2.1) (σ : gS) (p1 : Int32) (p2 : Int32) (out : Int32) (hF : fX8_find_24 σ p1 p2 = some out) : gCi l yX8_find wsX8_find rmX8_find G zC [.ref (G.2.1 24), .int p1, .int p2] σ out σ :=
  gEnter (by decide) rfl ⟨rfl, rfl⟩ hG hT (Nat.le_of_ble_eq_true rfl) rfl (fun M X hl => wX8_find_24 X hZ σ p1 p2 hF)
noncomputable def fX8_isNamed_24 (σ : gS) (p1 : Int32) : Option (Int32) :=
  bd (fX8_find_24 σ 0 p1) fun r2 => (if r2 = ((-1)) then bd (fX8_find_24 σ 1 p1) fun r5 => (if r5 = ((-1)) then bd (fX8_find_24 σ 2 p1) fun r8 => (if r8 = ((-1)) then some 0 else some 1) else some 1) else some 1)
noncomputable abbrev rmX8_isNamed : Room := { frames := 1, cells := 0, slots := 0, locals := 23 }
set_option maxRecDepth 100000 in
set_option maxHeartbeats 4000000 in
theorem wX8_isNamed_24 {M : gM} {G : gG} {out : Int32} (X : gX M G zC cX8_isNamed RX8 2 wsX8_isNamed rmX8_isNamed (some .boolean)) {ex : gEx} (hZ : ∀ s : State, G.2.2.2 s → kC ex (gA G zC.1) s) (σ : gS) (p1 : Int32) (hF : fX8_isNamed_24 σ p1 = some out) : WW M (gQi M G zC out σ) G zC 2 σ 0 [(0, .ref (G.2.1 24)), (1, .int p1)] [] := by
  unfold fX8_isNamed_24 at hF
  refine ww_aload_n (pc := 0) X (j := 0) dX8_isNamed_0 rfl rfl ?_
  refine ww_iconst (pc := 1) X (v := 0) dX8_isNamed_1 (by decide) ?_
  refine ww_iload_n (pc := 2) X (j := 1) dX8_isNamed_2 rfl rfl ?_
  obtain ⟨r2, h1, hF⟩ := bd_some hF
  refine ww_callVi (pc := 3) X (As := [.int 0, .int p1]) (rest := []) dX8_isNamed_3 (kX8_find_24 (mL M) G hZ X.2.2.2.2.2.2.1 X.2.2.2.2.2.2.2.1 σ 0 p1 r2 h1) rfl shzC_24 clzC_8 gX8_isNamed_X8_find hyX8_find ⟨rfl, rfl⟩ ⟨Nat.le_of_ble_eq_true rfl, Nat.le_of_ble_eq_true rfl⟩ rfl rfl (Nat.le_of_ble_eq_true rfl) ?_
  refine ww_iconst (pc := 6) X (v := (-1)) dX8_isNamed_6 (by decide) ?_
  refine ww_icmp_ne (pc := 7) (tgt := 30) X dX8_isNamed_7 (by decide) hF (fun h3 hF => ?_) (fun h3 hF => ?_)
  · refine ww_iconst (pc := 30) X (v := 1) dX8_isNamed_30 (by decide) ?_
    refine ww_goto (pc := 31) X (tgt := 35) dX8_isNamed_31 (by decide) ?_
    exact ww_zret (pc := 35) X dX8_isNamed_35 (by cases hF; rfl) rfl
  · refine ww_aload_n (pc := 10) X (j := 0) dX8_isNamed_10 rfl rfl ?_
    refine ww_iconst (pc := 11) X (v := 1) dX8_isNamed_11 (by decide) ?_
    refine ww_iload_n (pc := 12) X (j := 1) dX8_isNamed_12 rfl rfl ?_
    obtain ⟨r5, h4, hF⟩ := bd_some hF
    refine ww_callVi (pc := 13) X (As := [.int 1, .int p1]) (rest := []) dX8_isNamed_13 (kX8_find_24 (mL M) G hZ X.2.2.2.2.2.2.1 X.2.2.2.2.2.2.2.1 σ 1 p1 r5 h4) rfl shzC_24 clzC_8 gX8_isNamed_X8_find hyX8_find ⟨rfl, rfl⟩ ⟨Nat.le_of_ble_eq_true rfl, Nat.le_of_ble_eq_true rfl⟩ rfl rfl (Nat.le_of_ble_eq_true rfl) ?_
    refine ww_iconst (pc := 16) X (v := (-1)) dX8_isNamed_16 (by decide) ?_
    refine ww_icmp_ne (pc := 17) (tgt := 30) X dX8_isNamed_17 (by decide) hF (fun h6 hF => ?_) (fun h6 hF => ?_)
    · refine ww_iconst (pc := 30) X (v := 1) dX8_isNamed_30 (by decide) ?_
      refine ww_goto (pc := 31) X (tgt := 35) dX8_isNamed_31 (by decide) ?_
      exact ww_zret (pc := 35) X dX8_isNamed_35 (by cases hF; rfl) rfl
    · refine ww_aload_n (pc := 20) X (j := 0) dX8_isNamed_20 rfl rfl ?_
      refine ww_iconst (pc := 21) X (v := 2) dX8_isNamed_21 (by decide) ?_
      refine ww_iload_n (pc := 22) X (j := 1) dX8_isNamed_22 rfl rfl ?_
      obtain ⟨r8, h7, hF⟩ := bd_some hF
      refine ww_callVi (pc := 23) X (As := [.int 2, .int p1]) (rest := []) dX8_isNamed_23 (kX8_find_24 (mL M) G hZ X.2.2.2.2.2.2.1 X.2.2.2.2.2.2.2.1 σ 2 p1 r8 h7) rfl shzC_24 clzC_8 gX8_isNamed_X8_find hyX8_find ⟨rfl, rfl⟩ ⟨Nat.le_of_ble_eq_true rfl, Nat.le_of_ble_eq_true rfl⟩ rfl rfl (Nat.le_of_ble_eq_true rfl) ?_
      refine ww_iconst (pc := 26) X (v := (-1)) dX8_isNamed_26 (by decide) ?_
      refine ww_icmp_eq (pc := 27) (tgt := 34) X dX8_isNamed_27 (by decide) hF (fun h9 hF => ?_) (fun h9 hF => ?_)
      · refine ww_iconst (pc := 34) X (v := 0) dX8_isNamed_34 (by decide) ?_
        exact ww_zret (pc := 35) X dX8_isNamed_35 (by cases hF; rfl) rfl
      · refine ww_iconst (pc := 30) X (v := 1) dX8_isNamed_30 (by decide) ?_
        refine ww_goto (pc := 31) X (tgt := 35) dX8_isNamed_31 (by decide) ?_
        exact ww_zret (pc := 35) X dX8_isNamed_35 (by cases hF; rfl) rfl
set_option maxRecDepth 100000 in
set_option maxHeartbeats 4000000 in
theorem kX8_isNamed_24 (l : Launch) (G : gG) {ex : gEx} (hZ : ∀ s : State, G.2.2.2 s → kC ex (gA G zC.1) s) (hG : gOK G zC.1) (hT : G.2.2.1.map (fun q => q.2) = zC.2.1) (σ : gS) (p1 : Int32) (out : Int32) (hF : fX8_isNamed_24 σ p1 = some out) : gCi l yX8_isNamed wsX8_isNamed rmX8_isNamed G zC [.ref (G.2.1 24), .int p1] σ out σ :=
  gEnter (by decide) rfl ⟨rfl, rfl⟩ hG hT (Nat.le_of_ble_eq_true rfl) rfl (fun M X hl => wX8_isNamed_24 X hZ σ p1 hF)
noncomputable def jX3_readName_192 (σ : gS) (z0 : Int32) : Option (Int32 × gS) :=
  nm (z0 : Int32) fun x24 => (if x24 = 0 then bd2 (fX3_fail σ 3 (σ.1 46 6)) fun r27 σ28 => some (vp_nar .boolean r27, σ28) else some (1, σ))
noncomputable def jX3_readName_149 (σ : gS) (a1 : Int32) (z0 : Int32) : Option (Int32 × gS) :=
  nm (gsI σ 46 10 z0) fun σ21 => (if a1 = ((-1)) then bd (fX8_isNamed_24 σ21 (σ21.1 46 9)) fun r30 => (if r30 = 0 then jX3_readName_192 σ21 1 else jX3_readName_192 σ21 0) else if (σ21.1 46 10) = ((-1)) then jX3_readName_192 σ21 0 else jX3_readName_192 σ21 1)
noncomputable def bX3_readName_66 (σ : gS) (c66_1 : Int32) (rec66 : Int32 → gS → Option (Int32 × gS)) (a2 : Int32) (σ1 : gS) : Option (Int32 × gS) :=
  if 6 ≤ a2 then bd (fX3_passRun σ1) fun σ17 => (if c66_1 = ((-1)) then jX3_readName_149 σ17 c66_1 ((-1)) else bd (fX8_find_24 σ17 c66_1 (σ17.1 46 9)) fun r20 => jX3_readName_149 σ17 c66_1 r20) else if (σ1.1 46 7) ≤ ((σ1.1 46 6) + a2) then nm (gsI σ1 46 9 ((27 * (σ1.1 46 9)) + 0)) fun σ33 => nm (a2 + 1 : Int32) fun x34 => rec66 x34 σ33 else gd (gb ((σ1.1 46 6) + a2) 1600) <| nm (σ1.1 1 ((σ1.1 46 6) + a2).toNatClampNeg) fun v35 => nm (gsI σ1 46 9 ((27 * (σ1.1 46 9)) + ((v35 - 97) + 1))) fun σ36 => nm (a2 + 1 : Int32) fun x37 => rec66 x37 σ36
noncomputable def fX3_readName (σ : gS) (p1 : Int32) : Option (Int32 × gS) :=
  bd (fX3_markRun σ 97 122) fun σ2 => bd (fX3_isNoRun σ2) fun r4 => (if r4 = 0 then bd (fX3_isOwnWord σ2) fun r10 => (if r10 = 0 then if ((σ2.1 46 7) - (σ2.1 46 6)) ≤ 6 then nm (gsI σ2 46 9 0) fun σ13 => nm (0 : Int32) fun x14 => lpc (S := Int32 × gS) K9 (fun rec s => bX3_readName_66 σ13 p1 (fun a2 σ1 => rec (a2, σ1)) s.1 s.2) (x14, σ13) else bd2 (fX3_fail σ2 1 ((σ2.1 46 6) + 6)) fun r39 σ40 => some (vp_nar .boolean r39, σ40) else bd2 (fX3_fail σ2 1 (σ2.1 46 6)) fun r42 σ43 => some (vp_nar .boolean r42, σ43)) else bd2 (fX3_fail σ2 1 (σ2.1 46 6)) fun r7 σ8 => some (vp_nar .boolean r7, σ8))
noncomputable abbrev rmX3_readName : Room := { frames := 6, cells := 0, slots := 0, locals := 127 }
set_option maxRecDepth 100000 in
set_option maxHeartbeats 4000000 in
theorem wjX3_readName_192 {M : gM} {G : gG} {out : Int32 × gS} (X : gX M G zC cX3_readName RX3 3 wsX3_readName rmX3_readName (some .boolean)) {ex : gEx} (hZ : ∀ s : State, G.2.2.2 s → kC ex (gA G zC.1) s) (σ : gS) (z0 : Int32) (hF : jX3_readName_192 σ z0 = some out) : WW M (gQi M G zC out.1 out.2) G zC 3 σ 192 [(0, .ref (G.2.1 46))] [.int z0] := by
  unfold jX3_readName_192 at hF
  refine ww_istore_n (pc := 192) X (lv' := [(0, .ref (G.2.1 46))]) dX3_readName_192 rfl (by decide) rfl hF (fun x24 ex24 hF => ?_)
  refine ww_iload_n (pc := 193) X (j := 0) dX3_readName_193 rfl rfl ?_
  refine ww_if_eq (pc := 194) (tgt := 201) X dX3_readName_194 (by decide) hF (fun h25 hF => ?_) (fun h25 hF => ?_)
  · refine ww_aload_n (pc := 201) X (j := 1) dX3_readName_201 rfl rfl ?_
    refine ww_iconst (pc := 202) X (v := 3) dX3_readName_202 (by decide) ?_
    refine ww_aload_n (pc := 203) X (j := 1) dX3_readName_203 rfl rfl ?_
    refine ww_get (pc := 204) X (ref := "PictureBlock$Reader") (T := TX3) (j := 6) dX3_readName_204 inX3_readName_RX3 shzC_46 clzC_3 (by decide) rfl (List.mem_of_getElem? (i := 1) rfl) rfl ?_
    obtain ⟨r27, σ28, h26, hF⟩ := bd2_some hF
    refine ww_callVi (pc := 207) X (As := [.int 3, .int (σ.1 46 6)]) (rest := []) dX3_readName_207 (kX3_fail (mL M) G hZ X.2.2.2.2.2.2.1 X.2.2.2.2.2.2.2.1 σ 3 (σ.1 46 6) (r27, σ28) h26) rfl shzC_46 clzC_3 gX3_readName_X3_fail hyX3_fail ⟨rfl, rfl⟩ ⟨Nat.le_of_ble_eq_true rfl, Nat.le_of_ble_eq_true rfl⟩ rfl rfl (Nat.le_of_ble_eq_true rfl) ?_
    exact ww_zret (pc := 210) X dX3_readName_210 (by cases hF; rfl) (by cases hF; rfl)
  · refine ww_iconst (pc := 197) X (v := 1) dX3_readName_197 (by decide) ?_
    refine ww_goto (pc := 198) X (tgt := 210) dX3_readName_198 (by decide) ?_
    exact ww_zret (pc := 210) X dX3_readName_210 (by cases hF; rfl) (by cases hF; rfl)
set_option maxRecDepth 100000 in
set_option maxHeartbeats 4000000 in
theorem wjX3_readName_149 {M : gM} {G : gG} {out : Int32 × gS} (X : gX M G zC cX3_readName RX3 3 wsX3_readName rmX3_readName (some .boolean)) {ex : gEx} (hZ : ∀ s : State, G.2.2.2 s → kC ex (gA G zC.1) s) (σ : gS) (a1 : Int32) (z0 : Int32) (hF : jX3_readName_149 σ a1 z0 = some out) : WW M (gQi M G zC out.1 out.2) G zC 3 σ 149 [(0, .ref (G.2.1 46)), (1, .int a1)] [.int z0, .ref (G.2.1 46)] := by
  unfold jX3_readName_149 at hF
  refine ww_putI (pc := 149) X (ref := "PictureBlock$Reader") (T := TX3) (j := 10) dX3_readName_149 inX3_readName_RX3 tyX3 tyX3_ok nmX3 shzC_46 clzC_3 (by decide) rfl (List.mem_of_getElem? (i := 6) rfl) rfl rfl (by decide +kernel) hF (fun σ21 eσ21 hF => ?_)
  refine ww_iload_n (pc := 152) X (j := 1) dX3_readName_152 rfl rfl ?_
  refine ww_iconst (pc := 153) X (v := (-1)) dX3_readName_153 (by decide) ?_
  refine ww_icmp_ne (pc := 154) (tgt := 179) X dX3_readName_154 (by decide) hF (fun h22 hF => ?_) (fun h22 hF => ?_)
  · refine ww_aload_n (pc := 179) X (j := 0) dX3_readName_179 rfl rfl ?_
    refine ww_get (pc := 180) X (ref := "PictureBlock$Reader") (T := TX3) (j := 10) dX3_readName_180 inX3_readName_RX3 shzC_46 clzC_3 (by decide) rfl (List.mem_of_getElem? (i := 6) rfl) rfl ?_
    refine ww_iconst (pc := 183) X (v := (-1)) dX3_readName_183 (by decide) ?_
    refine ww_icmp_eq (pc := 184) (tgt := 191) X dX3_readName_184 (by decide) hF (fun h23 hF => ?_) (fun h23 hF => ?_)
    · refine ww_iconst (pc := 191) X (v := 0) dX3_readName_191 (by decide) ?_
      exact ww_sub [0] rfl (wjX3_readName_192 X hZ σ21 0 hF)
    · refine ww_iconst (pc := 187) X (v := 1) dX3_readName_187 (by decide) ?_
      refine ww_goto (pc := 188) X (tgt := 192) dX3_readName_188 (by decide) ?_
      exact ww_sub [0] rfl (wjX3_readName_192 X hZ σ21 1 hF)
  · refine ww_aload_n (pc := 157) X (j := 0) dX3_readName_157 rfl rfl ?_
    refine ww_get (pc := 158) X (ref := "PictureBlock$Reader") (T := TX3) (j := 1) dX3_readName_158 inX3_readName_RX3 shzC_46 clzC_3 (by decide) rfl (List.mem_of_getElem? (i := 5) rfl) rfl ?_
    refine ww_aload_n (pc := 161) X (j := 0) dX3_readName_161 rfl rfl ?_
    refine ww_get (pc := 162) X (ref := "PictureBlock$Reader") (T := TX3) (j := 9) dX3_readName_162 inX3_readName_RX3 shzC_46 clzC_3 (by decide) rfl (List.mem_of_getElem? (i := 3) rfl) rfl ?_
    obtain ⟨r30, h29, hF⟩ := bd_some hF
    refine ww_callVi (pc := 165) X (As := [.int (σ21.1 46 9)]) (rest := []) dX3_readName_165 (kX8_isNamed_24 (mL M) G hZ X.2.2.2.2.2.2.1 X.2.2.2.2.2.2.2.1 σ21 (σ21.1 46 9) r30 h29) rfl shzC_24 clzC_8 gX3_readName_X8_isNamed hyX8_isNamed ⟨rfl, rfl⟩ ⟨Nat.le_of_ble_eq_true rfl, Nat.le_of_ble_eq_true rfl⟩ rfl rfl (Nat.le_of_ble_eq_true rfl) ?_
    refine ww_if_ne (pc := 168) (tgt := 175) X dX3_readName_168 (by decide) hF (fun h31 hF => ?_) (fun h31 hF => ?_)
    · refine ww_iconst (pc := 175) X (v := 0) dX3_readName_175 (by decide) ?_
      refine ww_goto (pc := 176) X (tgt := 192) dX3_readName_176 (by decide) ?_
      exact ww_sub [0] rfl (wjX3_readName_192 X hZ σ21 0 hF)
    · refine ww_iconst (pc := 171) X (v := 1) dX3_readName_171 (by decide) ?_
      refine ww_goto (pc := 172) X (tgt := 192) dX3_readName_172 (by decide) ?_
      exact ww_sub [0] rfl (wjX3_readName_192 X hZ σ21 1 hF)
set_option maxRecDepth 100000 in
set_option maxHeartbeats 4000000 in
theorem wbX3_readName_66 {M : gM} {G : gG} {out : Int32 × gS} (X : gX M G zC cX3_readName RX3 3 wsX3_readName rmX3_readName (some .boolean)) {ex : gEx} (hZ : ∀ s : State, G.2.2.2 s → kC ex (gA G zC.1) s) (σ : gS) (c66_1 : Int32) (rec66 : Int32 → gS → Option (Int32 × gS)) (ih66 : ∀ (a2 : Int32) (σ1 : gS), rec66 a2 σ1 = some out → WW M (gQi M G zC out.1 out.2) G zC 3 σ1 66 [(0, .ref (G.2.1 46)), (1, .int c66_1), (2, .int a2)] []) (a2 : Int32) (σ1 : gS) (hF : bX3_readName_66 σ c66_1 rec66 a2 σ1 = some out) : WW M (gQi M G zC out.1 out.2) G zC 3 σ1 66 [(0, .ref (G.2.1 46)), (1, .int c66_1), (2, .int a2)] [] := by
  unfold bX3_readName_66 at hF
  refine ww_iload_n (pc := 66) X (j := 2) dX3_readName_66 rfl rfl ?_
  refine ww_bipush (pc := 67) X (v := 6) dX3_readName_67 (by decide) ?_
  refine ww_icmp_ge (pc := 69) (tgt := 123) X dX3_readName_69 (by decide) hF (fun h15 hF => ?_) (fun h15 hF => ?_)
  · refine ww_aload_n (pc := 123) X (j := 0) dX3_readName_123 rfl rfl ?_
    obtain ⟨σ17, h16, hF⟩ := bd_some hF
    refine ww_callVv (pc := 124) X (As := []) (rest := []) dX3_readName_124 (kX3_passRun (mL M) G hZ X.2.2.2.2.2.2.1 X.2.2.2.2.2.2.2.1 σ1 σ17 h16) rfl shzC_46 clzC_3 gX3_readName_X3_passRun hyX3_passRun ⟨rfl, rfl⟩ ⟨Nat.le_of_ble_eq_true rfl, Nat.le_of_ble_eq_true rfl⟩ rfl rfl (Nat.le_of_ble_eq_true rfl) ?_
    refine ww_aload_n (pc := 127) X (j := 0) dX3_readName_127 rfl rfl ?_
    refine ww_iload_n (pc := 128) X (j := 1) dX3_readName_128 rfl rfl ?_
    refine ww_iconst (pc := 129) X (v := (-1)) dX3_readName_129 (by decide) ?_
    refine ww_icmp_ne (pc := 130) (tgt := 137) X dX3_readName_130 (by decide) hF (fun h18 hF => ?_) (fun h18 hF => ?_)
    · refine ww_aload_n (pc := 137) X (j := 0) dX3_readName_137 rfl rfl ?_
      refine ww_get (pc := 138) X (ref := "PictureBlock$Reader") (T := TX3) (j := 1) dX3_readName_138 inX3_readName_RX3 shzC_46 clzC_3 (by decide) rfl (List.mem_of_getElem? (i := 5) rfl) rfl ?_
      refine ww_iload_n (pc := 141) X (j := 1) dX3_readName_141 rfl rfl ?_
      refine ww_aload_n (pc := 142) X (j := 0) dX3_readName_142 rfl rfl ?_
      refine ww_get (pc := 143) X (ref := "PictureBlock$Reader") (T := TX3) (j := 9) dX3_readName_143 inX3_readName_RX3 shzC_46 clzC_3 (by decide) rfl (List.mem_of_getElem? (i := 3) rfl) rfl ?_
      obtain ⟨r20, h19, hF⟩ := bd_some hF
      refine ww_callVi (pc := 146) X (As := [.int c66_1, .int (σ17.1 46 9)]) (rest := [.ref (G.2.1 46)]) dX3_readName_146 (kX8_find_24 (mL M) G hZ X.2.2.2.2.2.2.1 X.2.2.2.2.2.2.2.1 σ17 c66_1 (σ17.1 46 9) r20 h19) rfl shzC_24 clzC_8 gX3_readName_X8_find hyX8_find ⟨rfl, rfl⟩ ⟨Nat.le_of_ble_eq_true rfl, Nat.le_of_ble_eq_true rfl⟩ rfl rfl (Nat.le_of_ble_eq_true rfl) ?_
      exact ww_sub [0, 1] rfl (wjX3_readName_149 X hZ σ17 c66_1 r20 hF)
    · refine ww_iconst (pc := 133) X (v := (-1)) dX3_readName_133 (by decide) ?_
      refine ww_goto (pc := 134) X (tgt := 149) dX3_readName_134 (by decide) ?_
      exact ww_sub [0, 1] rfl (wjX3_readName_149 X hZ σ17 c66_1 ((-1)) hF)
  · refine ww_aload_n (pc := 72) X (j := 0) dX3_readName_72 rfl rfl ?_
    refine ww_bipush (pc := 73) X (v := 27) dX3_readName_73 (by decide) ?_
    refine ww_aload_n (pc := 75) X (j := 0) dX3_readName_75 rfl rfl ?_
    refine ww_get (pc := 76) X (ref := "PictureBlock$Reader") (T := TX3) (j := 9) dX3_readName_76 inX3_readName_RX3 shzC_46 clzC_3 (by decide) rfl (List.mem_of_getElem? (i := 3) rfl) rfl ?_
    refine ww_imul (pc := 79) X dX3_readName_79 ?_
    refine ww_aload_n (pc := 80) X (j := 0) dX3_readName_80 rfl rfl ?_
    refine ww_get (pc := 81) X (ref := "PictureBlock$Reader") (T := TX3) (j := 6) dX3_readName_81 inX3_readName_RX3 shzC_46 clzC_3 (by decide) rfl (List.mem_of_getElem? (i := 1) rfl) rfl ?_
    refine ww_iload_n (pc := 84) X (j := 2) dX3_readName_84 rfl rfl ?_
    refine ww_iadd (pc := 85) X dX3_readName_85 ?_
    refine ww_aload_n (pc := 86) X (j := 0) dX3_readName_86 rfl rfl ?_
    refine ww_get (pc := 87) X (ref := "PictureBlock$Reader") (T := TX3) (j := 7) dX3_readName_87 inX3_readName_RX3 shzC_46 clzC_3 (by decide) rfl (List.mem_of_getElem? (i := 2) rfl) rfl ?_
    refine ww_icmp_ge (pc := 90) (tgt := 112) X dX3_readName_90 (by decide) hF (fun h32 hF => ?_) (fun h32 hF => ?_)
    · refine ww_iconst (pc := 112) X (v := 0) dX3_readName_112 (by decide) ?_
      refine ww_iadd (pc := 113) X dX3_readName_113 ?_
      refine ww_putI (pc := 114) X (ref := "PictureBlock$Reader") (T := TX3) (j := 9) dX3_readName_114 inX3_readName_RX3 tyX3 tyX3_ok nmX3 shzC_46 clzC_3 (by decide) rfl (List.mem_of_getElem? (i := 3) rfl) rfl rfl (by decide +kernel) hF (fun σ33 eσ33 hF => ?_)
      refine ww_iinc (pc := 117) X (j := 2) (v := 1) (lv' := [(0, .ref (G.2.1 46)), (1, .int c66_1)]) dX3_readName_117 rfl rfl (by decide) rfl hF (fun x34 ex34 hF => ?_)
      refine ww_goto (pc := 120) X (tgt := 66) dX3_readName_120 (by decide) ?_
      exact ww_sub [1, 2, 0] rfl (ih66 x34 σ33 hF)
    · refine ww_aload_n (pc := 93) X (j := 0) dX3_readName_93 rfl rfl ?_
      refine ww_get (pc := 94) X (ref := "PictureBlock$Reader") (T := TX3) (j := 0) dX3_readName_94 inX3_readName_RX3 shzC_46 clzC_3 (by decide) rfl (List.mem_of_getElem? (i := 4) rfl) rfl ?_
      refine ww_aload_n (pc := 97) X (j := 0) dX3_readName_97 rfl rfl ?_
      refine ww_get (pc := 98) X (ref := "PictureBlock$Reader") (T := TX3) (j := 6) dX3_readName_98 inX3_readName_RX3 shzC_46 clzC_3 (by decide) rfl (List.mem_of_getElem? (i := 1) rfl) rfl ?_
      refine ww_iload_n (pc := 101) X (j := 2) dX3_readName_101 rfl rfl ?_
      refine ww_iadd (pc := 102) X dX3_readName_102 ?_
      refine ww_iald (pc := 103) X dX3_readName_103 shzC_1 rfl hF (fun v35 ev35 bv35 hF => ?_)
      refine ww_bipush (pc := 104) X (v := 97) dX3_readName_104 (by decide) ?_
      refine ww_isub (pc := 106) X dX3_readName_106 ?_
      refine ww_iconst (pc := 107) X (v := 1) dX3_readName_107 (by decide) ?_
      refine ww_iadd (pc := 108) X dX3_readName_108 ?_
      refine ww_goto (pc := 109) X (tgt := 113) dX3_readName_109 (by decide) ?_
      refine ww_iadd (pc := 113) X dX3_readName_113 ?_
      refine ww_putI (pc := 114) X (ref := "PictureBlock$Reader") (T := TX3) (j := 9) dX3_readName_114 inX3_readName_RX3 tyX3 tyX3_ok nmX3 shzC_46 clzC_3 (by decide) rfl (List.mem_of_getElem? (i := 3) rfl) rfl rfl (by decide +kernel) hF (fun σ36 eσ36 hF => ?_)
      refine ww_iinc (pc := 117) X (j := 2) (v := 1) (lv' := [(0, .ref (G.2.1 46)), (1, .int c66_1)]) dX3_readName_117 rfl rfl (by decide) rfl hF (fun x37 ex37 hF => ?_)
      refine ww_goto (pc := 120) X (tgt := 66) dX3_readName_120 (by decide) ?_
      exact ww_sub [1, 2, 0] rfl (ih66 x37 σ36 hF)
set_option maxRecDepth 100000 in
set_option maxHeartbeats 4000000 in
theorem wX3_readName {M : gM} {G : gG} {out : Int32 × gS} (X : gX M G zC cX3_readName RX3 3 wsX3_readName rmX3_readName (some .boolean)) {ex : gEx} (hZ : ∀ s : State, G.2.2.2 s → kC ex (gA G zC.1) s) (σ : gS) (p1 : Int32) (hF : fX3_readName σ p1 = some out) : WW M (gQi M G zC out.1 out.2) G zC 3 σ 0 [(0, .ref (G.2.1 46)), (1, .int p1)] [] := by
  unfold fX3_readName at hF
  refine ww_aload_n (pc := 0) X (j := 0) dX3_readName_0 rfl rfl ?_
  refine ww_bipush (pc := 1) X (v := 97) dX3_readName_1 (by decide) ?_
  refine ww_bipush (pc := 3) X (v := 122) dX3_readName_3 (by decide) ?_
  obtain ⟨σ2, h1, hF⟩ := bd_some hF
  refine ww_callVv (pc := 5) X (As := [.int 97, .int 122]) (rest := []) dX3_readName_5 (kX3_markRun (mL M) G hZ X.2.2.2.2.2.2.1 X.2.2.2.2.2.2.2.1 σ 97 122 σ2 h1) rfl shzC_46 clzC_3 gX3_readName_X3_markRun hyX3_markRun ⟨rfl, rfl⟩ ⟨Nat.le_of_ble_eq_true rfl, Nat.le_of_ble_eq_true rfl⟩ rfl rfl (Nat.le_of_ble_eq_true rfl) ?_
  refine ww_aload_n (pc := 8) X (j := 0) dX3_readName_8 rfl rfl ?_
  obtain ⟨r4, h3, hF⟩ := bd_some hF
  refine ww_callVi (pc := 9) X (As := []) (rest := []) dX3_readName_9 (kX3_isNoRun (mL M) G hZ X.2.2.2.2.2.2.1 X.2.2.2.2.2.2.2.1 σ2 r4 h3) rfl shzC_46 clzC_3 gX3_readName_X3_isNoRun hyX3_isNoRun ⟨rfl, rfl⟩ ⟨Nat.le_of_ble_eq_true rfl, Nat.le_of_ble_eq_true rfl⟩ rfl rfl (Nat.le_of_ble_eq_true rfl) ?_
  refine ww_if_ne (pc := 12) (tgt := 22) X dX3_readName_12 (by decide) hF (fun h5 hF => ?_) (fun h5 hF => ?_)
  · refine ww_aload_n (pc := 22) X (j := 0) dX3_readName_22 rfl rfl ?_
    refine ww_iconst (pc := 23) X (v := 1) dX3_readName_23 (by decide) ?_
    refine ww_aload_n (pc := 24) X (j := 0) dX3_readName_24 rfl rfl ?_
    refine ww_get (pc := 25) X (ref := "PictureBlock$Reader") (T := TX3) (j := 6) dX3_readName_25 inX3_readName_RX3 shzC_46 clzC_3 (by decide) rfl (List.mem_of_getElem? (i := 1) rfl) rfl ?_
    obtain ⟨r7, σ8, h6, hF⟩ := bd2_some hF
    refine ww_callVi (pc := 28) X (As := [.int 1, .int (σ2.1 46 6)]) (rest := []) dX3_readName_28 (kX3_fail (mL M) G hZ X.2.2.2.2.2.2.1 X.2.2.2.2.2.2.2.1 σ2 1 (σ2.1 46 6) (r7, σ8) h6) rfl shzC_46 clzC_3 gX3_readName_X3_fail hyX3_fail ⟨rfl, rfl⟩ ⟨Nat.le_of_ble_eq_true rfl, Nat.le_of_ble_eq_true rfl⟩ rfl rfl (Nat.le_of_ble_eq_true rfl) ?_
    exact ww_zret (pc := 31) X dX3_readName_31 (by cases hF; rfl) (by cases hF; rfl)
  · refine ww_aload_n (pc := 15) X (j := 0) dX3_readName_15 rfl rfl ?_
    obtain ⟨r10, h9, hF⟩ := bd_some hF
    refine ww_callVi (pc := 16) X (As := []) (rest := []) dX3_readName_16 (kX3_isOwnWord (mL M) G hZ X.2.2.2.2.2.2.1 X.2.2.2.2.2.2.2.1 σ2 r10 h9) rfl shzC_46 clzC_3 gX3_readName_X3_isOwnWord hyX3_isOwnWord ⟨rfl, rfl⟩ ⟨Nat.le_of_ble_eq_true rfl, Nat.le_of_ble_eq_true rfl⟩ rfl rfl (Nat.le_of_ble_eq_true rfl) ?_
    refine ww_if_eq (pc := 19) (tgt := 32) X dX3_readName_19 (by decide) hF (fun h11 hF => ?_) (fun h11 hF => ?_)
    · refine ww_aload_n (pc := 32) X (j := 0) dX3_readName_32 rfl rfl ?_
      refine ww_get (pc := 33) X (ref := "PictureBlock$Reader") (T := TX3) (j := 7) dX3_readName_33 inX3_readName_RX3 shzC_46 clzC_3 (by decide) rfl (List.mem_of_getElem? (i := 2) rfl) rfl ?_
      refine ww_aload_n (pc := 36) X (j := 0) dX3_readName_36 rfl rfl ?_
      refine ww_get (pc := 37) X (ref := "PictureBlock$Reader") (T := TX3) (j := 6) dX3_readName_37 inX3_readName_RX3 shzC_46 clzC_3 (by decide) rfl (List.mem_of_getElem? (i := 1) rfl) rfl ?_
      refine ww_isub (pc := 40) X dX3_readName_40 ?_
      refine ww_bipush (pc := 41) X (v := 6) dX3_readName_41 (by decide) ?_
      refine ww_icmp_le (pc := 43) (tgt := 59) X dX3_readName_43 (by decide) hF (fun h12 hF => ?_) (fun h12 hF => ?_)
      · refine ww_aload_n (pc := 59) X (j := 0) dX3_readName_59 rfl rfl ?_
        refine ww_iconst (pc := 60) X (v := 0) dX3_readName_60 (by decide) ?_
        refine ww_putI (pc := 61) X (ref := "PictureBlock$Reader") (T := TX3) (j := 9) dX3_readName_61 inX3_readName_RX3 tyX3 tyX3_ok nmX3 shzC_46 clzC_3 (by decide) rfl (List.mem_of_getElem? (i := 3) rfl) rfl rfl (by decide +kernel) hF (fun σ13 eσ13 hF => ?_)
        refine ww_iconst (pc := 64) X (v := 0) dX3_readName_64 (by decide) ?_
        refine ww_istore_n (pc := 65) X (lv' := [(0, .ref (G.2.1 46)), (1, .int p1)]) dX3_readName_65 rfl (by decide) rfl hF (fun x14 ex14 hF => ?_)
        exact ww_sub [1, 2, 0] rfl (lpc_ind (P := (fun (s : Int32 × gS) => WW M (gQi M G zC out.1 out.2) G zC 3 s.2 66 [(0, .ref (G.2.1 46)), (1, .int p1), (2, .int s.1)] [])) (fun rec s ih hF => wbX3_readName_66 X hZ σ13 p1 (fun a2 σ1 => rec (a2, σ1)) (fun a2 σ1 h => ih (a2, σ1) h) s.1 s.2 hF) K9 (x14, σ13) hF)
      · refine ww_aload_n (pc := 46) X (j := 0) dX3_readName_46 rfl rfl ?_
        refine ww_iconst (pc := 47) X (v := 1) dX3_readName_47 (by decide) ?_
        refine ww_aload_n (pc := 48) X (j := 0) dX3_readName_48 rfl rfl ?_
        refine ww_get (pc := 49) X (ref := "PictureBlock$Reader") (T := TX3) (j := 6) dX3_readName_49 inX3_readName_RX3 shzC_46 clzC_3 (by decide) rfl (List.mem_of_getElem? (i := 1) rfl) rfl ?_
        refine ww_bipush (pc := 52) X (v := 6) dX3_readName_52 (by decide) ?_
        refine ww_iadd (pc := 54) X dX3_readName_54 ?_
        obtain ⟨r39, σ40, h38, hF⟩ := bd2_some hF
        refine ww_callVi (pc := 55) X (As := [.int 1, .int ((σ2.1 46 6) + 6)]) (rest := []) dX3_readName_55 (kX3_fail (mL M) G hZ X.2.2.2.2.2.2.1 X.2.2.2.2.2.2.2.1 σ2 1 ((σ2.1 46 6) + 6) (r39, σ40) h38) rfl shzC_46 clzC_3 gX3_readName_X3_fail hyX3_fail ⟨rfl, rfl⟩ ⟨Nat.le_of_ble_eq_true rfl, Nat.le_of_ble_eq_true rfl⟩ rfl rfl (Nat.le_of_ble_eq_true rfl) ?_
        exact ww_zret (pc := 58) X dX3_readName_58 (by cases hF; rfl) (by cases hF; rfl)
    · refine ww_aload_n (pc := 22) X (j := 0) dX3_readName_22 rfl rfl ?_
      refine ww_iconst (pc := 23) X (v := 1) dX3_readName_23 (by decide) ?_
      refine ww_aload_n (pc := 24) X (j := 0) dX3_readName_24 rfl rfl ?_
      refine ww_get (pc := 25) X (ref := "PictureBlock$Reader") (T := TX3) (j := 6) dX3_readName_25 inX3_readName_RX3 shzC_46 clzC_3 (by decide) rfl (List.mem_of_getElem? (i := 1) rfl) rfl ?_
      obtain ⟨r42, σ43, h41, hF⟩ := bd2_some hF
      refine ww_callVi (pc := 28) X (As := [.int 1, .int (σ2.1 46 6)]) (rest := []) dX3_readName_28 (kX3_fail (mL M) G hZ X.2.2.2.2.2.2.1 X.2.2.2.2.2.2.2.1 σ2 1 (σ2.1 46 6) (r42, σ43) h41) rfl shzC_46 clzC_3 gX3_readName_X3_fail hyX3_fail ⟨rfl, rfl⟩ ⟨Nat.le_of_ble_eq_true rfl, Nat.le_of_ble_eq_true rfl⟩ rfl rfl (Nat.le_of_ble_eq_true rfl) ?_
      exact ww_zret (pc := 31) X dX3_readName_31 (by cases hF; rfl) (by cases hF; rfl)
set_option maxRecDepth 100000 in
set_option maxHeartbeats 4000000 in
theorem kX3_readName (l : Launch) (G : gG) {ex : gEx} (hZ : ∀ s : State, G.2.2.2 s → kC ex (gA G zC.1) s) (hG : gOK G zC.1) (hT : G.2.2.1.map (fun q => q.2) = zC.2.1) (σ : gS) (p1 : Int32) (out : Int32 × gS) (hF : fX3_readName σ p1 = some out) : gCi l yX3_readName wsX3_readName rmX3_readName G zC [.ref (G.2.1 46), .int p1] σ out.1 out.2 :=
  gEnter (by decide) rfl ⟨rfl, rfl⟩ hG hT (Nat.le_of_ble_eq_true rfl) rfl (fun M X hl => wX3_readName X hZ σ p1 hF)
noncomputable def fX3_readWord_K6 (σ : gS) : Option (Int32 × gS) :=
  bd (fX3_markRun σ 97 122) fun σ2 => bd (fX3_isNoRun σ2) fun r4 => (if r4 = 0 then bd (fX3_isWord_K6 σ2) fun r10 => (if r10 = 0 then bd2 (fX3_fail σ2 1 (σ2.1 46 6)) fun r15 σ16 => some (vp_nar .boolean r15, σ16) else bd (fX3_passRun σ2) fun σ13 => some (1, σ13)) else bd2 (fX3_fail σ2 1 (σ2.1 46 6)) fun r7 σ8 => some (vp_nar .boolean r7, σ8))
noncomputable abbrev rmX3_readWord : Room := { frames := 5, cells := 0, slots := 0, locals := 107 }
set_option maxRecDepth 100000 in
set_option maxHeartbeats 4000000 in
theorem wX3_readWord_K6 {M : gM} {G : gG} {out : Int32 × gS} (X : gX M G zC cX3_readWord RX3 2 wsX3_readWord rmX3_readWord (some .boolean)) {ex : gEx} (hZ : ∀ s : State, G.2.2.2 s → kC ex (gA G zC.1) s) (σ : gS) (hF : fX3_readWord_K6 σ = some out) : WW M (gQi M G zC out.1 out.2) G zC 2 σ 0 [(0, .ref (G.2.1 46)), (1, .ref (ex.1 6))] [] := by
  unfold fX3_readWord_K6 at hF
  refine ww_aload_n (pc := 0) X (j := 0) dX3_readWord_0 rfl rfl ?_
  refine ww_bipush (pc := 1) X (v := 97) dX3_readWord_1 (by decide) ?_
  refine ww_bipush (pc := 3) X (v := 122) dX3_readWord_3 (by decide) ?_
  obtain ⟨σ2, h1, hF⟩ := bd_some hF
  refine ww_callVv (pc := 5) X (As := [.int 97, .int 122]) (rest := []) dX3_readWord_5 (kX3_markRun (mL M) G hZ X.2.2.2.2.2.2.1 X.2.2.2.2.2.2.2.1 σ 97 122 σ2 h1) rfl shzC_46 clzC_3 gX3_readWord_X3_markRun hyX3_markRun ⟨rfl, rfl⟩ ⟨Nat.le_of_ble_eq_true rfl, Nat.le_of_ble_eq_true rfl⟩ rfl rfl (Nat.le_of_ble_eq_true rfl) ?_
  refine ww_aload_n (pc := 8) X (j := 0) dX3_readWord_8 rfl rfl ?_
  obtain ⟨r4, h3, hF⟩ := bd_some hF
  refine ww_callVi (pc := 9) X (As := []) (rest := []) dX3_readWord_9 (kX3_isNoRun (mL M) G hZ X.2.2.2.2.2.2.1 X.2.2.2.2.2.2.2.1 σ2 r4 h3) rfl shzC_46 clzC_3 gX3_readWord_X3_isNoRun hyX3_isNoRun ⟨rfl, rfl⟩ ⟨Nat.le_of_ble_eq_true rfl, Nat.le_of_ble_eq_true rfl⟩ rfl rfl (Nat.le_of_ble_eq_true rfl) ?_
  refine ww_if_ne (pc := 12) (tgt := 23) X dX3_readWord_12 (by decide) hF (fun h5 hF => ?_) (fun h5 hF => ?_)
  · refine ww_aload_n (pc := 23) X (j := 0) dX3_readWord_23 rfl rfl ?_
    refine ww_iconst (pc := 24) X (v := 1) dX3_readWord_24 (by decide) ?_
    refine ww_aload_n (pc := 25) X (j := 0) dX3_readWord_25 rfl rfl ?_
    refine ww_get (pc := 26) X (ref := "PictureBlock$Reader") (T := TX3) (j := 6) dX3_readWord_26 inX3_readWord_RX3 shzC_46 clzC_3 (by decide) rfl (List.mem_of_getElem? (i := 1) rfl) rfl ?_
    obtain ⟨r7, σ8, h6, hF⟩ := bd2_some hF
    refine ww_callVi (pc := 29) X (As := [.int 1, .int (σ2.1 46 6)]) (rest := []) dX3_readWord_29 (kX3_fail (mL M) G hZ X.2.2.2.2.2.2.1 X.2.2.2.2.2.2.2.1 σ2 1 (σ2.1 46 6) (r7, σ8) h6) rfl shzC_46 clzC_3 gX3_readWord_X3_fail hyX3_fail ⟨rfl, rfl⟩ ⟨Nat.le_of_ble_eq_true rfl, Nat.le_of_ble_eq_true rfl⟩ rfl rfl (Nat.le_of_ble_eq_true rfl) ?_
    exact ww_zret (pc := 32) X dX3_readWord_32 (by cases hF; rfl) (by cases hF; rfl)
  · refine ww_aload_n (pc := 15) X (j := 0) dX3_readWord_15 rfl rfl ?_
    refine ww_aload_n (pc := 16) X (j := 1) dX3_readWord_16 rfl rfl ?_
    obtain ⟨r10, h9, hF⟩ := bd_some hF
    refine ww_callVi (pc := 17) X (As := [.ref (ex.1 6)]) (rest := []) dX3_readWord_17 (kX3_isWord_K6 (mL M) G hZ X.2.2.2.2.2.2.1 X.2.2.2.2.2.2.2.1 σ2 r10 h9) rfl shzC_46 clzC_3 gX3_readWord_X3_isWord hyX3_isWord ⟨rfl, rfl⟩ ⟨Nat.le_of_ble_eq_true rfl, Nat.le_of_ble_eq_true rfl⟩ rfl rfl (Nat.le_of_ble_eq_true rfl) ?_
    refine ww_if_ne (pc := 20) (tgt := 33) X dX3_readWord_20 (by decide) hF (fun h11 hF => ?_) (fun h11 hF => ?_)
    · refine ww_aload_n (pc := 33) X (j := 0) dX3_readWord_33 rfl rfl ?_
      obtain ⟨σ13, h12, hF⟩ := bd_some hF
      refine ww_callVv (pc := 34) X (As := []) (rest := []) dX3_readWord_34 (kX3_passRun (mL M) G hZ X.2.2.2.2.2.2.1 X.2.2.2.2.2.2.2.1 σ2 σ13 h12) rfl shzC_46 clzC_3 gX3_readWord_X3_passRun hyX3_passRun ⟨rfl, rfl⟩ ⟨Nat.le_of_ble_eq_true rfl, Nat.le_of_ble_eq_true rfl⟩ rfl rfl (Nat.le_of_ble_eq_true rfl) ?_
      refine ww_iconst (pc := 37) X (v := 1) dX3_readWord_37 (by decide) ?_
      exact ww_zret (pc := 38) X dX3_readWord_38 (by cases hF; rfl) (by cases hF; rfl)
    · refine ww_aload_n (pc := 23) X (j := 0) dX3_readWord_23 rfl rfl ?_
      refine ww_iconst (pc := 24) X (v := 1) dX3_readWord_24 (by decide) ?_
      refine ww_aload_n (pc := 25) X (j := 0) dX3_readWord_25 rfl rfl ?_
      refine ww_get (pc := 26) X (ref := "PictureBlock$Reader") (T := TX3) (j := 6) dX3_readWord_26 inX3_readWord_RX3 shzC_46 clzC_3 (by decide) rfl (List.mem_of_getElem? (i := 1) rfl) rfl ?_
      obtain ⟨r15, σ16, h14, hF⟩ := bd2_some hF
      refine ww_callVi (pc := 29) X (As := [.int 1, .int (σ2.1 46 6)]) (rest := []) dX3_readWord_29 (kX3_fail (mL M) G hZ X.2.2.2.2.2.2.1 X.2.2.2.2.2.2.2.1 σ2 1 (σ2.1 46 6) (r15, σ16) h14) rfl shzC_46 clzC_3 gX3_readWord_X3_fail hyX3_fail ⟨rfl, rfl⟩ ⟨Nat.le_of_ble_eq_true rfl, Nat.le_of_ble_eq_true rfl⟩ rfl rfl (Nat.le_of_ble_eq_true rfl) ?_
      exact ww_zret (pc := 32) X dX3_readWord_32 (by cases hF; rfl) (by cases hF; rfl)
set_option maxRecDepth 100000 in
set_option maxHeartbeats 4000000 in
theorem kX3_readWord_K6 (l : Launch) (G : gG) {ex : gEx} (hZ : ∀ s : State, G.2.2.2 s → kC ex (gA G zC.1) s) (hG : gOK G zC.1) (hT : G.2.2.1.map (fun q => q.2) = zC.2.1) (σ : gS) (out : Int32 × gS) (hF : fX3_readWord_K6 σ = some out) : gCi l yX3_readWord wsX3_readWord rmX3_readWord G zC [.ref (G.2.1 46), .ref (ex.1 6)] σ out.1 out.2 :=
  gEnter (by decide) rfl ⟨rfl, rfl⟩ hG hT (Nat.le_of_ble_eq_true rfl) rfl (fun M X hl => wX3_readWord_K6 X hZ σ hF)
noncomputable def fX3_readWord_K7 (σ : gS) : Option (Int32 × gS) :=
  bd (fX3_markRun σ 97 122) fun σ2 => bd (fX3_isNoRun σ2) fun r4 => (if r4 = 0 then bd (fX3_isWord_K7 σ2) fun r10 => (if r10 = 0 then bd2 (fX3_fail σ2 1 (σ2.1 46 6)) fun r15 σ16 => some (vp_nar .boolean r15, σ16) else bd (fX3_passRun σ2) fun σ13 => some (1, σ13)) else bd2 (fX3_fail σ2 1 (σ2.1 46 6)) fun r7 σ8 => some (vp_nar .boolean r7, σ8))
set_option maxRecDepth 100000 in
set_option maxHeartbeats 4000000 in
theorem wX3_readWord_K7 {M : gM} {G : gG} {out : Int32 × gS} (X : gX M G zC cX3_readWord RX3 2 wsX3_readWord rmX3_readWord (some .boolean)) {ex : gEx} (hZ : ∀ s : State, G.2.2.2 s → kC ex (gA G zC.1) s) (σ : gS) (hF : fX3_readWord_K7 σ = some out) : WW M (gQi M G zC out.1 out.2) G zC 2 σ 0 [(0, .ref (G.2.1 46)), (1, .ref (ex.1 7))] [] := by
  unfold fX3_readWord_K7 at hF
  refine ww_aload_n (pc := 0) X (j := 0) dX3_readWord_0 rfl rfl ?_
  refine ww_bipush (pc := 1) X (v := 97) dX3_readWord_1 (by decide) ?_
  refine ww_bipush (pc := 3) X (v := 122) dX3_readWord_3 (by decide) ?_
  obtain ⟨σ2, h1, hF⟩ := bd_some hF
  refine ww_callVv (pc := 5) X (As := [.int 97, .int 122]) (rest := []) dX3_readWord_5 (kX3_markRun (mL M) G hZ X.2.2.2.2.2.2.1 X.2.2.2.2.2.2.2.1 σ 97 122 σ2 h1) rfl shzC_46 clzC_3 gX3_readWord_X3_markRun hyX3_markRun ⟨rfl, rfl⟩ ⟨Nat.le_of_ble_eq_true rfl, Nat.le_of_ble_eq_true rfl⟩ rfl rfl (Nat.le_of_ble_eq_true rfl) ?_
  refine ww_aload_n (pc := 8) X (j := 0) dX3_readWord_8 rfl rfl ?_
  obtain ⟨r4, h3, hF⟩ := bd_some hF
  refine ww_callVi (pc := 9) X (As := []) (rest := []) dX3_readWord_9 (kX3_isNoRun (mL M) G hZ X.2.2.2.2.2.2.1 X.2.2.2.2.2.2.2.1 σ2 r4 h3) rfl shzC_46 clzC_3 gX3_readWord_X3_isNoRun hyX3_isNoRun ⟨rfl, rfl⟩ ⟨Nat.le_of_ble_eq_true rfl, Nat.le_of_ble_eq_true rfl⟩ rfl rfl (Nat.le_of_ble_eq_true rfl) ?_
  refine ww_if_ne (pc := 12) (tgt := 23) X dX3_readWord_12 (by decide) hF (fun h5 hF => ?_) (fun h5 hF => ?_)
  · refine ww_aload_n (pc := 23) X (j := 0) dX3_readWord_23 rfl rfl ?_
    refine ww_iconst (pc := 24) X (v := 1) dX3_readWord_24 (by decide) ?_
    refine ww_aload_n (pc := 25) X (j := 0) dX3_readWord_25 rfl rfl ?_
    refine ww_get (pc := 26) X (ref := "PictureBlock$Reader") (T := TX3) (j := 6) dX3_readWord_26 inX3_readWord_RX3 shzC_46 clzC_3 (by decide) rfl (List.mem_of_getElem? (i := 1) rfl) rfl ?_
    obtain ⟨r7, σ8, h6, hF⟩ := bd2_some hF
    refine ww_callVi (pc := 29) X (As := [.int 1, .int (σ2.1 46 6)]) (rest := []) dX3_readWord_29 (kX3_fail (mL M) G hZ X.2.2.2.2.2.2.1 X.2.2.2.2.2.2.2.1 σ2 1 (σ2.1 46 6) (r7, σ8) h6) rfl shzC_46 clzC_3 gX3_readWord_X3_fail hyX3_fail ⟨rfl, rfl⟩ ⟨Nat.le_of_ble_eq_true rfl, Nat.le_of_ble_eq_true rfl⟩ rfl rfl (Nat.le_of_ble_eq_true rfl) ?_
    exact ww_zret (pc := 32) X dX3_readWord_32 (by cases hF; rfl) (by cases hF; rfl)
  · refine ww_aload_n (pc := 15) X (j := 0) dX3_readWord_15 rfl rfl ?_
    refine ww_aload_n (pc := 16) X (j := 1) dX3_readWord_16 rfl rfl ?_
    obtain ⟨r10, h9, hF⟩ := bd_some hF
    refine ww_callVi (pc := 17) X (As := [.ref (ex.1 7)]) (rest := []) dX3_readWord_17 (kX3_isWord_K7 (mL M) G hZ X.2.2.2.2.2.2.1 X.2.2.2.2.2.2.2.1 σ2 r10 h9) rfl shzC_46 clzC_3 gX3_readWord_X3_isWord hyX3_isWord ⟨rfl, rfl⟩ ⟨Nat.le_of_ble_eq_true rfl, Nat.le_of_ble_eq_true rfl⟩ rfl rfl (Nat.le_of_ble_eq_true rfl) ?_
    refine ww_if_ne (pc := 20) (tgt := 33) X dX3_readWord_20 (by decide) hF (fun h11 hF => ?_) (fun h11 hF => ?_)
    · refine ww_aload_n (pc := 33) X (j := 0) dX3_readWord_33 rfl rfl ?_
      obtain ⟨σ13, h12, hF⟩ := bd_some hF
      refine ww_callVv (pc := 34) X (As := []) (rest := []) dX3_readWord_34 (kX3_passRun (mL M) G hZ X.2.2.2.2.2.2.1 X.2.2.2.2.2.2.2.1 σ2 σ13 h12) rfl shzC_46 clzC_3 gX3_readWord_X3_passRun hyX3_passRun ⟨rfl, rfl⟩ ⟨Nat.le_of_ble_eq_true rfl, Nat.le_of_ble_eq_true rfl⟩ rfl rfl (Nat.le_of_ble_eq_true rfl) ?_
      refine ww_iconst (pc := 37) X (v := 1) dX3_readWord_37 (by decide) ?_
      exact ww_zret (pc := 38) X dX3_readWord_38 (by cases hF; rfl) (by cases hF; rfl)
    · refine ww_aload_n (pc := 23) X (j := 0) dX3_readWord_23 rfl rfl ?_
      refine ww_iconst (pc := 24) X (v := 1) dX3_readWord_24 (by decide) ?_
      refine ww_aload_n (pc := 25) X (j := 0) dX3_readWord_25 rfl rfl ?_
      refine ww_get (pc := 26) X (ref := "PictureBlock$Reader") (T := TX3) (j := 6) dX3_readWord_26 inX3_readWord_RX3 shzC_46 clzC_3 (by decide) rfl (List.mem_of_getElem? (i := 1) rfl) rfl ?_
      obtain ⟨r15, σ16, h14, hF⟩ := bd2_some hF
      refine ww_callVi (pc := 29) X (As := [.int 1, .int (σ2.1 46 6)]) (rest := []) dX3_readWord_29 (kX3_fail (mL M) G hZ X.2.2.2.2.2.2.1 X.2.2.2.2.2.2.2.1 σ2 1 (σ2.1 46 6) (r15, σ16) h14) rfl shzC_46 clzC_3 gX3_readWord_X3_fail hyX3_fail ⟨rfl, rfl⟩ ⟨Nat.le_of_ble_eq_true rfl, Nat.le_of_ble_eq_true rfl⟩ rfl rfl (Nat.le_of_ble_eq_true rfl) ?_
      exact ww_zret (pc := 32) X dX3_readWord_32 (by cases hF; rfl) (by cases hF; rfl)
set_option maxRecDepth 100000 in
set_option maxHeartbeats 4000000 in
theorem kX3_readWord_K7 (l : Launch) (G : gG) {ex : gEx} (hZ : ∀ s : State, G.2.2.2 s → kC ex (gA G zC.1) s) (hG : gOK G zC.1) (hT : G.2.2.1.map (fun q => q.2) = zC.2.1) (σ : gS) (out : Int32 × gS) (hF : fX3_readWord_K7 σ = some out) : gCi l yX3_readWord wsX3_readWord rmX3_readWord G zC [.ref (G.2.1 46), .ref (ex.1 7)] σ out.1 out.2 :=
  gEnter (by decide) rfl ⟨rfl, rfl⟩ hG hT (Nat.le_of_ble_eq_true rfl) rfl (fun M X hl => wX3_readWord_K7 X hZ σ hF)
noncomputable def bX3_readNumber_60 (σ : gS) (c60_1 : Int32) (c60_2 : Int32) (rec60 : Int32 → gS → Option (Int32 × gS)) (a3 : Int32) (σ1 : gS) : Option (Int32 × gS) :=
  if (σ1.1 46 7) ≤ a3 then bd (fX3_passRun σ1) fun σ11 => (if (σ11.1 46 11) < c60_1 then bd2 (fX3_fail σ11 2 (σ11.1 46 6)) fun r14 σ15 => some (vp_nar .boolean r14, σ15) else if (σ11.1 46 11) ≤ c60_2 then some (1, σ11) else bd2 (fX3_fail σ11 2 (σ11.1 46 6)) fun r18 σ19 => some (vp_nar .boolean r18, σ19)) else gd (gb a3 1600) <| nm (σ1.1 1 a3.toNatClampNeg) fun v20 => nm (gsI σ1 46 11 (((10 * (σ1.1 46 11)) + v20) - 48)) fun σ21 => nm (a3 + 1 : Int32) fun x22 => rec60 x22 σ21
noncomputable def fX3_readNumber (σ : gS) (p1 : Int32) (p2 : Int32) : Option (Int32 × gS) :=
  bd (fX3_markRun σ 48 57) fun σ2 => bd (fX3_isNoRun σ2) fun r4 => (if r4 = 0 then if ((σ2.1 46 7) - (σ2.1 46 6)) ≤ 4 then nm (gsI σ2 46 11 0) fun σ7 => nm (σ7.1 46 6 : Int32) fun x8 => lpc (S := Int32 × gS) K9 (fun rec s => bX3_readNumber_60 σ7 p1 p2 (fun a3 σ1 => rec (a3, σ1)) s.1 s.2) (x8, σ7) else bd2 (fX3_fail σ2 1 ((σ2.1 46 6) + 4)) fun r24 σ25 => some (vp_nar .boolean r24, σ25) else bd2 (fX3_fail σ2 1 (σ2.1 46 6)) fun r27 σ28 => some (vp_nar .boolean r27, σ28))
noncomputable abbrev rmX3_readNumber : Room := { frames := 2, cells := 0, slots := 0, locals := 42 }
set_option maxRecDepth 100000 in
set_option maxHeartbeats 4000000 in
theorem wbX3_readNumber_60 {M : gM} {G : gG} {out : Int32 × gS} (X : gX M G zC cX3_readNumber RX3 4 wsX3_readNumber rmX3_readNumber (some .boolean)) {ex : gEx} (hZ : ∀ s : State, G.2.2.2 s → kC ex (gA G zC.1) s) (σ : gS) (c60_1 : Int32) (c60_2 : Int32) (rec60 : Int32 → gS → Option (Int32 × gS)) (ih60 : ∀ (a3 : Int32) (σ1 : gS), rec60 a3 σ1 = some out → WW M (gQi M G zC out.1 out.2) G zC 4 σ1 60 [(0, .ref (G.2.1 46)), (1, .int c60_1), (2, .int c60_2), (3, .int a3)] []) (a3 : Int32) (σ1 : gS) (hF : bX3_readNumber_60 σ c60_1 c60_2 rec60 a3 σ1 = some out) : WW M (gQi M G zC out.1 out.2) G zC 4 σ1 60 [(0, .ref (G.2.1 46)), (1, .int c60_1), (2, .int c60_2), (3, .int a3)] [] := by
  unfold bX3_readNumber_60 at hF
  refine ww_iload_n (pc := 60) X (j := 3) dX3_readNumber_60 rfl rfl ?_
  refine ww_aload_n (pc := 61) X (j := 0) dX3_readNumber_61 rfl rfl ?_
  refine ww_get (pc := 62) X (ref := "PictureBlock$Reader") (T := TX3) (j := 7) dX3_readNumber_62 inX3_readNumber_RX3 shzC_46 clzC_3 (by decide) rfl (List.mem_of_getElem? (i := 2) rfl) rfl ?_
  refine ww_icmp_ge (pc := 65) (tgt := 95) X dX3_readNumber_65 (by decide) hF (fun h9 hF => ?_) (fun h9 hF => ?_)
  · refine ww_aload_n (pc := 95) X (j := 0) dX3_readNumber_95 rfl rfl ?_
    obtain ⟨σ11, h10, hF⟩ := bd_some hF
    refine ww_callVv (pc := 96) X (As := []) (rest := []) dX3_readNumber_96 (kX3_passRun (mL M) G hZ X.2.2.2.2.2.2.1 X.2.2.2.2.2.2.2.1 σ1 σ11 h10) rfl shzC_46 clzC_3 gX3_readNumber_X3_passRun hyX3_passRun ⟨rfl, rfl⟩ ⟨Nat.le_of_ble_eq_true rfl, Nat.le_of_ble_eq_true rfl⟩ rfl rfl (Nat.le_of_ble_eq_true rfl) ?_
    refine ww_aload_n (pc := 99) X (j := 0) dX3_readNumber_99 rfl rfl ?_
    refine ww_get (pc := 100) X (ref := "PictureBlock$Reader") (T := TX3) (j := 11) dX3_readNumber_100 inX3_readNumber_RX3 shzC_46 clzC_3 (by decide) rfl (List.mem_of_getElem? (i := 3) rfl) rfl ?_
    refine ww_iload_n (pc := 103) X (j := 1) dX3_readNumber_103 rfl rfl ?_
    refine ww_icmp_lt (pc := 104) (tgt := 115) X dX3_readNumber_104 (by decide) hF (fun h12 hF => ?_) (fun h12 hF => ?_)
    · refine ww_aload_n (pc := 115) X (j := 0) dX3_readNumber_115 rfl rfl ?_
      refine ww_iconst (pc := 116) X (v := 2) dX3_readNumber_116 (by decide) ?_
      refine ww_aload_n (pc := 117) X (j := 0) dX3_readNumber_117 rfl rfl ?_
      refine ww_get (pc := 118) X (ref := "PictureBlock$Reader") (T := TX3) (j := 6) dX3_readNumber_118 inX3_readNumber_RX3 shzC_46 clzC_3 (by decide) rfl (List.mem_of_getElem? (i := 1) rfl) rfl ?_
      obtain ⟨r14, σ15, h13, hF⟩ := bd2_some hF
      refine ww_callVi (pc := 121) X (As := [.int 2, .int (σ11.1 46 6)]) (rest := []) dX3_readNumber_121 (kX3_fail (mL M) G hZ X.2.2.2.2.2.2.1 X.2.2.2.2.2.2.2.1 σ11 2 (σ11.1 46 6) (r14, σ15) h13) rfl shzC_46 clzC_3 gX3_readNumber_X3_fail hyX3_fail ⟨rfl, rfl⟩ ⟨Nat.le_of_ble_eq_true rfl, Nat.le_of_ble_eq_true rfl⟩ rfl rfl (Nat.le_of_ble_eq_true rfl) ?_
      refine ww_goto (pc := 124) X (tgt := 128) dX3_readNumber_124 (by decide) ?_
      exact ww_zret (pc := 128) X dX3_readNumber_128 (by cases hF; rfl) (by cases hF; rfl)
    · refine ww_aload_n (pc := 107) X (j := 0) dX3_readNumber_107 rfl rfl ?_
      refine ww_get (pc := 108) X (ref := "PictureBlock$Reader") (T := TX3) (j := 11) dX3_readNumber_108 inX3_readNumber_RX3 shzC_46 clzC_3 (by decide) rfl (List.mem_of_getElem? (i := 3) rfl) rfl ?_
      refine ww_iload_n (pc := 111) X (j := 2) dX3_readNumber_111 rfl rfl ?_
      refine ww_icmp_le (pc := 112) (tgt := 127) X dX3_readNumber_112 (by decide) hF (fun h16 hF => ?_) (fun h16 hF => ?_)
      · refine ww_iconst (pc := 127) X (v := 1) dX3_readNumber_127 (by decide) ?_
        exact ww_zret (pc := 128) X dX3_readNumber_128 (by cases hF; rfl) (by cases hF; rfl)
      · refine ww_aload_n (pc := 115) X (j := 0) dX3_readNumber_115 rfl rfl ?_
        refine ww_iconst (pc := 116) X (v := 2) dX3_readNumber_116 (by decide) ?_
        refine ww_aload_n (pc := 117) X (j := 0) dX3_readNumber_117 rfl rfl ?_
        refine ww_get (pc := 118) X (ref := "PictureBlock$Reader") (T := TX3) (j := 6) dX3_readNumber_118 inX3_readNumber_RX3 shzC_46 clzC_3 (by decide) rfl (List.mem_of_getElem? (i := 1) rfl) rfl ?_
        obtain ⟨r18, σ19, h17, hF⟩ := bd2_some hF
        refine ww_callVi (pc := 121) X (As := [.int 2, .int (σ11.1 46 6)]) (rest := []) dX3_readNumber_121 (kX3_fail (mL M) G hZ X.2.2.2.2.2.2.1 X.2.2.2.2.2.2.2.1 σ11 2 (σ11.1 46 6) (r18, σ19) h17) rfl shzC_46 clzC_3 gX3_readNumber_X3_fail hyX3_fail ⟨rfl, rfl⟩ ⟨Nat.le_of_ble_eq_true rfl, Nat.le_of_ble_eq_true rfl⟩ rfl rfl (Nat.le_of_ble_eq_true rfl) ?_
        refine ww_goto (pc := 124) X (tgt := 128) dX3_readNumber_124 (by decide) ?_
        exact ww_zret (pc := 128) X dX3_readNumber_128 (by cases hF; rfl) (by cases hF; rfl)
  · refine ww_aload_n (pc := 68) X (j := 0) dX3_readNumber_68 rfl rfl ?_
    refine ww_bipush (pc := 69) X (v := 10) dX3_readNumber_69 (by decide) ?_
    refine ww_aload_n (pc := 71) X (j := 0) dX3_readNumber_71 rfl rfl ?_
    refine ww_get (pc := 72) X (ref := "PictureBlock$Reader") (T := TX3) (j := 11) dX3_readNumber_72 inX3_readNumber_RX3 shzC_46 clzC_3 (by decide) rfl (List.mem_of_getElem? (i := 3) rfl) rfl ?_
    refine ww_imul (pc := 75) X dX3_readNumber_75 ?_
    refine ww_aload_n (pc := 76) X (j := 0) dX3_readNumber_76 rfl rfl ?_
    refine ww_get (pc := 77) X (ref := "PictureBlock$Reader") (T := TX3) (j := 0) dX3_readNumber_77 inX3_readNumber_RX3 shzC_46 clzC_3 (by decide) rfl (List.mem_of_getElem? (i := 4) rfl) rfl ?_
    refine ww_iload_n (pc := 80) X (j := 3) dX3_readNumber_80 rfl rfl ?_
    refine ww_iald (pc := 81) X dX3_readNumber_81 shzC_1 rfl hF (fun v20 ev20 bv20 hF => ?_)
    refine ww_iadd (pc := 82) X dX3_readNumber_82 ?_
    refine ww_bipush (pc := 83) X (v := 48) dX3_readNumber_83 (by decide) ?_
    refine ww_isub (pc := 85) X dX3_readNumber_85 ?_
    refine ww_putI (pc := 86) X (ref := "PictureBlock$Reader") (T := TX3) (j := 11) dX3_readNumber_86 inX3_readNumber_RX3 tyX3 tyX3_ok nmX3 shzC_46 clzC_3 (by decide) rfl (List.mem_of_getElem? (i := 3) rfl) rfl rfl (by decide +kernel) hF (fun σ21 eσ21 hF => ?_)
    refine ww_iinc (pc := 89) X (j := 3) (v := 1) (lv' := [(0, .ref (G.2.1 46)), (1, .int c60_1), (2, .int c60_2)]) dX3_readNumber_89 rfl rfl (by decide) rfl hF (fun x22 ex22 hF => ?_)
    refine ww_goto (pc := 92) X (tgt := 60) dX3_readNumber_92 (by decide) ?_
    exact ww_sub [1, 2, 3, 0] rfl (ih60 x22 σ21 hF)
set_option maxRecDepth 100000 in
set_option maxHeartbeats 4000000 in
theorem wX3_readNumber {M : gM} {G : gG} {out : Int32 × gS} (X : gX M G zC cX3_readNumber RX3 4 wsX3_readNumber rmX3_readNumber (some .boolean)) {ex : gEx} (hZ : ∀ s : State, G.2.2.2 s → kC ex (gA G zC.1) s) (σ : gS) (p1 : Int32) (p2 : Int32) (hF : fX3_readNumber σ p1 p2 = some out) : WW M (gQi M G zC out.1 out.2) G zC 4 σ 0 [(0, .ref (G.2.1 46)), (1, .int p1), (2, .int p2)] [] := by
  unfold fX3_readNumber at hF
  refine ww_aload_n (pc := 0) X (j := 0) dX3_readNumber_0 rfl rfl ?_
  refine ww_bipush (pc := 1) X (v := 48) dX3_readNumber_1 (by decide) ?_
  refine ww_bipush (pc := 3) X (v := 57) dX3_readNumber_3 (by decide) ?_
  obtain ⟨σ2, h1, hF⟩ := bd_some hF
  refine ww_callVv (pc := 5) X (As := [.int 48, .int 57]) (rest := []) dX3_readNumber_5 (kX3_markRun (mL M) G hZ X.2.2.2.2.2.2.1 X.2.2.2.2.2.2.2.1 σ 48 57 σ2 h1) rfl shzC_46 clzC_3 gX3_readNumber_X3_markRun hyX3_markRun ⟨rfl, rfl⟩ ⟨Nat.le_of_ble_eq_true rfl, Nat.le_of_ble_eq_true rfl⟩ rfl rfl (Nat.le_of_ble_eq_true rfl) ?_
  refine ww_aload_n (pc := 8) X (j := 0) dX3_readNumber_8 rfl rfl ?_
  obtain ⟨r4, h3, hF⟩ := bd_some hF
  refine ww_callVi (pc := 9) X (As := []) (rest := []) dX3_readNumber_9 (kX3_isNoRun (mL M) G hZ X.2.2.2.2.2.2.1 X.2.2.2.2.2.2.2.1 σ2 r4 h3) rfl shzC_46 clzC_3 gX3_readNumber_X3_isNoRun hyX3_isNoRun ⟨rfl, rfl⟩ ⟨Nat.le_of_ble_eq_true rfl, Nat.le_of_ble_eq_true rfl⟩ rfl rfl (Nat.le_of_ble_eq_true rfl) ?_
  refine ww_if_eq (pc := 12) (tgt := 25) X dX3_readNumber_12 (by decide) hF (fun h5 hF => ?_) (fun h5 hF => ?_)
  · refine ww_aload_n (pc := 25) X (j := 0) dX3_readNumber_25 rfl rfl ?_
    refine ww_get (pc := 26) X (ref := "PictureBlock$Reader") (T := TX3) (j := 7) dX3_readNumber_26 inX3_readNumber_RX3 shzC_46 clzC_3 (by decide) rfl (List.mem_of_getElem? (i := 2) rfl) rfl ?_
    refine ww_aload_n (pc := 29) X (j := 0) dX3_readNumber_29 rfl rfl ?_
    refine ww_get (pc := 30) X (ref := "PictureBlock$Reader") (T := TX3) (j := 6) dX3_readNumber_30 inX3_readNumber_RX3 shzC_46 clzC_3 (by decide) rfl (List.mem_of_getElem? (i := 1) rfl) rfl ?_
    refine ww_isub (pc := 33) X dX3_readNumber_33 ?_
    refine ww_iconst (pc := 34) X (v := 4) dX3_readNumber_34 (by decide) ?_
    refine ww_icmp_le (pc := 35) (tgt := 50) X dX3_readNumber_35 (by decide) hF (fun h6 hF => ?_) (fun h6 hF => ?_)
    · refine ww_aload_n (pc := 50) X (j := 0) dX3_readNumber_50 rfl rfl ?_
      refine ww_iconst (pc := 51) X (v := 0) dX3_readNumber_51 (by decide) ?_
      refine ww_putI (pc := 52) X (ref := "PictureBlock$Reader") (T := TX3) (j := 11) dX3_readNumber_52 inX3_readNumber_RX3 tyX3 tyX3_ok nmX3 shzC_46 clzC_3 (by decide) rfl (List.mem_of_getElem? (i := 3) rfl) rfl rfl (by decide +kernel) hF (fun σ7 eσ7 hF => ?_)
      refine ww_aload_n (pc := 55) X (j := 0) dX3_readNumber_55 rfl rfl ?_
      refine ww_get (pc := 56) X (ref := "PictureBlock$Reader") (T := TX3) (j := 6) dX3_readNumber_56 inX3_readNumber_RX3 shzC_46 clzC_3 (by decide) rfl (List.mem_of_getElem? (i := 1) rfl) rfl ?_
      refine ww_istore_n (pc := 59) X (lv' := [(0, .ref (G.2.1 46)), (1, .int p1), (2, .int p2)]) dX3_readNumber_59 rfl (by decide) rfl hF (fun x8 ex8 hF => ?_)
      exact ww_sub [1, 2, 3, 0] rfl (lpc_ind (P := (fun (s : Int32 × gS) => WW M (gQi M G zC out.1 out.2) G zC 4 s.2 60 [(0, .ref (G.2.1 46)), (1, .int p1), (2, .int p2), (3, .int s.1)] [])) (fun rec s ih hF => wbX3_readNumber_60 X hZ σ7 p1 p2 (fun a3 σ1 => rec (a3, σ1)) (fun a3 σ1 h => ih (a3, σ1) h) s.1 s.2 hF) K9 (x8, σ7) hF)
    · refine ww_aload_n (pc := 38) X (j := 0) dX3_readNumber_38 rfl rfl ?_
      refine ww_iconst (pc := 39) X (v := 1) dX3_readNumber_39 (by decide) ?_
      refine ww_aload_n (pc := 40) X (j := 0) dX3_readNumber_40 rfl rfl ?_
      refine ww_get (pc := 41) X (ref := "PictureBlock$Reader") (T := TX3) (j := 6) dX3_readNumber_41 inX3_readNumber_RX3 shzC_46 clzC_3 (by decide) rfl (List.mem_of_getElem? (i := 1) rfl) rfl ?_
      refine ww_iconst (pc := 44) X (v := 4) dX3_readNumber_44 (by decide) ?_
      refine ww_iadd (pc := 45) X dX3_readNumber_45 ?_
      obtain ⟨r24, σ25, h23, hF⟩ := bd2_some hF
      refine ww_callVi (pc := 46) X (As := [.int 1, .int ((σ2.1 46 6) + 4)]) (rest := []) dX3_readNumber_46 (kX3_fail (mL M) G hZ X.2.2.2.2.2.2.1 X.2.2.2.2.2.2.2.1 σ2 1 ((σ2.1 46 6) + 4) (r24, σ25) h23) rfl shzC_46 clzC_3 gX3_readNumber_X3_fail hyX3_fail ⟨rfl, rfl⟩ ⟨Nat.le_of_ble_eq_true rfl, Nat.le_of_ble_eq_true rfl⟩ rfl rfl (Nat.le_of_ble_eq_true rfl) ?_
      exact ww_zret (pc := 49) X dX3_readNumber_49 (by cases hF; rfl) (by cases hF; rfl)
  · refine ww_aload_n (pc := 15) X (j := 0) dX3_readNumber_15 rfl rfl ?_
    refine ww_iconst (pc := 16) X (v := 1) dX3_readNumber_16 (by decide) ?_
    refine ww_aload_n (pc := 17) X (j := 0) dX3_readNumber_17 rfl rfl ?_
    refine ww_get (pc := 18) X (ref := "PictureBlock$Reader") (T := TX3) (j := 6) dX3_readNumber_18 inX3_readNumber_RX3 shzC_46 clzC_3 (by decide) rfl (List.mem_of_getElem? (i := 1) rfl) rfl ?_
    obtain ⟨r27, σ28, h26, hF⟩ := bd2_some hF
    refine ww_callVi (pc := 21) X (As := [.int 1, .int (σ2.1 46 6)]) (rest := []) dX3_readNumber_21 (kX3_fail (mL M) G hZ X.2.2.2.2.2.2.1 X.2.2.2.2.2.2.2.1 σ2 1 (σ2.1 46 6) (r27, σ28) h26) rfl shzC_46 clzC_3 gX3_readNumber_X3_fail hyX3_fail ⟨rfl, rfl⟩ ⟨Nat.le_of_ble_eq_true rfl, Nat.le_of_ble_eq_true rfl⟩ rfl rfl (Nat.le_of_ble_eq_true rfl) ?_
    exact ww_zret (pc := 24) X dX3_readNumber_24 (by cases hF; rfl) (by cases hF; rfl)
set_option maxRecDepth 100000 in
set_option maxHeartbeats 4000000 in
theorem kX3_readNumber (l : Launch) (G : gG) {ex : gEx} (hZ : ∀ s : State, G.2.2.2 s → kC ex (gA G zC.1) s) (hG : gOK G zC.1) (hT : G.2.2.1.map (fun q => q.2) = zC.2.1) (σ : gS) (p1 : Int32) (p2 : Int32) (out : Int32 × gS) (hF : fX3_readNumber σ p1 p2 = some out) : gCi l yX3_readNumber wsX3_readNumber rmX3_readNumber G zC [.ref (G.2.1 46), .int p1, .int p2] σ out.1 out.2 :=
  gEnter (by decide) rfl ⟨rfl, rfl⟩ hG hT (Nat.le_of_ble_eq_true rfl) rfl (fun M X hl => wX3_readNumber X hZ σ p1 p2 hF)
noncomputable def fX3_readTurn (σ : gS) : Option (Int32 × gS) :=
  bd (fX3_markRun σ 97 122) fun σ2 => (if (σ2.1 46 6) = (σ2.1 46 8) then bd2 (fX3_readNumber σ2 0 3) fun r5 σ6 => some (vp_nar .boolean r5, σ6) else bd (fX3_isWord_K8 σ2) fun r8 => (if r8 = 0 then bd2 (fX3_readNumber σ2 0 3) fun r11 σ12 => some (vp_nar .boolean r11, σ12) else bd (fX3_passRun σ2) fun σ14 => nm (gsI σ14 46 11 4) fun σ15 => some (1, σ15)))
noncomputable abbrev rmX3_readTurn : Room := { frames := 5, cells := 0, slots := 0, locals := 107 }
set_option maxRecDepth 100000 in
set_option maxHeartbeats 4000000 in
theorem wX3_readTurn {M : gM} {G : gG} {out : Int32 × gS} (X : gX M G zC cX3_readTurn RX3 1 wsX3_readTurn rmX3_readTurn (some .boolean)) {ex : gEx} (hZ : ∀ s : State, G.2.2.2 s → kC ex (gA G zC.1) s) (σ : gS) (hF : fX3_readTurn σ = some out) : WW M (gQi M G zC out.1 out.2) G zC 1 σ 0 [(0, .ref (G.2.1 46))] [] := by
  unfold fX3_readTurn at hF
  refine ww_aload_n (pc := 0) X (j := 0) dX3_readTurn_0 rfl rfl ?_
  refine ww_bipush (pc := 1) X (v := 97) dX3_readTurn_1 (by decide) ?_
  refine ww_bipush (pc := 3) X (v := 122) dX3_readTurn_3 (by decide) ?_
  obtain ⟨σ2, h1, hF⟩ := bd_some hF
  refine ww_callVv (pc := 5) X (As := [.int 97, .int 122]) (rest := []) dX3_readTurn_5 (kX3_markRun (mL M) G hZ X.2.2.2.2.2.2.1 X.2.2.2.2.2.2.2.1 σ 97 122 σ2 h1) rfl shzC_46 clzC_3 gX3_readTurn_X3_markRun hyX3_markRun ⟨rfl, rfl⟩ ⟨Nat.le_of_ble_eq_true rfl, Nat.le_of_ble_eq_true rfl⟩ rfl rfl (Nat.le_of_ble_eq_true rfl) ?_
  refine ww_aload_n (pc := 8) X (j := 0) dX3_readTurn_8 rfl rfl ?_
  refine ww_get (pc := 9) X (ref := "PictureBlock$Reader") (T := TX3) (j := 6) dX3_readTurn_9 inX3_readTurn_RX3 shzC_46 clzC_3 (by decide) rfl (List.mem_of_getElem? (i := 1) rfl) rfl ?_
  refine ww_aload_n (pc := 12) X (j := 0) dX3_readTurn_12 rfl rfl ?_
  refine ww_get (pc := 13) X (ref := "PictureBlock$Reader") (T := TX3) (j := 8) dX3_readTurn_13 inX3_readTurn_RX3 shzC_46 clzC_3 (by decide) rfl (List.mem_of_getElem? (i := 2) rfl) rfl ?_
  refine ww_icmp_eq (pc := 16) (tgt := 39) X dX3_readTurn_16 (by decide) hF (fun h3 hF => ?_) (fun h3 hF => ?_)
  · refine ww_aload_n (pc := 39) X (j := 0) dX3_readTurn_39 rfl rfl ?_
    refine ww_iconst (pc := 40) X (v := 0) dX3_readTurn_40 (by decide) ?_
    refine ww_iconst (pc := 41) X (v := 3) dX3_readTurn_41 (by decide) ?_
    obtain ⟨r5, σ6, h4, hF⟩ := bd2_some hF
    refine ww_callVi (pc := 42) X (As := [.int 0, .int 3]) (rest := []) dX3_readTurn_42 (kX3_readNumber (mL M) G hZ X.2.2.2.2.2.2.1 X.2.2.2.2.2.2.2.1 σ2 0 3 (r5, σ6) h4) rfl shzC_46 clzC_3 gX3_readTurn_X3_readNumber hyX3_readNumber ⟨rfl, rfl⟩ ⟨Nat.le_of_ble_eq_true rfl, Nat.le_of_ble_eq_true rfl⟩ rfl rfl (Nat.le_of_ble_eq_true rfl) ?_
    exact ww_zret (pc := 45) X dX3_readTurn_45 (by cases hF; rfl) (by cases hF; rfl)
  · refine ww_aload_n (pc := 19) X (j := 0) dX3_readTurn_19 rfl rfl ?_
    refine ww_ldcS (pc := 20) X (tx := "any") (q := ex.1 8) dX3_readTurn_20 (eC_ref8 (hZ _ (gXk X))) ?_
    obtain ⟨r8, h7, hF⟩ := bd_some hF
    refine ww_callVi (pc := 22) X (As := [.ref (ex.1 8)]) (rest := []) dX3_readTurn_22 (kX3_isWord_K8 (mL M) G hZ X.2.2.2.2.2.2.1 X.2.2.2.2.2.2.2.1 σ2 r8 h7) rfl shzC_46 clzC_3 gX3_readTurn_X3_isWord hyX3_isWord ⟨rfl, rfl⟩ ⟨Nat.le_of_ble_eq_true rfl, Nat.le_of_ble_eq_true rfl⟩ rfl rfl (Nat.le_of_ble_eq_true rfl) ?_
    refine ww_if_eq (pc := 25) (tgt := 39) X dX3_readTurn_25 (by decide) hF (fun h9 hF => ?_) (fun h9 hF => ?_)
    · refine ww_aload_n (pc := 39) X (j := 0) dX3_readTurn_39 rfl rfl ?_
      refine ww_iconst (pc := 40) X (v := 0) dX3_readTurn_40 (by decide) ?_
      refine ww_iconst (pc := 41) X (v := 3) dX3_readTurn_41 (by decide) ?_
      obtain ⟨r11, σ12, h10, hF⟩ := bd2_some hF
      refine ww_callVi (pc := 42) X (As := [.int 0, .int 3]) (rest := []) dX3_readTurn_42 (kX3_readNumber (mL M) G hZ X.2.2.2.2.2.2.1 X.2.2.2.2.2.2.2.1 σ2 0 3 (r11, σ12) h10) rfl shzC_46 clzC_3 gX3_readTurn_X3_readNumber hyX3_readNumber ⟨rfl, rfl⟩ ⟨Nat.le_of_ble_eq_true rfl, Nat.le_of_ble_eq_true rfl⟩ rfl rfl (Nat.le_of_ble_eq_true rfl) ?_
      exact ww_zret (pc := 45) X dX3_readTurn_45 (by cases hF; rfl) (by cases hF; rfl)
    · refine ww_aload_n (pc := 28) X (j := 0) dX3_readTurn_28 rfl rfl ?_
      obtain ⟨σ14, h13, hF⟩ := bd_some hF
      refine ww_callVv (pc := 29) X (As := []) (rest := []) dX3_readTurn_29 (kX3_passRun (mL M) G hZ X.2.2.2.2.2.2.1 X.2.2.2.2.2.2.2.1 σ2 σ14 h13) rfl shzC_46 clzC_3 gX3_readTurn_X3_passRun hyX3_passRun ⟨rfl, rfl⟩ ⟨Nat.le_of_ble_eq_true rfl, Nat.le_of_ble_eq_true rfl⟩ rfl rfl (Nat.le_of_ble_eq_true rfl) ?_
      refine ww_aload_n (pc := 32) X (j := 0) dX3_readTurn_32 rfl rfl ?_
      refine ww_iconst (pc := 33) X (v := 4) dX3_readTurn_33 (by decide) ?_
      refine ww_putI (pc := 34) X (ref := "PictureBlock$Reader") (T := TX3) (j := 11) dX3_readTurn_34 inX3_readTurn_RX3 tyX3 tyX3_ok nmX3 shzC_46 clzC_3 (by decide) rfl (List.mem_of_getElem? (i := 3) rfl) rfl rfl (by decide +kernel) hF (fun σ15 eσ15 hF => ?_)
      refine ww_iconst (pc := 37) X (v := 1) dX3_readTurn_37 (by decide) ?_
      exact ww_zret (pc := 38) X dX3_readTurn_38 (by cases hF; rfl) (by cases hF; rfl)
set_option maxRecDepth 100000 in
set_option maxHeartbeats 4000000 in
theorem kX3_readTurn (l : Launch) (G : gG) {ex : gEx} (hZ : ∀ s : State, G.2.2.2 s → kC ex (gA G zC.1) s) (hG : gOK G zC.1) (hT : G.2.2.1.map (fun q => q.2) = zC.2.1) (σ : gS) (out : Int32 × gS) (hF : fX3_readTurn σ = some out) : gCi l yX3_readTurn wsX3_readTurn rmX3_readTurn G zC [.ref (G.2.1 46)] σ out.1 out.2 :=
  gEnter (by decide) rfl ⟨rfl, rfl⟩ hG hT (Nat.le_of_ble_eq_true rfl) rfl (fun M X hl => wX3_readTurn X hZ σ hF)
noncomputable def fX8_addNamed_24 (σ : gS) (p1 : Int32) (p2 : Int32) : Option (gS) :=
  bd (fX8_isFull_24 σ p1) fun r2 => (if r2 = 0 then gd (gb p1 3) <| gd (gb p1 6) <| nm (σ.1 25 p1.toNatClampNeg) fun v5 => gd (gb v5 20) <| nm (gsI σ (27 + p1.toNatClampNeg) v5.toNatClampNeg p2) fun σ6 => gd (gb p1 6) <| nm (σ6.1 25 p1.toNatClampNeg) fun v7 => gd (gb p1 6) <| nm (gsI σ6 25 p1.toNatClampNeg (v7 + 1)) fun σ8 => some σ8 else some σ)
noncomputable abbrev rmX8_addNamed : Room := { frames := 1, cells := 0, slots := 0, locals := 21 }
set_option maxRecDepth 100000 in
set_option maxHeartbeats 4000000 in
theorem wX8_addNamed_24 {M : gM} {G : gG} {out : gS} (X : gX M G zC cX8_addNamed RX8 3 wsX8_addNamed rmX8_addNamed none) {ex : gEx} (hZ : ∀ s : State, G.2.2.2 s → kC ex (gA G zC.1) s) (σ : gS) (p1 : Int32) (p2 : Int32) (hF : fX8_addNamed_24 σ p1 p2 = some out) : WW M (gQv M G zC out) G zC 3 σ 0 [(0, .ref (G.2.1 24)), (1, .int p1), (2, .int p2)] [] := by
  unfold fX8_addNamed_24 at hF
  refine ww_aload_n (pc := 0) X (j := 0) dX8_addNamed_0 rfl rfl ?_
  refine ww_iload_n (pc := 1) X (j := 1) dX8_addNamed_1 rfl rfl ?_
  obtain ⟨r2, h1, hF⟩ := bd_some hF
  refine ww_callVi (pc := 2) X (As := [.int p1]) (rest := []) dX8_addNamed_2 (kX8_isFull_24 (mL M) G hZ X.2.2.2.2.2.2.1 X.2.2.2.2.2.2.2.1 σ p1 r2 h1) rfl shzC_24 clzC_8 gX8_addNamed_X8_isFull hyX8_isFull ⟨rfl, rfl⟩ ⟨Nat.le_of_ble_eq_true rfl, Nat.le_of_ble_eq_true rfl⟩ rfl rfl (Nat.le_of_ble_eq_true rfl) ?_
  refine ww_if_eq (pc := 5) (tgt := 9) X dX8_addNamed_5 (by decide) hF (fun h3 hF => ?_) (fun h3 hF => ?_)
  · refine ww_aload_n (pc := 9) X (j := 0) dX8_addNamed_9 rfl rfl ?_
    refine ww_get (pc := 10) X (ref := "PictureBlock$Told") (T := TX8) (j := 1) dX8_addNamed_10 inX8_addNamed_RX8 shzC_24 clzC_8 (by decide) rfl (List.mem_of_getElem? (i := 1) rfl) rfl ?_
    refine ww_iload_n (pc := 13) X (j := 1) dX8_addNamed_13 rfl rfl ?_
    refine ww_aald (pc := 14) X dX8_addNamed_14 shzC_26 rfl hF (fun h4 hF => ?_)
    refine ww_aload_n (pc := 15) X (j := 0) dX8_addNamed_15 rfl rfl ?_
    refine ww_get (pc := 16) X (ref := "PictureBlock$Told") (T := TX8) (j := 0) dX8_addNamed_16 inX8_addNamed_RX8 shzC_24 clzC_8 (by decide) rfl (List.mem_of_getElem? (i := 2) rfl) rfl ?_
    refine ww_iload_n (pc := 19) X (j := 1) dX8_addNamed_19 rfl rfl ?_
    refine ww_iald (pc := 20) X dX8_addNamed_20 shzC_25 rfl hF (fun v5 ev5 bv5 hF => ?_)
    refine ww_iload_n (pc := 21) X (j := 2) dX8_addNamed_21 rfl rfl ?_
    refine ww_iast (pc := 22) X dX8_addNamed_22 (rwzC_26 _ (gb_lt h4)) rfl hF (fun σ6 eσ6 bσ6 hF => ?_)
    refine ww_aload_n (pc := 23) X (j := 0) dX8_addNamed_23 rfl rfl ?_
    refine ww_get (pc := 24) X (ref := "PictureBlock$Told") (T := TX8) (j := 0) dX8_addNamed_24 inX8_addNamed_RX8 shzC_24 clzC_8 (by decide) rfl (List.mem_of_getElem? (i := 2) rfl) rfl ?_
    refine ww_iload_n (pc := 27) X (j := 1) dX8_addNamed_27 rfl rfl ?_
    refine ww_dup2_11 (pc := 28) X dX8_addNamed_28 rfl rfl ?_
    refine ww_iald (pc := 29) X dX8_addNamed_29 shzC_25 rfl hF (fun v7 ev7 bv7 hF => ?_)
    refine ww_iconst (pc := 30) X (v := 1) dX8_addNamed_30 (by decide) ?_
    refine ww_iadd (pc := 31) X dX8_addNamed_31 ?_
    refine ww_iast (pc := 32) X dX8_addNamed_32 shzC_25 rfl hF (fun σ8 eσ8 bσ8 hF => ?_)
    exact ww_vret (pc := 33) X dX8_addNamed_33 (by cases hF; rfl)
  · exact ww_vret (pc := 8) X dX8_addNamed_8 (by cases hF; rfl)
set_option maxRecDepth 100000 in
set_option maxHeartbeats 4000000 in
theorem kX8_addNamed_24 (l : Launch) (G : gG) {ex : gEx} (hZ : ∀ s : State, G.2.2.2 s → kC ex (gA G zC.1) s) (hG : gOK G zC.1) (hT : G.2.2.1.map (fun q => q.2) = zC.2.1) (σ : gS) (p1 : Int32) (p2 : Int32) (out : gS) (hF : fX8_addNamed_24 σ p1 p2 = some out) : gCv l yX8_addNamed wsX8_addNamed rmX8_addNamed G zC [.ref (G.2.1 24), .int p1, .int p2] σ out :=
  gEnter (by decide) rfl ⟨rfl, rfl⟩ hG hT (Nat.le_of_ble_eq_true rfl) rfl (fun M X hl => wX8_addNamed_24 X hZ σ p1 p2 hF)
noncomputable def fX8_addPicture_24 (σ : gS) (p1 : Int32) (p2 : Int32) (p3 : Int32) : Option (gS) :=
  bd (fX8_isFull_24 σ 1) fun r2 => (if r2 = 0 then gd (gb 1 6) <| nm (σ.1 25 ((1 : Int32).toNatClampNeg)) fun v4 => gd (gb v4 12) <| nm (gsI σ 30 v4.toNatClampNeg p2) fun σ5 => gd (gb 1 6) <| nm (σ5.1 25 ((1 : Int32).toNatClampNeg)) fun v6 => gd (gb v6 12) <| nm (gsI σ5 31 v6.toNatClampNeg p3) fun σ7 => bd (fX8_addNamed_24 σ7 1 p1) fun σ9 => some σ9 else some σ)
noncomputable abbrev rmX8_addPicture : Room := { frames := 2, cells := 0, slots := 0, locals := 43 }
set_option maxRecDepth 100000 in
set_option maxHeartbeats 4000000 in
theorem wX8_addPicture_24 {M : gM} {G : gG} {out : gS} (X : gX M G zC cX8_addPicture RX8 4 wsX8_addPicture rmX8_addPicture none) {ex : gEx} (hZ : ∀ s : State, G.2.2.2 s → kC ex (gA G zC.1) s) (σ : gS) (p1 : Int32) (p2 : Int32) (p3 : Int32) (hF : fX8_addPicture_24 σ p1 p2 p3 = some out) : WW M (gQv M G zC out) G zC 4 σ 0 [(0, .ref (G.2.1 24)), (1, .int p1), (2, .int p2), (3, .int p3)] [] := by
  unfold fX8_addPicture_24 at hF
  refine ww_aload_n (pc := 0) X (j := 0) dX8_addPicture_0 rfl rfl ?_
  refine ww_iconst (pc := 1) X (v := 1) dX8_addPicture_1 (by decide) ?_
  obtain ⟨r2, h1, hF⟩ := bd_some hF
  refine ww_callVi (pc := 2) X (As := [.int 1]) (rest := []) dX8_addPicture_2 (kX8_isFull_24 (mL M) G hZ X.2.2.2.2.2.2.1 X.2.2.2.2.2.2.2.1 σ 1 r2 h1) rfl shzC_24 clzC_8 gX8_addPicture_X8_isFull hyX8_isFull ⟨rfl, rfl⟩ ⟨Nat.le_of_ble_eq_true rfl, Nat.le_of_ble_eq_true rfl⟩ rfl rfl (Nat.le_of_ble_eq_true rfl) ?_
  refine ww_if_eq (pc := 5) (tgt := 9) X dX8_addPicture_5 (by decide) hF (fun h3 hF => ?_) (fun h3 hF => ?_)
  · refine ww_aload_n (pc := 9) X (j := 0) dX8_addPicture_9 rfl rfl ?_
    refine ww_get (pc := 10) X (ref := "PictureBlock$Told") (T := TX8) (j := 2) dX8_addPicture_10 inX8_addPicture_RX8 shzC_24 clzC_8 (by decide) rfl (List.mem_of_getElem? (i := 1) rfl) rfl ?_
    refine ww_aload_n (pc := 13) X (j := 0) dX8_addPicture_13 rfl rfl ?_
    refine ww_get (pc := 14) X (ref := "PictureBlock$Told") (T := TX8) (j := 0) dX8_addPicture_14 inX8_addPicture_RX8 shzC_24 clzC_8 (by decide) rfl (List.mem_of_getElem? (i := 2) rfl) rfl ?_
    refine ww_iconst (pc := 17) X (v := 1) dX8_addPicture_17 (by decide) ?_
    refine ww_iald (pc := 18) X dX8_addPicture_18 shzC_25 rfl hF (fun v4 ev4 bv4 hF => ?_)
    refine ww_iload_n (pc := 19) X (j := 2) dX8_addPicture_19 rfl rfl ?_
    refine ww_iast (pc := 20) X dX8_addPicture_20 shzC_30 rfl hF (fun σ5 eσ5 bσ5 hF => ?_)
    refine ww_aload_n (pc := 21) X (j := 0) dX8_addPicture_21 rfl rfl ?_
    refine ww_get (pc := 22) X (ref := "PictureBlock$Told") (T := TX8) (j := 3) dX8_addPicture_22 inX8_addPicture_RX8 shzC_24 clzC_8 (by decide) rfl (List.mem_of_getElem? (i := 3) rfl) rfl ?_
    refine ww_aload_n (pc := 25) X (j := 0) dX8_addPicture_25 rfl rfl ?_
    refine ww_get (pc := 26) X (ref := "PictureBlock$Told") (T := TX8) (j := 0) dX8_addPicture_26 inX8_addPicture_RX8 shzC_24 clzC_8 (by decide) rfl (List.mem_of_getElem? (i := 2) rfl) rfl ?_
    refine ww_iconst (pc := 29) X (v := 1) dX8_addPicture_29 (by decide) ?_
    refine ww_iald (pc := 30) X dX8_addPicture_30 shzC_25 rfl hF (fun v6 ev6 bv6 hF => ?_)
    refine ww_iload_n (pc := 31) X (j := 3) dX8_addPicture_31 rfl rfl ?_
    refine ww_iast (pc := 32) X dX8_addPicture_32 shzC_31 rfl hF (fun σ7 eσ7 bσ7 hF => ?_)
    refine ww_aload_n (pc := 33) X (j := 0) dX8_addPicture_33 rfl rfl ?_
    refine ww_iconst (pc := 34) X (v := 1) dX8_addPicture_34 (by decide) ?_
    refine ww_iload_n (pc := 35) X (j := 1) dX8_addPicture_35 rfl rfl ?_
    obtain ⟨σ9, h8, hF⟩ := bd_some hF
    refine ww_callVv (pc := 36) X (As := [.int 1, .int p1]) (rest := []) dX8_addPicture_36 (kX8_addNamed_24 (mL M) G hZ X.2.2.2.2.2.2.1 X.2.2.2.2.2.2.2.1 σ7 1 p1 σ9 h8) rfl shzC_24 clzC_8 gX8_addPicture_X8_addNamed hyX8_addNamed ⟨rfl, rfl⟩ ⟨Nat.le_of_ble_eq_true rfl, Nat.le_of_ble_eq_true rfl⟩ rfl rfl (Nat.le_of_ble_eq_true rfl) ?_
    exact ww_vret (pc := 39) X dX8_addPicture_39 (by cases hF; rfl)
  · exact ww_vret (pc := 8) X dX8_addPicture_8 (by cases hF; rfl)
set_option maxRecDepth 100000 in
set_option maxHeartbeats 4000000 in
theorem kX8_addPicture_24 (l : Launch) (G : gG) {ex : gEx} (hZ : ∀ s : State, G.2.2.2 s → kC ex (gA G zC.1) s) (hG : gOK G zC.1) (hT : G.2.2.1.map (fun q => q.2) = zC.2.1) (σ : gS) (p1 : Int32) (p2 : Int32) (p3 : Int32) (out : gS) (hF : fX8_addPicture_24 σ p1 p2 p3 = some out) : gCv l yX8_addPicture wsX8_addPicture rmX8_addPicture G zC [.ref (G.2.1 24), .int p1, .int p2, .int p3] σ out :=
  gEnter (by decide) rfl ⟨rfl, rfl⟩ hG hT (Nat.le_of_ble_eq_true rfl) rfl (fun M X hl => wX8_addPicture_24 X hZ σ p1 p2 p3 hF)
noncomputable def fX3_readPicture (σ : gS) : Option (Int32 × gS) :=
  bd2 (fX3_readName σ ((-1))) fun r2 σ3 => (if r2 = 0 then some (0, σ3) else nm (σ3.1 46 9 : Int32) fun x5 => bd2 (fX3_readWord_K6 σ3) fun r7 σ8 => (if r7 = 0 then some (0, σ8) else bd2 (fX3_readName σ8 0) fun r11 σ12 => (if r11 = 0 then some (0, σ12) else bd2 (fX3_readWord_K7 σ12) fun r15 σ16 => (if r15 = 0 then some (0, σ16) else bd2 (fX3_readTurn σ16) fun r19 σ20 => (if r19 = 0 then some (0, σ20) else bd (fX8_addPicture_24 σ20 x5 (σ20.1 46 10) (σ20.1 46 11)) fun σ23 => some (1, σ23))))))
noncomputable abbrev rmX3_readPicture : Room := { frames := 7, cells := 0, slots := 0, locals := 149 }
set_option maxRecDepth 100000 in
set_option maxHeartbeats 4000000 in
theorem wX3_readPicture {M : gM} {G : gG} {out : Int32 × gS} (X : gX M G zC cX3_readPicture RX3 2 wsX3_readPicture rmX3_readPicture (some .boolean)) {ex : gEx} (hZ : ∀ s : State, G.2.2.2 s → kC ex (gA G zC.1) s) (σ : gS) (hF : fX3_readPicture σ = some out) : WW M (gQi M G zC out.1 out.2) G zC 2 σ 0 [(0, .ref (G.2.1 46))] [] := by
  unfold fX3_readPicture at hF
  refine ww_aload_n (pc := 0) X (j := 0) dX3_readPicture_0 rfl rfl ?_
  refine ww_iconst (pc := 1) X (v := (-1)) dX3_readPicture_1 (by decide) ?_
  obtain ⟨r2, σ3, h1, hF⟩ := bd2_some hF
  refine ww_callVi (pc := 2) X (As := [.int ((-1))]) (rest := []) dX3_readPicture_2 (kX3_readName (mL M) G hZ X.2.2.2.2.2.2.1 X.2.2.2.2.2.2.2.1 σ ((-1)) (r2, σ3) h1) rfl shzC_46 clzC_3 gX3_readPicture_X3_readName hyX3_readName ⟨rfl, rfl⟩ ⟨Nat.le_of_ble_eq_true rfl, Nat.le_of_ble_eq_true rfl⟩ rfl rfl (Nat.le_of_ble_eq_true rfl) ?_
  refine ww_if_ne (pc := 5) (tgt := 10) X dX3_readPicture_5 (by decide) hF (fun h4 hF => ?_) (fun h4 hF => ?_)
  · refine ww_aload_n (pc := 10) X (j := 0) dX3_readPicture_10 rfl rfl ?_
    refine ww_get (pc := 11) X (ref := "PictureBlock$Reader") (T := TX3) (j := 9) dX3_readPicture_11 inX3_readPicture_RX3 shzC_46 clzC_3 (by decide) rfl (List.mem_of_getElem? (i := 1) rfl) rfl ?_
    refine ww_istore_n (pc := 14) X (lv' := [(0, .ref (G.2.1 46))]) dX3_readPicture_14 rfl (by decide) rfl hF (fun x5 ex5 hF => ?_)
    refine ww_aload_n (pc := 15) X (j := 1) dX3_readPicture_15 rfl rfl ?_
    refine ww_ldcS (pc := 16) X (tx := "in") (q := ex.1 6) dX3_readPicture_16 (eC_ref6 (hZ _ (gXk X))) ?_
    obtain ⟨r7, σ8, h6, hF⟩ := bd2_some hF
    refine ww_callVi (pc := 18) X (As := [.ref (ex.1 6)]) (rest := []) dX3_readPicture_18 (kX3_readWord_K6 (mL M) G hZ X.2.2.2.2.2.2.1 X.2.2.2.2.2.2.2.1 σ3 (r7, σ8) h6) rfl shzC_46 clzC_3 gX3_readPicture_X3_readWord hyX3_readWord ⟨rfl, rfl⟩ ⟨Nat.le_of_ble_eq_true rfl, Nat.le_of_ble_eq_true rfl⟩ rfl rfl (Nat.le_of_ble_eq_true rfl) ?_
    refine ww_if_eq (pc := 21) (tgt := 48) X dX3_readPicture_21 (by decide) hF (fun h9 hF => ?_) (fun h9 hF => ?_)
    · refine ww_iconst (pc := 48) X (v := 0) dX3_readPicture_48 (by decide) ?_
      exact ww_zret (pc := 49) X dX3_readPicture_49 (by cases hF; rfl) (by cases hF; rfl)
    · refine ww_aload_n (pc := 24) X (j := 1) dX3_readPicture_24 rfl rfl ?_
      refine ww_iconst (pc := 25) X (v := 0) dX3_readPicture_25 (by decide) ?_
      obtain ⟨r11, σ12, h10, hF⟩ := bd2_some hF
      refine ww_callVi (pc := 26) X (As := [.int 0]) (rest := []) dX3_readPicture_26 (kX3_readName (mL M) G hZ X.2.2.2.2.2.2.1 X.2.2.2.2.2.2.2.1 σ8 0 (r11, σ12) h10) rfl shzC_46 clzC_3 gX3_readPicture_X3_readName hyX3_readName ⟨rfl, rfl⟩ ⟨Nat.le_of_ble_eq_true rfl, Nat.le_of_ble_eq_true rfl⟩ rfl rfl (Nat.le_of_ble_eq_true rfl) ?_
      refine ww_if_eq (pc := 29) (tgt := 48) X dX3_readPicture_29 (by decide) hF (fun h13 hF => ?_) (fun h13 hF => ?_)
      · refine ww_iconst (pc := 48) X (v := 0) dX3_readPicture_48 (by decide) ?_
        exact ww_zret (pc := 49) X dX3_readPicture_49 (by cases hF; rfl) (by cases hF; rfl)
      · refine ww_aload_n (pc := 32) X (j := 1) dX3_readPicture_32 rfl rfl ?_
        refine ww_ldcS (pc := 33) X (tx := "turn") (q := ex.1 7) dX3_readPicture_33 (eC_ref7 (hZ _ (gXk X))) ?_
        obtain ⟨r15, σ16, h14, hF⟩ := bd2_some hF
        refine ww_callVi (pc := 35) X (As := [.ref (ex.1 7)]) (rest := []) dX3_readPicture_35 (kX3_readWord_K7 (mL M) G hZ X.2.2.2.2.2.2.1 X.2.2.2.2.2.2.2.1 σ12 (r15, σ16) h14) rfl shzC_46 clzC_3 gX3_readPicture_X3_readWord hyX3_readWord ⟨rfl, rfl⟩ ⟨Nat.le_of_ble_eq_true rfl, Nat.le_of_ble_eq_true rfl⟩ rfl rfl (Nat.le_of_ble_eq_true rfl) ?_
        refine ww_if_eq (pc := 38) (tgt := 48) X dX3_readPicture_38 (by decide) hF (fun h17 hF => ?_) (fun h17 hF => ?_)
        · refine ww_iconst (pc := 48) X (v := 0) dX3_readPicture_48 (by decide) ?_
          exact ww_zret (pc := 49) X dX3_readPicture_49 (by cases hF; rfl) (by cases hF; rfl)
        · refine ww_aload_n (pc := 41) X (j := 1) dX3_readPicture_41 rfl rfl ?_
          obtain ⟨r19, σ20, h18, hF⟩ := bd2_some hF
          refine ww_callVi (pc := 42) X (As := []) (rest := []) dX3_readPicture_42 (kX3_readTurn (mL M) G hZ X.2.2.2.2.2.2.1 X.2.2.2.2.2.2.2.1 σ16 (r19, σ20) h18) rfl shzC_46 clzC_3 gX3_readPicture_X3_readTurn hyX3_readTurn ⟨rfl, rfl⟩ ⟨Nat.le_of_ble_eq_true rfl, Nat.le_of_ble_eq_true rfl⟩ rfl rfl (Nat.le_of_ble_eq_true rfl) ?_
          refine ww_if_ne (pc := 45) (tgt := 50) X dX3_readPicture_45 (by decide) hF (fun h21 hF => ?_) (fun h21 hF => ?_)
          · refine ww_aload_n (pc := 50) X (j := 1) dX3_readPicture_50 rfl rfl ?_
            refine ww_get (pc := 51) X (ref := "PictureBlock$Reader") (T := TX3) (j := 1) dX3_readPicture_51 inX3_readPicture_RX3 shzC_46 clzC_3 (by decide) rfl (List.mem_of_getElem? (i := 2) rfl) rfl ?_
            refine ww_iload_n (pc := 54) X (j := 0) dX3_readPicture_54 rfl rfl ?_
            refine ww_aload_n (pc := 55) X (j := 1) dX3_readPicture_55 rfl rfl ?_
            refine ww_get (pc := 56) X (ref := "PictureBlock$Reader") (T := TX3) (j := 10) dX3_readPicture_56 inX3_readPicture_RX3 shzC_46 clzC_3 (by decide) rfl (List.mem_of_getElem? (i := 3) rfl) rfl ?_
            refine ww_aload_n (pc := 59) X (j := 1) dX3_readPicture_59 rfl rfl ?_
            refine ww_get (pc := 60) X (ref := "PictureBlock$Reader") (T := TX3) (j := 11) dX3_readPicture_60 inX3_readPicture_RX3 shzC_46 clzC_3 (by decide) rfl (List.mem_of_getElem? (i := 4) rfl) rfl ?_
            obtain ⟨σ23, h22, hF⟩ := bd_some hF
            refine ww_callVv (pc := 63) X (As := [.int x5, .int (σ20.1 46 10), .int (σ20.1 46 11)]) (rest := []) dX3_readPicture_63 (kX8_addPicture_24 (mL M) G hZ X.2.2.2.2.2.2.1 X.2.2.2.2.2.2.2.1 σ20 x5 (σ20.1 46 10) (σ20.1 46 11) σ23 h22) rfl shzC_24 clzC_8 gX3_readPicture_X8_addPicture hyX8_addPicture ⟨rfl, rfl⟩ ⟨Nat.le_of_ble_eq_true rfl, Nat.le_of_ble_eq_true rfl⟩ rfl rfl (Nat.le_of_ble_eq_true rfl) ?_
            refine ww_iconst (pc := 66) X (v := 1) dX3_readPicture_66 (by decide) ?_
            exact ww_zret (pc := 67) X dX3_readPicture_67 (by cases hF; rfl) (by cases hF; rfl)
          · refine ww_iconst (pc := 48) X (v := 0) dX3_readPicture_48 (by decide) ?_
            exact ww_zret (pc := 49) X dX3_readPicture_49 (by cases hF; rfl) (by cases hF; rfl)
  · refine ww_iconst (pc := 8) X (v := 0) dX3_readPicture_8 (by decide) ?_
    exact ww_zret (pc := 9) X dX3_readPicture_9 (by cases hF; rfl) (by cases hF; rfl)
set_option maxRecDepth 100000 in
set_option maxHeartbeats 4000000 in
theorem kX3_readPicture (l : Launch) (G : gG) {ex : gEx} (hZ : ∀ s : State, G.2.2.2 s → kC ex (gA G zC.1) s) (hG : gOK G zC.1) (hT : G.2.2.1.map (fun q => q.2) = zC.2.1) (σ : gS) (out : Int32 × gS) (hF : fX3_readPicture σ = some out) : gCi l yX3_readPicture wsX3_readPicture rmX3_readPicture G zC [.ref (G.2.1 46)] σ out.1 out.2 :=
  gEnter (by decide) rfl ⟨rfl, rfl⟩ hG hT (Nat.le_of_ble_eq_true rfl) rfl (fun M X hl => wX3_readPicture X hZ σ hF)
noncomputable def fX3_readSemicolon (σ : gS) : Option (Int32 × gS) :=
  bd (fX3_skipBlanks σ) fun σ2 => (if (σ2.1 46 4) ≤ (σ2.1 46 5) then bd2 (fX3_fail σ2 1 (σ2.1 46 5)) fun r5 σ6 => some (vp_nar .boolean r5, σ6) else gd (gb (σ2.1 46 5) 1600) <| nm (σ2.1 1 (σ2.1 46 5).toNatClampNeg) fun v7 => (if v7 = 59 then nm (gsI σ2 46 5 ((σ2.1 46 5) + 1)) fun σ9 => some (1, σ9) else bd2 (fX3_fail σ2 1 (σ2.1 46 5)) fun r11 σ12 => some (vp_nar .boolean r11, σ12)))
noncomputable abbrev rmX3_readSemicolon : Room := { frames := 1, cells := 0, slots := 0, locals := 22 }
set_option maxRecDepth 100000 in
set_option maxHeartbeats 4000000 in
theorem wX3_readSemicolon {M : gM} {G : gG} {out : Int32 × gS} (X : gX M G zC cX3_readSemicolon RX3 1 wsX3_readSemicolon rmX3_readSemicolon (some .boolean)) {ex : gEx} (hZ : ∀ s : State, G.2.2.2 s → kC ex (gA G zC.1) s) (σ : gS) (hF : fX3_readSemicolon σ = some out) : WW M (gQi M G zC out.1 out.2) G zC 1 σ 0 [(0, .ref (G.2.1 46))] [] := by
  unfold fX3_readSemicolon at hF
  refine ww_aload_n (pc := 0) X (j := 0) dX3_readSemicolon_0 rfl rfl ?_
  obtain ⟨σ2, h1, hF⟩ := bd_some hF
  refine ww_callVv (pc := 1) X (As := []) (rest := []) dX3_readSemicolon_1 (kX3_skipBlanks (mL M) G hZ X.2.2.2.2.2.2.1 X.2.2.2.2.2.2.2.1 σ σ2 h1) rfl shzC_46 clzC_3 gX3_readSemicolon_X3_skipBlanks hyX3_skipBlanks ⟨rfl, rfl⟩ ⟨Nat.le_of_ble_eq_true rfl, Nat.le_of_ble_eq_true rfl⟩ rfl rfl (Nat.le_of_ble_eq_true rfl) ?_
  refine ww_aload_n (pc := 4) X (j := 0) dX3_readSemicolon_4 rfl rfl ?_
  refine ww_get (pc := 5) X (ref := "PictureBlock$Reader") (T := TX3) (j := 5) dX3_readSemicolon_5 inX3_readSemicolon_RX3 shzC_46 clzC_3 (by decide) rfl (List.mem_of_getElem? (i := 1) rfl) rfl ?_
  refine ww_aload_n (pc := 8) X (j := 0) dX3_readSemicolon_8 rfl rfl ?_
  refine ww_get (pc := 9) X (ref := "PictureBlock$Reader") (T := TX3) (j := 4) dX3_readSemicolon_9 inX3_readSemicolon_RX3 shzC_46 clzC_3 (by decide) rfl (List.mem_of_getElem? (i := 2) rfl) rfl ?_
  refine ww_icmp_ge (pc := 12) (tgt := 29) X dX3_readSemicolon_12 (by decide) hF (fun h3 hF => ?_) (fun h3 hF => ?_)
  · refine ww_aload_n (pc := 29) X (j := 0) dX3_readSemicolon_29 rfl rfl ?_
    refine ww_iconst (pc := 30) X (v := 1) dX3_readSemicolon_30 (by decide) ?_
    refine ww_aload_n (pc := 31) X (j := 0) dX3_readSemicolon_31 rfl rfl ?_
    refine ww_get (pc := 32) X (ref := "PictureBlock$Reader") (T := TX3) (j := 5) dX3_readSemicolon_32 inX3_readSemicolon_RX3 shzC_46 clzC_3 (by decide) rfl (List.mem_of_getElem? (i := 1) rfl) rfl ?_
    obtain ⟨r5, σ6, h4, hF⟩ := bd2_some hF
    refine ww_callVi (pc := 35) X (As := [.int 1, .int (σ2.1 46 5)]) (rest := []) dX3_readSemicolon_35 (kX3_fail (mL M) G hZ X.2.2.2.2.2.2.1 X.2.2.2.2.2.2.2.1 σ2 1 (σ2.1 46 5) (r5, σ6) h4) rfl shzC_46 clzC_3 gX3_readSemicolon_X3_fail hyX3_fail ⟨rfl, rfl⟩ ⟨Nat.le_of_ble_eq_true rfl, Nat.le_of_ble_eq_true rfl⟩ rfl rfl (Nat.le_of_ble_eq_true rfl) ?_
    exact ww_zret (pc := 38) X dX3_readSemicolon_38 (by cases hF; rfl) (by cases hF; rfl)
  · refine ww_aload_n (pc := 15) X (j := 0) dX3_readSemicolon_15 rfl rfl ?_
    refine ww_get (pc := 16) X (ref := "PictureBlock$Reader") (T := TX3) (j := 0) dX3_readSemicolon_16 inX3_readSemicolon_RX3 shzC_46 clzC_3 (by decide) rfl (List.mem_of_getElem? (i := 3) rfl) rfl ?_
    refine ww_aload_n (pc := 19) X (j := 0) dX3_readSemicolon_19 rfl rfl ?_
    refine ww_get (pc := 20) X (ref := "PictureBlock$Reader") (T := TX3) (j := 5) dX3_readSemicolon_20 inX3_readSemicolon_RX3 shzC_46 clzC_3 (by decide) rfl (List.mem_of_getElem? (i := 1) rfl) rfl ?_
    refine ww_iald (pc := 23) X dX3_readSemicolon_23 shzC_1 rfl hF (fun v7 ev7 bv7 hF => ?_)
    refine ww_bipush (pc := 24) X (v := 59) dX3_readSemicolon_24 (by decide) ?_
    refine ww_icmp_eq (pc := 26) (tgt := 39) X dX3_readSemicolon_26 (by decide) hF (fun h8 hF => ?_) (fun h8 hF => ?_)
    · refine ww_aload_n (pc := 39) X (j := 0) dX3_readSemicolon_39 rfl rfl ?_
      refine ww_dup (pc := 40) X dX3_readSemicolon_40 rfl ?_
      refine ww_get (pc := 41) X (ref := "PictureBlock$Reader") (T := TX3) (j := 5) dX3_readSemicolon_41 inX3_readSemicolon_RX3 shzC_46 clzC_3 (by decide) rfl (List.mem_of_getElem? (i := 1) rfl) rfl ?_
      refine ww_iconst (pc := 44) X (v := 1) dX3_readSemicolon_44 (by decide) ?_
      refine ww_iadd (pc := 45) X dX3_readSemicolon_45 ?_
      refine ww_putI (pc := 46) X (ref := "PictureBlock$Reader") (T := TX3) (j := 5) dX3_readSemicolon_46 inX3_readSemicolon_RX3 tyX3 tyX3_ok nmX3 shzC_46 clzC_3 (by decide) rfl (List.mem_of_getElem? (i := 1) rfl) rfl rfl (by decide +kernel) hF (fun σ9 eσ9 hF => ?_)
      refine ww_iconst (pc := 49) X (v := 1) dX3_readSemicolon_49 (by decide) ?_
      exact ww_zret (pc := 50) X dX3_readSemicolon_50 (by cases hF; rfl) (by cases hF; rfl)
    · refine ww_aload_n (pc := 29) X (j := 0) dX3_readSemicolon_29 rfl rfl ?_
      refine ww_iconst (pc := 30) X (v := 1) dX3_readSemicolon_30 (by decide) ?_
      refine ww_aload_n (pc := 31) X (j := 0) dX3_readSemicolon_31 rfl rfl ?_
      refine ww_get (pc := 32) X (ref := "PictureBlock$Reader") (T := TX3) (j := 5) dX3_readSemicolon_32 inX3_readSemicolon_RX3 shzC_46 clzC_3 (by decide) rfl (List.mem_of_getElem? (i := 1) rfl) rfl ?_
      obtain ⟨r11, σ12, h10, hF⟩ := bd2_some hF
      refine ww_callVi (pc := 35) X (As := [.int 1, .int (σ2.1 46 5)]) (rest := []) dX3_readSemicolon_35 (kX3_fail (mL M) G hZ X.2.2.2.2.2.2.1 X.2.2.2.2.2.2.2.1 σ2 1 (σ2.1 46 5) (r11, σ12) h10) rfl shzC_46 clzC_3 gX3_readSemicolon_X3_fail hyX3_fail ⟨rfl, rfl⟩ ⟨Nat.le_of_ble_eq_true rfl, Nat.le_of_ble_eq_true rfl⟩ rfl rfl (Nat.le_of_ble_eq_true rfl) ?_
      exact ww_zret (pc := 38) X dX3_readSemicolon_38 (by cases hF; rfl) (by cases hF; rfl)
set_option maxRecDepth 100000 in
set_option maxHeartbeats 4000000 in
theorem kX3_readSemicolon (l : Launch) (G : gG) {ex : gEx} (hZ : ∀ s : State, G.2.2.2 s → kC ex (gA G zC.1) s) (hG : gOK G zC.1) (hT : G.2.2.1.map (fun q => q.2) = zC.2.1) (σ : gS) (out : Int32 × gS) (hF : fX3_readSemicolon σ = some out) : gCi l yX3_readSemicolon wsX3_readSemicolon rmX3_readSemicolon G zC [.ref (G.2.1 46)] σ out.1 out.2 :=
  gEnter (by decide) rfl ⟨rfl, rfl⟩ hG hT (Nat.le_of_ble_eq_true rfl) rfl (fun M X hl => wX3_readSemicolon X hZ σ hF)
noncomputable def fX3_readNamed (σ : gS) (p1 : Int32) : Option (Int32 × gS) :=
  bd2 (fX3_readName σ ((-1))) fun r2 σ3 => (if r2 = 0 then some (0, σ3) else bd (fX8_addNamed_24 σ3 p1 (σ3.1 46 9)) fun σ6 => some (1, σ6))
noncomputable abbrev rmX3_readNamed : Room := { frames := 7, cells := 0, slots := 0, locals := 149 }
set_option maxRecDepth 100000 in
set_option maxHeartbeats 4000000 in
theorem wX3_readNamed {M : gM} {G : gG} {out : Int32 × gS} (X : gX M G zC cX3_readNamed RX3 2 wsX3_readNamed rmX3_readNamed (some .boolean)) {ex : gEx} (hZ : ∀ s : State, G.2.2.2 s → kC ex (gA G zC.1) s) (σ : gS) (p1 : Int32) (hF : fX3_readNamed σ p1 = some out) : WW M (gQi M G zC out.1 out.2) G zC 2 σ 0 [(0, .ref (G.2.1 46)), (1, .int p1)] [] := by
  unfold fX3_readNamed at hF
  refine ww_aload_n (pc := 0) X (j := 0) dX3_readNamed_0 rfl rfl ?_
  refine ww_iconst (pc := 1) X (v := (-1)) dX3_readNamed_1 (by decide) ?_
  obtain ⟨r2, σ3, h1, hF⟩ := bd2_some hF
  refine ww_callVi (pc := 2) X (As := [.int ((-1))]) (rest := []) dX3_readNamed_2 (kX3_readName (mL M) G hZ X.2.2.2.2.2.2.1 X.2.2.2.2.2.2.2.1 σ ((-1)) (r2, σ3) h1) rfl shzC_46 clzC_3 gX3_readNamed_X3_readName hyX3_readName ⟨rfl, rfl⟩ ⟨Nat.le_of_ble_eq_true rfl, Nat.le_of_ble_eq_true rfl⟩ rfl rfl (Nat.le_of_ble_eq_true rfl) ?_
  refine ww_if_ne (pc := 5) (tgt := 10) X dX3_readNamed_5 (by decide) hF (fun h4 hF => ?_) (fun h4 hF => ?_)
  · refine ww_aload_n (pc := 10) X (j := 0) dX3_readNamed_10 rfl rfl ?_
    refine ww_get (pc := 11) X (ref := "PictureBlock$Reader") (T := TX3) (j := 1) dX3_readNamed_11 inX3_readNamed_RX3 shzC_46 clzC_3 (by decide) rfl (List.mem_of_getElem? (i := 1) rfl) rfl ?_
    refine ww_iload_n (pc := 14) X (j := 1) dX3_readNamed_14 rfl rfl ?_
    refine ww_aload_n (pc := 15) X (j := 0) dX3_readNamed_15 rfl rfl ?_
    refine ww_get (pc := 16) X (ref := "PictureBlock$Reader") (T := TX3) (j := 9) dX3_readNamed_16 inX3_readNamed_RX3 shzC_46 clzC_3 (by decide) rfl (List.mem_of_getElem? (i := 2) rfl) rfl ?_
    obtain ⟨σ6, h5, hF⟩ := bd_some hF
    refine ww_callVv (pc := 19) X (As := [.int p1, .int (σ3.1 46 9)]) (rest := []) dX3_readNamed_19 (kX8_addNamed_24 (mL M) G hZ X.2.2.2.2.2.2.1 X.2.2.2.2.2.2.2.1 σ3 p1 (σ3.1 46 9) σ6 h5) rfl shzC_24 clzC_8 gX3_readNamed_X8_addNamed hyX8_addNamed ⟨rfl, rfl⟩ ⟨Nat.le_of_ble_eq_true rfl, Nat.le_of_ble_eq_true rfl⟩ rfl rfl (Nat.le_of_ble_eq_true rfl) ?_
    refine ww_iconst (pc := 22) X (v := 1) dX3_readNamed_22 (by decide) ?_
    exact ww_zret (pc := 23) X dX3_readNamed_23 (by cases hF; rfl) (by cases hF; rfl)
  · refine ww_iconst (pc := 8) X (v := 0) dX3_readNamed_8 (by decide) ?_
    exact ww_zret (pc := 9) X dX3_readNamed_9 (by cases hF; rfl) (by cases hF; rfl)
set_option maxRecDepth 100000 in
set_option maxHeartbeats 4000000 in
theorem kX3_readNamed (l : Launch) (G : gG) {ex : gEx} (hZ : ∀ s : State, G.2.2.2 s → kC ex (gA G zC.1) s) (hG : gOK G zC.1) (hT : G.2.2.1.map (fun q => q.2) = zC.2.1) (σ : gS) (p1 : Int32) (out : Int32 × gS) (hF : fX3_readNamed σ p1 = some out) : gCi l yX3_readNamed wsX3_readNamed rmX3_readNamed G zC [.ref (G.2.1 46), .int p1] σ out.1 out.2 :=
  gEnter (by decide) rfl ⟨rfl, rfl⟩ hG hT (Nat.le_of_ble_eq_true rfl) rfl (fun M X hl => wX3_readNamed X hZ σ p1 hF)
noncomputable def bX8_findRow_24_2 (σ : gS) (c2_1 : Int32) (c2_2 : Int32) (rec2 : Int32 → Option (Int32)) (a3 : Int32) : Option (Int32) :=
  gd (gb 3 6) <| nm (σ.1 25 ((3 : Int32).toNatClampNeg)) fun v2 => (if v2 ≤ a3 then some ((-1)) else gd (gb a3 60) <| nm (σ.1 32 a3.toNatClampNeg) fun v4 => (if v4 = c2_1 then gd (gb a3 60) <| nm (σ.1 33 a3.toNatClampNeg) fun v7 => (if v7 = c2_2 then some a3 else nm (a3 + 1 : Int32) fun x9 => rec2 x9) else nm (a3 + 1 : Int32) fun x6 => rec2 x6))
noncomputable def fX8_findRow_24 (σ : gS) (p1 : Int32) (p2 : Int32) : Option (Int32) :=
  nm (0 : Int32) fun x1 => lpc (S := Int32) K9 (fun rec s => bX8_findRow_24_2 σ p1 p2 (fun a3 => rec (a3)) s) (x1)
noncomputable abbrev rmX8_findRow : Room := { frames := 0, cells := 0, slots := 0, locals := 0 }
set_option maxRecDepth 100000 in
set_option maxHeartbeats 4000000 in
theorem wbX8_findRow_24_2 {M : gM} {G : gG} {out : Int32} (X : gX M G zC cX8_findRow RX8 4 wsX8_findRow rmX8_findRow (some .int)) {ex : gEx} (hZ : ∀ s : State, G.2.2.2 s → kC ex (gA G zC.1) s) (σ : gS) (c2_1 : Int32) (c2_2 : Int32) (rec2 : Int32 → Option (Int32)) (ih2 : ∀ (a3 : Int32), rec2 a3 = some out → WW M (gQi M G zC out σ) G zC 4 σ 2 [(0, .ref (G.2.1 24)), (1, .int c2_1), (2, .int c2_2), (3, .int a3)] []) (a3 : Int32) (hF : bX8_findRow_24_2 σ c2_1 c2_2 rec2 a3 = some out) : WW M (gQi M G zC out σ) G zC 4 σ 2 [(0, .ref (G.2.1 24)), (1, .int c2_1), (2, .int c2_2), (3, .int a3)] [] := by
  unfold bX8_findRow_24_2 at hF
  refine ww_iload_n (pc := 2) X (j := 3) dX8_findRow_2 rfl rfl ?_
  refine ww_aload_n (pc := 3) X (j := 0) dX8_findRow_3 rfl rfl ?_
  refine ww_get (pc := 4) X (ref := "PictureBlock$Told") (T := TX8) (j := 0) dX8_findRow_4 inX8_findRow_RX8 shzC_24 clzC_8 (by decide) rfl (List.mem_of_getElem? (i := 1) rfl) rfl ?_
  refine ww_iconst (pc := 7) X (v := 3) dX8_findRow_7 (by decide) ?_
  refine ww_iald (pc := 8) X dX8_findRow_8 shzC_25 rfl hF (fun v2 ev2 bv2 hF => ?_)
  refine ww_icmp_ge (pc := 9) (tgt := 40) X dX8_findRow_9 (by decide) hF (fun h3 hF => ?_) (fun h3 hF => ?_)
  · refine ww_iconst (pc := 40) X (v := (-1)) dX8_findRow_40 (by decide) ?_
    exact ww_iret (pc := 41) X dX8_findRow_41 (Option.some.inj hF) rfl
  · refine ww_aload_n (pc := 12) X (j := 0) dX8_findRow_12 rfl rfl ?_
    refine ww_get (pc := 13) X (ref := "PictureBlock$Told") (T := TX8) (j := 4) dX8_findRow_13 inX8_findRow_RX8 shzC_24 clzC_8 (by decide) rfl (List.mem_of_getElem? (i := 2) rfl) rfl ?_
    refine ww_iload_n (pc := 16) X (j := 3) dX8_findRow_16 rfl rfl ?_
    refine ww_iald (pc := 17) X dX8_findRow_17 shzC_32 rfl hF (fun v4 ev4 bv4 hF => ?_)
    refine ww_iload_n (pc := 18) X (j := 1) dX8_findRow_18 rfl rfl ?_
    refine ww_icmp_ne (pc := 19) (tgt := 34) X dX8_findRow_19 (by decide) hF (fun h5 hF => ?_) (fun h5 hF => ?_)
    · refine ww_iinc (pc := 34) X (j := 3) (v := 1) (lv' := [(0, .ref (G.2.1 24)), (1, .int c2_1), (2, .int c2_2)]) dX8_findRow_34 rfl rfl (by decide) rfl hF (fun x6 ex6 hF => ?_)
      refine ww_goto (pc := 37) X (tgt := 2) dX8_findRow_37 (by decide) ?_
      exact ww_sub [1, 2, 3, 0] rfl (ih2 x6 hF)
    · refine ww_aload_n (pc := 22) X (j := 0) dX8_findRow_22 rfl rfl ?_
      refine ww_get (pc := 23) X (ref := "PictureBlock$Told") (T := TX8) (j := 5) dX8_findRow_23 inX8_findRow_RX8 shzC_24 clzC_8 (by decide) rfl (List.mem_of_getElem? (i := 3) rfl) rfl ?_
      refine ww_iload_n (pc := 26) X (j := 3) dX8_findRow_26 rfl rfl ?_
      refine ww_iald (pc := 27) X dX8_findRow_27 shzC_33 rfl hF (fun v7 ev7 bv7 hF => ?_)
      refine ww_iload_n (pc := 28) X (j := 2) dX8_findRow_28 rfl rfl ?_
      refine ww_icmp_ne (pc := 29) (tgt := 34) X dX8_findRow_29 (by decide) hF (fun h8 hF => ?_) (fun h8 hF => ?_)
      · refine ww_iinc (pc := 34) X (j := 3) (v := 1) (lv' := [(0, .ref (G.2.1 24)), (1, .int c2_1), (2, .int c2_2)]) dX8_findRow_34 rfl rfl (by decide) rfl hF (fun x9 ex9 hF => ?_)
        refine ww_goto (pc := 37) X (tgt := 2) dX8_findRow_37 (by decide) ?_
        exact ww_sub [1, 2, 3, 0] rfl (ih2 x9 hF)
      · refine ww_iload_n (pc := 32) X (j := 3) dX8_findRow_32 rfl rfl ?_
        exact ww_iret (pc := 33) X dX8_findRow_33 (Option.some.inj hF) rfl
set_option maxRecDepth 100000 in
set_option maxHeartbeats 4000000 in
theorem wX8_findRow_24 {M : gM} {G : gG} {out : Int32} (X : gX M G zC cX8_findRow RX8 4 wsX8_findRow rmX8_findRow (some .int)) {ex : gEx} (hZ : ∀ s : State, G.2.2.2 s → kC ex (gA G zC.1) s) (σ : gS) (p1 : Int32) (p2 : Int32) (hF : fX8_findRow_24 σ p1 p2 = some out) : WW M (gQi M G zC out σ) G zC 4 σ 0 [(0, .ref (G.2.1 24)), (1, .int p1), (2, .int p2)] [] := by
  unfold fX8_findRow_24 at hF
  refine ww_iconst (pc := 0) X (v := 0) dX8_findRow_0 (by decide) ?_
  refine ww_istore_n (pc := 1) X (lv' := [(0, .ref (G.2.1 24)), (1, .int p1), (2, .int p2)]) dX8_findRow_1 rfl (by decide) rfl hF (fun x1 ex1 hF => ?_)
  exact ww_sub [1, 2, 3, 0] rfl (lpc_ind (P := (fun (s : Int32) => WW M (gQi M G zC out σ) G zC 4 σ 2 [(0, .ref (G.2.1 24)), (1, .int p1), (2, .int p2), (3, .int s)] [])) (fun rec s ih hF => wbX8_findRow_24_2 X hZ σ p1 p2 (fun a3 => rec (a3)) (fun a3 h => ih (a3) h) s hF) K9 (x1) hF)
set_option maxRecDepth 100000 in
set_option maxHeartbeats 4000000 in
theorem kX8_findRow_24 (l : Launch) (G : gG) {ex : gEx} (hZ : ∀ s : State, G.2.2.2 s → kC ex (gA G zC.1) s) (hG : gOK G zC.1) (hT : G.2.2.1.map (fun q => q.2) = zC.2.1) (σ : gS) (p1 : Int32) (p2 : Int32) (out : Int32) (hF : fX8_findRow_24 σ p1 p2 = some out) : gCi l yX8_findRow wsX8_findRow rmX8_findRow G zC [.ref (G.2.1 24), .int p1, .int p2] σ out σ :=
  gEnter (by decide) rfl ⟨rfl, rfl⟩ hG hT (Nat.le_of_ble_eq_true rfl) rfl (fun M X hl => wX8_findRow_24 X hZ σ p1 p2 hF)
