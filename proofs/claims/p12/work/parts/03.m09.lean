noncomputable def bX10_worstNow_4 (σ : gS) (rec4 : Int32 → Int32 → gS → Option (Int32 × gS)) (a1 : Int32) (a2 : Int32) (σ1 : gS) : Option (Int32 × gS) :=
  bd (fX10_rows σ1) fun r4 => (if r4 ≤ a2 then some (a1, σ1) else bd2 (fX10_canShow σ1 a2) fun r7 σ8 => (if r7 = 0 then nm (a2 + 1 : Int32) fun x10 => rec4 a1 x10 σ8 else if a1 = ((-1)) then nm (a2 : Int32) fun x12 => nm (a2 + 1 : Int32) fun x13 => rec4 x12 x13 σ8 else bd (fX10_doubtOf σ8 a2) fun r15 => bd (fX10_doubtOf σ8 a1) fun r17 => (if r15 ≤ r17 then nm (a2 + 1 : Int32) fun x19 => rec4 a1 x19 σ8 else nm (a2 : Int32) fun x20 => nm (a2 + 1 : Int32) fun x21 => rec4 x20 x21 σ8)))
noncomputable def fX10_worstNow (σ : gS) : Option (Int32 × gS) :=
  nm ((-1) : Int32) fun x1 => nm (0 : Int32) fun x2 => lpc (S := Int32 × Int32 × gS) K9 (fun rec s => bX10_worstNow_4 σ (fun a1 a2 σ1 => rec (a1, a2, σ1)) s.1 s.2.1 s.2.2) (x1, x2, σ)
noncomputable abbrev rmX10_worstNow : Room := { frames := 5, cells := 0, slots := 0, locals := 117 }
set_option maxRecDepth 100000 in
set_option maxHeartbeats 4000000 in
theorem wbX10_worstNow_4 {M : gM} {G : gG} {out : Int32 × gS} (X : gX M G zM cX10_worstNow RX10 3 wsX10_worstNow rmX10_worstNow (some .int)) (σ : gS) (rec4 : Int32 → Int32 → gS → Option (Int32 × gS)) (ih4 : ∀ (a1 : Int32) (a2 : Int32) (σ1 : gS), rec4 a1 a2 σ1 = some out → WW M (gQi M G zM out.1 out.2) G zM 3 σ1 4 [(0, .ref (G.2.1 0)), (1, .int a1), (2, .int a2)] []) (a1 : Int32) (a2 : Int32) (σ1 : gS) (hF : bX10_worstNow_4 σ rec4 a1 a2 σ1 = some out) : WW M (gQi M G zM out.1 out.2) G zM 3 σ1 4 [(0, .ref (G.2.1 0)), (1, .int a1), (2, .int a2)] [] := by
  unfold bX10_worstNow_4 at hF
  refine ww_iload_n (pc := 4) X (j := 2) dX10_worstNow_4 rfl rfl ?_
  refine ww_aload_n (pc := 5) X (j := 0) dX10_worstNow_5 rfl rfl ?_
  obtain ⟨r4, h3, hF⟩ := bd_some hF
  refine ww_callVi (pc := 6) X (As := []) (rest := [.int a2]) dX10_worstNow_6 (kX10_rows (mL M) G X.2.2.2.2.2.2.1 X.2.2.2.2.2.2.2.1 σ1 r4 h3) rfl shzM_0 clzM_10 gX10_worstNow_X10_rows hyX10_rows ⟨rfl, rfl⟩ ⟨Nat.le_of_ble_eq_true rfl, Nat.le_of_ble_eq_true rfl⟩ rfl rfl (Nat.le_of_ble_eq_true rfl) ?_
  refine ww_icmp_ge (pc := 9) (tgt := 47) X dX10_worstNow_9 (by decide) hF (fun h5 hF => ?_) (fun h5 hF => ?_)
  · refine ww_iload_n (pc := 47) X (j := 1) dX10_worstNow_47 rfl rfl ?_
    exact ww_iret (pc := 48) X dX10_worstNow_48 (fst_of hF) (snd_of hF)
  · refine ww_aload_n (pc := 12) X (j := 0) dX10_worstNow_12 rfl rfl ?_
    refine ww_iload_n (pc := 13) X (j := 2) dX10_worstNow_13 rfl rfl ?_
    obtain ⟨r7, σ8, h6, hF⟩ := bd2_some hF
    refine ww_callVi (pc := 14) X (As := [.int a2]) (rest := []) dX10_worstNow_14 (kX10_canShow (mL M) G X.2.2.2.2.2.2.1 X.2.2.2.2.2.2.2.1 σ1 a2 (r7, σ8) h6) rfl shzM_0 clzM_10 gX10_worstNow_X10_canShow hyX10_canShow ⟨rfl, rfl⟩ ⟨Nat.le_of_ble_eq_true rfl, Nat.le_of_ble_eq_true rfl⟩ rfl rfl (Nat.le_of_ble_eq_true rfl) ?_
    refine ww_if_eq (pc := 17) (tgt := 41) X dX10_worstNow_17 (by decide) hF (fun h9 hF => ?_) (fun h9 hF => ?_)
    · refine ww_iinc (pc := 41) X (j := 2) (v := 1) (lv' := [(0, .ref (G.2.1 0)), (1, .int a1)]) dX10_worstNow_41 rfl rfl (by decide) rfl hF (fun x10 ex10 hF => ?_)
      refine ww_goto (pc := 44) X (tgt := 4) dX10_worstNow_44 (by decide) ?_
      exact ww_sub [1, 2, 0] rfl (ih4 a1 x10 σ8 hF)
    · refine ww_iload_n (pc := 20) X (j := 1) dX10_worstNow_20 rfl rfl ?_
      refine ww_iconst (pc := 21) X (v := (-1)) dX10_worstNow_21 (by decide) ?_
      refine ww_icmp_eq (pc := 22) (tgt := 39) X dX10_worstNow_22 (by decide) hF (fun h11 hF => ?_) (fun h11 hF => ?_)
      · refine ww_iload_n (pc := 39) X (j := 2) dX10_worstNow_39 rfl rfl ?_
        refine ww_istore_n (pc := 40) X (lv' := [(0, .ref (G.2.1 0)), (2, .int a2)]) dX10_worstNow_40 rfl (by decide) rfl hF (fun x12 ex12 hF => ?_)
        refine ww_iinc (pc := 41) X (j := 2) (v := 1) (lv' := [(1, .int x12), (0, .ref (G.2.1 0))]) dX10_worstNow_41 rfl rfl (by decide) rfl hF (fun x13 ex13 hF => ?_)
        refine ww_goto (pc := 44) X (tgt := 4) dX10_worstNow_44 (by decide) ?_
        exact ww_sub [2, 1, 0] rfl (ih4 x12 x13 σ8 hF)
      · refine ww_aload_n (pc := 25) X (j := 0) dX10_worstNow_25 rfl rfl ?_
        refine ww_iload_n (pc := 26) X (j := 2) dX10_worstNow_26 rfl rfl ?_
        obtain ⟨r15, h14, hF⟩ := bd_some hF
        refine ww_callVl (pc := 27) X (As := [.int a2]) (rest := []) dX10_worstNow_27 (kX10_doubtOf (mL M) G X.2.2.2.2.2.2.1 X.2.2.2.2.2.2.2.1 σ8 a2 r15 h14) rfl shzM_0 clzM_10 gX10_worstNow_X10_doubtOf hyX10_doubtOf ⟨rfl, rfl⟩ ⟨Nat.le_of_ble_eq_true rfl, Nat.le_of_ble_eq_true rfl⟩ rfl rfl (Nat.le_of_ble_eq_true rfl) ?_
        refine ww_aload_n (pc := 30) X (j := 0) dX10_worstNow_30 rfl rfl ?_
        refine ww_iload_n (pc := 31) X (j := 1) dX10_worstNow_31 rfl rfl ?_
        obtain ⟨r17, h16, hF⟩ := bd_some hF
        refine ww_callVl (pc := 32) X (As := [.int a1]) (rest := [.long r15]) dX10_worstNow_32 (kX10_doubtOf (mL M) G X.2.2.2.2.2.2.1 X.2.2.2.2.2.2.2.1 σ8 a1 r17 h16) rfl shzM_0 clzM_10 gX10_worstNow_X10_doubtOf hyX10_doubtOf ⟨rfl, rfl⟩ ⟨Nat.le_of_ble_eq_true rfl, Nat.le_of_ble_eq_true rfl⟩ rfl rfl (Nat.le_of_ble_eq_true rfl) ?_
        refine ww_lcmp_le (pc := 35) (tgt := 41) X dX10_worstNow_35 dX10_worstNow_36 (by decide) hF (fun h18 hF => ?_) (fun h18 hF => ?_)
        · refine ww_iinc (pc := 41) X (j := 2) (v := 1) (lv' := [(0, .ref (G.2.1 0)), (1, .int a1)]) dX10_worstNow_41 rfl rfl (by decide) rfl hF (fun x19 ex19 hF => ?_)
          refine ww_goto (pc := 44) X (tgt := 4) dX10_worstNow_44 (by decide) ?_
          exact ww_sub [1, 2, 0] rfl (ih4 a1 x19 σ8 hF)
        · refine ww_iload_n (pc := 39) X (j := 2) dX10_worstNow_39 rfl rfl ?_
          refine ww_istore_n (pc := 40) X (lv' := [(0, .ref (G.2.1 0)), (2, .int a2)]) dX10_worstNow_40 rfl (by decide) rfl hF (fun x20 ex20 hF => ?_)
          refine ww_iinc (pc := 41) X (j := 2) (v := 1) (lv' := [(1, .int x20), (0, .ref (G.2.1 0))]) dX10_worstNow_41 rfl rfl (by decide) rfl hF (fun x21 ex21 hF => ?_)
          refine ww_goto (pc := 44) X (tgt := 4) dX10_worstNow_44 (by decide) ?_
          exact ww_sub [2, 1, 0] rfl (ih4 x20 x21 σ8 hF)
set_option maxRecDepth 100000 in
set_option maxHeartbeats 4000000 in
theorem wX10_worstNow {M : gM} {G : gG} {out : Int32 × gS} (X : gX M G zM cX10_worstNow RX10 3 wsX10_worstNow rmX10_worstNow (some .int)) (σ : gS) (hF : fX10_worstNow σ = some out) : WW M (gQi M G zM out.1 out.2) G zM 3 σ 0 [(0, .ref (G.2.1 0))] [] := by
  unfold fX10_worstNow at hF
  refine ww_iconst (pc := 0) X (v := (-1)) dX10_worstNow_0 (by decide) ?_
  refine ww_istore_n (pc := 1) X (lv' := [(0, .ref (G.2.1 0))]) dX10_worstNow_1 rfl (by decide) rfl hF (fun x1 ex1 hF => ?_)
  refine ww_iconst (pc := 2) X (v := 0) dX10_worstNow_2 (by decide) ?_
  refine ww_istore_n (pc := 3) X (lv' := [(1, .int x1), (0, .ref (G.2.1 0))]) dX10_worstNow_3 rfl (by decide) rfl hF (fun x2 ex2 hF => ?_)
  exact ww_sub [2, 1, 0] rfl (lpc_ind (P := (fun (s : Int32 × Int32 × gS) => WW M (gQi M G zM out.1 out.2) G zM 3 s.2.2 4 [(0, .ref (G.2.1 0)), (1, .int s.1), (2, .int s.2.1)] [])) (fun rec s ih hF => wbX10_worstNow_4 X σ (fun a1 a2 σ1 => rec (a1, a2, σ1)) (fun a1 a2 σ1 h => ih (a1, a2, σ1) h) s.1 s.2.1 s.2.2 hF) K9 (x1, x2, σ) hF)
set_option maxRecDepth 100000 in
set_option maxHeartbeats 4000000 in
theorem kX10_worstNow (l : Launch) (G : gG) (hG : gOK G zM.1) (hT : G.2.2.1.map (fun q => q.2) = zM.2.1) (σ : gS) (out : Int32 × gS) (hF : fX10_worstNow σ = some out) : gCi l yX10_worstNow wsX10_worstNow rmX10_worstNow G zM [.ref (G.2.1 0)] σ out.1 out.2 :=
  gEnter (by decide) rfl ⟨rfl, rfl⟩ hG hT (Nat.le_of_ble_eq_true rfl) rfl (fun M X hl => wX10_worstNow X σ hF)
noncomputable def fX10_worst (σ : gS) : Option (Int32 × gS) :=
  bd2 (fX10_worstNow σ) fun r2 σ3 => some (r2, σ3)
noncomputable abbrev rmX10_worst : Room := { frames := 6, cells := 0, slots := 0, locals := 139 }
set_option maxRecDepth 100000 in
set_option maxHeartbeats 4000000 in
theorem wX10_worst {M : gM} {G : gG} {out : Int32 × gS} (X : gX M G zM cX10_worst RX10 1 wsX10_worst rmX10_worst (some .int)) (σ : gS) (hF : fX10_worst σ = some out) : WW M (gQi M G zM out.1 out.2) G zM 1 σ 0 [(0, .ref (G.2.1 0))] [] := by
  unfold fX10_worst at hF
  refine ww_aload_n (pc := 0) X (j := 0) dX10_worst_0 rfl rfl ?_
  obtain ⟨r2, σ3, h1, hF⟩ := bd2_some hF
  refine ww_callVi (pc := 1) X (As := []) (rest := []) dX10_worst_1 (kX10_worstNow (mL M) G X.2.2.2.2.2.2.1 X.2.2.2.2.2.2.2.1 σ (r2, σ3) h1) rfl shzM_0 clzM_10 gX10_worst_X10_worstNow hyX10_worstNow ⟨rfl, rfl⟩ ⟨Nat.le_of_ble_eq_true rfl, Nat.le_of_ble_eq_true rfl⟩ rfl rfl (Nat.le_of_ble_eq_true rfl) ?_
  exact ww_iret (pc := 4) X dX10_worst_4 (fst_of hF) (snd_of hF)
set_option maxRecDepth 100000 in
set_option maxHeartbeats 4000000 in
theorem kX10_worst (l : Launch) (G : gG) (hG : gOK G zM.1) (hT : G.2.2.1.map (fun q => q.2) = zM.2.1) (σ : gS) (out : Int32 × gS) (hF : fX10_worst σ = some out) : gCi l yX10_worst wsX10_worst rmX10_worst G zM [.ref (G.2.1 0)] σ out.1 out.2 :=
  gEnter (by decide) rfl ⟨rfl, rfl⟩ hG hT (Nat.le_of_ble_eq_true rfl) rfl (fun M X hl => wX10_worst X σ hF)
noncomputable def fX10_drop (σ : gS) (p1 : Int32) (p2 : Int32) : Option (Int32 × gS) :=
  bd (fX10_isRow σ p1) fun r2 => (if r2 = 0 then some (0, σ) else gd (gb p1 60) <| nm (σ.1 26 p1.toNatClampNeg) fun v4 => (if v4 = p2 then some (0, σ) else gd (gb p1 60) <| nm (gsI σ 26 p1.toNatClampNeg (vp_nar .boolean p2)) fun σ6 => some (1, σ6)))
noncomputable abbrev rmX10_drop : Room := { frames := 2, cells := 0, slots := 0, locals := 46 }
set_option maxRecDepth 100000 in
set_option maxHeartbeats 4000000 in
theorem wX10_drop {M : gM} {G : gG} {out : Int32 × gS} (X : gX M G zM cX10_drop RX10 3 wsX10_drop rmX10_drop (some .boolean)) (σ : gS) (p1 : Int32) (p2 : Int32) (hF : fX10_drop σ p1 p2 = some out) : WW M (gQi M G zM out.1 out.2) G zM 3 σ 0 [(0, .ref (G.2.1 0)), (1, .int p1), (2, .int p2)] [] := by
  unfold fX10_drop at hF
  refine ww_aload_n (pc := 0) X (j := 0) dX10_drop_0 rfl rfl ?_
  refine ww_iload_n (pc := 1) X (j := 1) dX10_drop_1 rfl rfl ?_
  obtain ⟨r2, h1, hF⟩ := bd_some hF
  refine ww_callVi (pc := 2) X (As := [.int p1]) (rest := []) dX10_drop_2 (kX10_isRow (mL M) G X.2.2.2.2.2.2.1 X.2.2.2.2.2.2.2.1 σ p1 r2 h1) rfl shzM_0 clzM_10 gX10_drop_X10_isRow hyX10_isRow ⟨rfl, rfl⟩ ⟨Nat.le_of_ble_eq_true rfl, Nat.le_of_ble_eq_true rfl⟩ rfl rfl (Nat.le_of_ble_eq_true rfl) ?_
  refine ww_if_eq (pc := 5) (tgt := 18) X dX10_drop_5 (by decide) hF (fun h3 hF => ?_) (fun h3 hF => ?_)
  · refine ww_iconst (pc := 18) X (v := 0) dX10_drop_18 (by decide) ?_
    exact ww_zret (pc := 19) X dX10_drop_19 (by cases hF; rfl) (by cases hF; rfl)
  · refine ww_aload_n (pc := 8) X (j := 0) dX10_drop_8 rfl rfl ?_
    refine ww_get (pc := 9) X (ref := "PictureBlockModel") (T := TX10) (j := 35) dX10_drop_9 inX10_drop_RX10 shzM_0 clzM_10 (by decide) rfl (List.mem_of_getElem? (i := 1) rfl) rfl ?_
    refine ww_iload_n (pc := 12) X (j := 1) dX10_drop_12 rfl rfl ?_
    refine ww_zald (pc := 13) X dX10_drop_13 shzM_26 rfl hF (fun v4 ev4 bv4 hF => ?_)
    refine ww_iload_n (pc := 14) X (j := 2) dX10_drop_14 rfl rfl ?_
    refine ww_icmp_ne (pc := 15) (tgt := 20) X dX10_drop_15 (by decide) hF (fun h5 hF => ?_) (fun h5 hF => ?_)
    · refine ww_aload_n (pc := 20) X (j := 0) dX10_drop_20 rfl rfl ?_
      refine ww_get (pc := 21) X (ref := "PictureBlockModel") (T := TX10) (j := 35) dX10_drop_21 inX10_drop_RX10 shzM_0 clzM_10 (by decide) rfl (List.mem_of_getElem? (i := 1) rfl) rfl ?_
      refine ww_iload_n (pc := 24) X (j := 1) dX10_drop_24 rfl rfl ?_
      refine ww_iload_n (pc := 25) X (j := 2) dX10_drop_25 rfl rfl ?_
      refine ww_zast (pc := 26) X dX10_drop_26 shzM_26 rfl hF (fun σ6 eσ6 bσ6 hF => ?_)
      refine ww_iconst (pc := 27) X (v := 1) dX10_drop_27 (by decide) ?_
      exact ww_zret (pc := 28) X dX10_drop_28 (by cases hF; rfl) (by cases hF; rfl)
    · refine ww_iconst (pc := 18) X (v := 0) dX10_drop_18 (by decide) ?_
      exact ww_zret (pc := 19) X dX10_drop_19 (by cases hF; rfl) (by cases hF; rfl)
set_option maxRecDepth 100000 in
set_option maxHeartbeats 4000000 in
theorem kX10_drop (l : Launch) (G : gG) (hG : gOK G zM.1) (hT : G.2.2.1.map (fun q => q.2) = zM.2.1) (σ : gS) (p1 : Int32) (p2 : Int32) (out : Int32 × gS) (hF : fX10_drop σ p1 p2 = some out) : gCi l yX10_drop wsX10_drop rmX10_drop G zM [.ref (G.2.1 0), .int p1, .int p2] σ out.1 out.2 :=
  gEnter (by decide) rfl ⟨rfl, rfl⟩ hG hT (Nat.le_of_ble_eq_true rfl) rfl (fun M X hl => wX10_drop X σ p1 p2 hF)
noncomputable def bX10_clean_115 (σ : gS) (c115_1 : Int64) (c115_3 : Int32) (rec115 : Int32 → Int32 → gS → Option (Int32 × gS)) (a5 : Int32) (a6 : Int32) (σ1 : gS) : Option (Int32 × gS) :=
  bd (fX10_rows σ1) fun r12 => (if r12 ≤ a6 then if a5 ≤ 0 then nm (0 : Int32) fun x15 => some (c115_3 - a5, σ1) else bd2 (fX10_rests σ1 50) fun r17 σ18 => nm (r17 : Int32) fun x19 => some (c115_3 - a5, σ18) else gd (gb a6 60) <| nm (σ1.1 26 a6.toNatClampNeg) fun v20 => (if v20 = 0 then nm (a6 + 1 : Int32) fun x22 => rec115 a5 x22 σ1 else gd (gb a6 60) <| nm (σ1.1 33 a6.toNatClampNeg) fun v23 => (if v23 = 0 then bd (fX10_doubtOf σ1 a6) fun r27 => (if r27 ≤ c115_1 then gd (gb a6 60) <| nm (gsI σ1 26 a6.toNatClampNeg (vp_nar .boolean 0)) fun σ29 => nm (a5 + 1 : Int32) fun x30 => nm (a6 + 1 : Int32) fun x31 => rec115 x30 x31 σ29 else nm (a6 + 1 : Int32) fun x32 => rec115 a5 x32 σ1) else nm (a6 + 1 : Int32) fun x25 => rec115 a5 x25 σ1)))
noncomputable def jX10_clean_88 (σ : gS) (c41_1 : Int64) (rec41 : Int32 → Int32 → gS → Option (Int32 × gS)) (a3 : Int32) (a6 : Int32) (z0 : Int32) : Option (Int32 × gS) :=
  nm (z0 : Int32) fun x42 => (if x42 = 0 then rec41 a3 x42 σ else gd (gb a6 60) <| nm (gsI σ 26 a6.toNatClampNeg (vp_nar .boolean 1)) fun σ44 => nm (a3 + 1 : Int32) fun x45 => rec41 x45 x42 σ44)
noncomputable def bX10_clean_41 (σ : gS) (c41_1 : Int64) (rec41 : Int32 → Int32 → gS → Option (Int32 × gS)) (a3 : Int32) (a4 : Int32) (σ1 : gS) : Option (Int32 × gS) :=
  if a4 = 0 then nm (0 : Int32) fun x9 => nm (0 : Int32) fun x10 => lpc (S := Int32 × Int32 × gS) K9 (fun rec s => bX10_clean_115 σ1 c41_1 a3 (fun a5 a6 σ1 => rec (a5, a6, σ1)) s.1 s.2.1 s.2.2) (x9, x10, σ1) else bd2 (fX10_rests σ1 50) fun r34 σ35 => nm (r34 : Int32) fun x36 => bd2 (fX10_worstNow σ35) fun r38 σ39 => nm (r38 : Int32) fun x40 => (if x40 = ((-1)) then jX10_clean_88 σ39 c41_1 rec41 a3 x40 0 else bd (fX10_doubtOf σ39 x40) fun r47 => (if r47 ≤ c41_1 then jX10_clean_88 σ39 c41_1 rec41 a3 x40 0 else if 20 ≤ a3 then jX10_clean_88 σ39 c41_1 rec41 a3 x40 0 else jX10_clean_88 σ39 c41_1 rec41 a3 x40 1))
noncomputable def bX10_clean_10 (σ : gS) (c10_1 : Int64) (rec10 : Int32 → gS → Option (Int32 × gS)) (a3 : Int32) (σ1 : gS) : Option (Int32 × gS) :=
  bd (fX10_rows σ1) fun r4 => (if r4 ≤ a3 then nm (0 : Int32) fun x6 => nm (1 : Int32) fun x7 => lpc (S := Int32 × Int32 × gS) K9 (fun rec s => bX10_clean_41 σ1 c10_1 (fun a3 a4 σ1 => rec (a3, a4, σ1)) s.1 s.2.1 s.2.2) (x6, x7, σ1) else gd (gb a3 60) <| nm (σ1.1 26 a3.toNatClampNeg) fun v50 => gd (gb a3 60) <| nm (gsI σ1 33 a3.toNatClampNeg (vp_nar .boolean v50)) fun σ51 => nm (a3 + 1 : Int32) fun x52 => rec10 x52 σ51)
noncomputable def fX10_clean (σ : gS) (p1 : Int64) : Option (Int32 × gS) :=
  if 0 ≤ p1 then nm (0 : Int32) fun x2 => lpc (S := Int32 × gS) K9 (fun rec s => bX10_clean_10 σ p1 (fun a3 σ1 => rec (a3, σ1)) s.1 s.2) (x2, σ) else some ((-1), σ)
noncomputable abbrev rmX10_clean : Room := { frames := 6, cells := 0, slots := 0, locals := 139 }
set_option maxRecDepth 100000 in
set_option maxHeartbeats 4000000 in
theorem wbX10_clean_115 {M : gM} {G : gG} {out : Int32 × gS} (X : gX M G zM cX10_clean RX10 7 wsX10_clean rmX10_clean (some .int)) (σ : gS) (c115_1 : Int64) (c115_3 : Int32) (rec115 : Int32 → Int32 → gS → Option (Int32 × gS)) (ih115 : ∀ (a5 : Int32) (a6 : Int32) (σ1 : gS), rec115 a5 a6 σ1 = some out → WW M (gQi M G zM out.1 out.2) G zM 7 σ1 115 [(0, .ref (G.2.1 0)), (1, .long c115_1), (3, .int c115_3), (5, .int a5), (6, .int a6)] []) (a5 : Int32) (a6 : Int32) (σ1 : gS) (hF : bX10_clean_115 σ c115_1 c115_3 rec115 a5 a6 σ1 = some out) : WW M (gQi M G zM out.1 out.2) G zM 7 σ1 115 [(0, .ref (G.2.1 0)), (1, .long c115_1), (3, .int c115_3), (5, .int a5), (6, .int a6)] [] := by
  unfold bX10_clean_115 at hF
  refine ww_iload (pc := 115) X (j := 4) dX10_clean_115 rfl ?_
  refine ww_aload_n (pc := 117) X (j := 0) dX10_clean_117 rfl rfl ?_
  obtain ⟨r12, h11, hF⟩ := bd_some hF
  refine ww_callVi (pc := 118) X (As := []) (rest := [.int a6]) dX10_clean_118 (kX10_rows (mL M) G X.2.2.2.2.2.2.1 X.2.2.2.2.2.2.2.1 σ1 r12 h11) rfl shzM_0 clzM_10 gX10_clean_X10_rows hyX10_rows ⟨rfl, rfl⟩ ⟨Nat.le_of_ble_eq_true rfl, Nat.le_of_ble_eq_true rfl⟩ rfl rfl (Nat.le_of_ble_eq_true rfl) ?_
  refine ww_icmp_ge (pc := 121) (tgt := 175) X dX10_clean_121 (by decide) hF (fun h13 hF => ?_) (fun h13 hF => ?_)
  · refine ww_iload (pc := 175) X (j := 3) dX10_clean_175 rfl ?_
    refine ww_if_le (pc := 177) (tgt := 189) X dX10_clean_177 (by decide) hF (fun h14 hF => ?_) (fun h14 hF => ?_)
    · refine ww_iconst (pc := 189) X (v := 0) dX10_clean_189 (by decide) ?_
      refine ww_istore (pc := 190) X (lv' := [(0, .ref (G.2.1 0)), (1, .long c115_1), (3, .int c115_3), (5, .int a5)]) dX10_clean_190 (by decide) rfl hF (fun x15 ex15 hF => ?_)
      refine ww_iload_n (pc := 192) X (j := 3) dX10_clean_192 rfl rfl ?_
      refine ww_iload (pc := 193) X (j := 4) dX10_clean_193 rfl ?_
      refine ww_isub (pc := 195) X dX10_clean_195 ?_
      exact ww_iret (pc := 196) X dX10_clean_196 (fst_of hF) (snd_of hF)
    · refine ww_aload_n (pc := 180) X (j := 0) dX10_clean_180 rfl rfl ?_
      refine ww_bipush (pc := 181) X (v := 50) dX10_clean_181 (by decide) ?_
      obtain ⟨r17, σ18, h16, hF⟩ := bd2_some hF
      refine ww_callVi (pc := 183) X (As := [.int 50]) (rest := []) dX10_clean_183 (kX10_rests (mL M) G X.2.2.2.2.2.2.1 X.2.2.2.2.2.2.2.1 σ1 50 (r17, σ18) h16) rfl shzM_0 clzM_10 gX10_clean_X10_rests hyX10_rests ⟨rfl, rfl⟩ ⟨Nat.le_of_ble_eq_true rfl, Nat.le_of_ble_eq_true rfl⟩ rfl rfl (Nat.le_of_ble_eq_true rfl) ?_
      refine ww_goto (pc := 186) X (tgt := 190) dX10_clean_186 (by decide) ?_
      refine ww_istore (pc := 190) X (lv' := [(0, .ref (G.2.1 0)), (1, .long c115_1), (3, .int c115_3), (5, .int a5)]) dX10_clean_190 (by decide) rfl hF (fun x19 ex19 hF => ?_)
      refine ww_iload_n (pc := 192) X (j := 3) dX10_clean_192 rfl rfl ?_
      refine ww_iload (pc := 193) X (j := 4) dX10_clean_193 rfl ?_
      refine ww_isub (pc := 195) X dX10_clean_195 ?_
      exact ww_iret (pc := 196) X dX10_clean_196 (fst_of hF) (snd_of hF)
  · refine ww_aload_n (pc := 124) X (j := 0) dX10_clean_124 rfl rfl ?_
    refine ww_get (pc := 125) X (ref := "PictureBlockModel") (T := TX10) (j := 35) dX10_clean_125 inX10_clean_RX10 shzM_0 clzM_10 (by decide) rfl (List.mem_of_getElem? (i := 2) rfl) rfl ?_
    refine ww_iload (pc := 128) X (j := 4) dX10_clean_128 rfl ?_
    refine ww_zald (pc := 130) X dX10_clean_130 shzM_26 rfl hF (fun v20 ev20 bv20 hF => ?_)
    refine ww_if_eq (pc := 131) (tgt := 169) X dX10_clean_131 (by decide) hF (fun h21 hF => ?_) (fun h21 hF => ?_)
    · refine ww_iinc (pc := 169) X (j := 4) (v := 1) (lv' := [(0, .ref (G.2.1 0)), (1, .long c115_1), (3, .int c115_3), (5, .int a5)]) dX10_clean_169 rfl rfl (by decide) rfl hF (fun x22 ex22 hF => ?_)
      refine ww_goto (pc := 172) X (tgt := 115) dX10_clean_172 (by decide) ?_
      exact ww_sub [1, 2, 3, 4, 0] rfl (ih115 a5 x22 σ1 hF)
    · refine ww_aload_n (pc := 134) X (j := 0) dX10_clean_134 rfl rfl ?_
      refine ww_get (pc := 135) X (ref := "PictureBlockModel") (T := TX10) (j := 46) dX10_clean_135 inX10_clean_RX10 shzM_0 clzM_10 (by decide) rfl (List.mem_of_getElem? (i := 1) rfl) rfl ?_
      refine ww_iload (pc := 138) X (j := 4) dX10_clean_138 rfl ?_
      refine ww_zald (pc := 140) X dX10_clean_140 shzM_33 rfl hF (fun v23 ev23 bv23 hF => ?_)
      refine ww_if_ne (pc := 141) (tgt := 169) X dX10_clean_141 (by decide) hF (fun h24 hF => ?_) (fun h24 hF => ?_)
      · refine ww_iinc (pc := 169) X (j := 4) (v := 1) (lv' := [(0, .ref (G.2.1 0)), (1, .long c115_1), (3, .int c115_3), (5, .int a5)]) dX10_clean_169 rfl rfl (by decide) rfl hF (fun x25 ex25 hF => ?_)
        refine ww_goto (pc := 172) X (tgt := 115) dX10_clean_172 (by decide) ?_
        exact ww_sub [1, 2, 3, 4, 0] rfl (ih115 a5 x25 σ1 hF)
      · refine ww_aload_n (pc := 144) X (j := 0) dX10_clean_144 rfl rfl ?_
        refine ww_iload (pc := 145) X (j := 4) dX10_clean_145 rfl ?_
        obtain ⟨r27, h26, hF⟩ := bd_some hF
        refine ww_callVl (pc := 147) X (As := [.int a6]) (rest := []) dX10_clean_147 (kX10_doubtOf (mL M) G X.2.2.2.2.2.2.1 X.2.2.2.2.2.2.2.1 σ1 a6 r27 h26) rfl shzM_0 clzM_10 gX10_clean_X10_doubtOf hyX10_doubtOf ⟨rfl, rfl⟩ ⟨Nat.le_of_ble_eq_true rfl, Nat.le_of_ble_eq_true rfl⟩ rfl rfl (Nat.le_of_ble_eq_true rfl) ?_
        refine ww_lload_n (pc := 150) X (j := 1) dX10_clean_150 rfl rfl ?_
        refine ww_lcmp_le (pc := 151) (tgt := 158) X dX10_clean_151 dX10_clean_152 (by decide) hF (fun h28 hF => ?_) (fun h28 hF => ?_)
        · refine ww_aload_n (pc := 158) X (j := 0) dX10_clean_158 rfl rfl ?_
          refine ww_get (pc := 159) X (ref := "PictureBlockModel") (T := TX10) (j := 35) dX10_clean_159 inX10_clean_RX10 shzM_0 clzM_10 (by decide) rfl (List.mem_of_getElem? (i := 2) rfl) rfl ?_
          refine ww_iload (pc := 162) X (j := 4) dX10_clean_162 rfl ?_
          refine ww_iconst (pc := 164) X (v := 0) dX10_clean_164 (by decide) ?_
          refine ww_zast (pc := 165) X dX10_clean_165 shzM_26 rfl hF (fun σ29 eσ29 bσ29 hF => ?_)
          refine ww_iinc (pc := 166) X (j := 3) (v := 1) (lv' := [(0, .ref (G.2.1 0)), (1, .long c115_1), (3, .int c115_3), (6, .int a6)]) dX10_clean_166 rfl rfl (by decide) rfl hF (fun x30 ex30 hF => ?_)
          refine ww_iinc (pc := 169) X (j := 4) (v := 1) (lv' := [(5, .int x30), (0, .ref (G.2.1 0)), (1, .long c115_1), (3, .int c115_3)]) dX10_clean_169 rfl rfl (by decide) rfl hF (fun x31 ex31 hF => ?_)
          refine ww_goto (pc := 172) X (tgt := 115) dX10_clean_172 (by decide) ?_
          exact ww_sub [2, 3, 4, 1, 0] rfl (ih115 x30 x31 σ29 hF)
        · refine ww_goto (pc := 155) X (tgt := 169) dX10_clean_155 (by decide) ?_
          refine ww_iinc (pc := 169) X (j := 4) (v := 1) (lv' := [(0, .ref (G.2.1 0)), (1, .long c115_1), (3, .int c115_3), (5, .int a5)]) dX10_clean_169 rfl rfl (by decide) rfl hF (fun x32 ex32 hF => ?_)
          refine ww_goto (pc := 172) X (tgt := 115) dX10_clean_172 (by decide) ?_
          exact ww_sub [1, 2, 3, 4, 0] rfl (ih115 a5 x32 σ1 hF)
set_option maxRecDepth 100000 in
set_option maxHeartbeats 4000000 in
theorem wjX10_clean_88 {M : gM} {G : gG} {out : Int32 × gS} (X : gX M G zM cX10_clean RX10 7 wsX10_clean rmX10_clean (some .int)) (σ : gS) (c41_1 : Int64) (rec41 : Int32 → Int32 → gS → Option (Int32 × gS)) (ih41 : ∀ (a3 : Int32) (a4 : Int32) (σ1 : gS), rec41 a3 a4 σ1 = some out → WW M (gQi M G zM out.1 out.2) G zM 7 σ1 41 [(0, .ref (G.2.1 0)), (1, .long c41_1), (3, .int a3), (4, .int a4)] []) (a3 : Int32) (a6 : Int32) (z0 : Int32) (hF : jX10_clean_88 σ c41_1 rec41 a3 a6 z0 = some out) : WW M (gQi M G zM out.1 out.2) G zM 7 σ 88 [(0, .ref (G.2.1 0)), (1, .long c41_1), (3, .int a3), (6, .int a6)] [.int z0] := by
  unfold jX10_clean_88 at hF
  refine ww_istore (pc := 88) X (lv' := [(0, .ref (G.2.1 0)), (1, .long c41_1), (3, .int a3), (6, .int a6)]) dX10_clean_88 (by decide) rfl hF (fun x42 ex42 hF => ?_)
  refine ww_iload (pc := 90) X (j := 0) dX10_clean_90 rfl ?_
  refine ww_if_eq (pc := 92) (tgt := 106) X dX10_clean_92 (by decide) hF (fun h43 hF => ?_) (fun h43 hF => ?_)
  · refine ww_goto (pc := 106) X (tgt := 41) dX10_clean_106 (by decide) ?_
    exact ww_sub [1, 2, 3, 0] rfl (ih41 a3 x42 σ hF)
  · refine ww_aload_n (pc := 95) X (j := 1) dX10_clean_95 rfl rfl ?_
    refine ww_get (pc := 96) X (ref := "PictureBlockModel") (T := TX10) (j := 35) dX10_clean_96 inX10_clean_RX10 shzM_0 clzM_10 (by decide) rfl (List.mem_of_getElem? (i := 2) rfl) rfl ?_
    refine ww_iload (pc := 99) X (j := 4) dX10_clean_99 rfl ?_
    refine ww_iconst (pc := 101) X (v := 1) dX10_clean_101 (by decide) ?_
    refine ww_zast (pc := 102) X dX10_clean_102 shzM_26 rfl hF (fun σ44 eσ44 bσ44 hF => ?_)
    refine ww_iinc (pc := 103) X (j := 3) (v := 1) (lv' := [(4, .int x42), (0, .ref (G.2.1 0)), (1, .long c41_1), (6, .int a6)]) dX10_clean_103 rfl rfl (by decide) rfl hF (fun x45 ex45 hF => ?_)
    refine ww_goto (pc := 106) X (tgt := 41) dX10_clean_106 (by decide) ?_
    exact ww_sub [2, 3, 0, 1] rfl (ih41 x45 x42 σ44 hF)
set_option maxRecDepth 100000 in
set_option maxHeartbeats 4000000 in
theorem wbX10_clean_41 {M : gM} {G : gG} {out : Int32 × gS} (X : gX M G zM cX10_clean RX10 7 wsX10_clean rmX10_clean (some .int)) (σ : gS) (c41_1 : Int64) (rec41 : Int32 → Int32 → gS → Option (Int32 × gS)) (ih41 : ∀ (a3 : Int32) (a4 : Int32) (σ1 : gS), rec41 a3 a4 σ1 = some out → WW M (gQi M G zM out.1 out.2) G zM 7 σ1 41 [(0, .ref (G.2.1 0)), (1, .long c41_1), (3, .int a3), (4, .int a4)] []) (a3 : Int32) (a4 : Int32) (σ1 : gS) (hF : bX10_clean_41 σ c41_1 rec41 a3 a4 σ1 = some out) : WW M (gQi M G zM out.1 out.2) G zM 7 σ1 41 [(0, .ref (G.2.1 0)), (1, .long c41_1), (3, .int a3), (4, .int a4)] [] := by
  unfold bX10_clean_41 at hF
  refine ww_iload (pc := 41) X (j := 3) dX10_clean_41 rfl ?_
  refine ww_if_eq (pc := 43) (tgt := 109) X dX10_clean_43 (by decide) hF (fun h8 hF => ?_) (fun h8 hF => ?_)
  · refine ww_iconst (pc := 109) X (v := 0) dX10_clean_109 (by decide) ?_
    refine ww_istore (pc := 110) X (lv' := [(0, .ref (G.2.1 0)), (1, .long c41_1), (3, .int a3), (4, .int a4)]) dX10_clean_110 (by decide) rfl hF (fun x9 ex9 hF => ?_)
    refine ww_iconst (pc := 112) X (v := 0) dX10_clean_112 (by decide) ?_
    refine ww_istore (pc := 113) X (lv' := [(5, .int x9), (0, .ref (G.2.1 0)), (1, .long c41_1), (3, .int a3), (4, .int a4)]) dX10_clean_113 (by decide) rfl hF (fun x10 ex10 hF => ?_)
    exact ww_sub [2, 3, 4, 1, 0] rfl (lpc_ind (P := (fun (s : Int32 × Int32 × gS) => WW M (gQi M G zM out.1 out.2) G zM 7 s.2.2 115 [(0, .ref (G.2.1 0)), (1, .long c41_1), (3, .int a3), (5, .int s.1), (6, .int s.2.1)] [])) (fun rec s ih hF => wbX10_clean_115 X σ1 c41_1 a3 (fun a5 a6 σ1 => rec (a5, a6, σ1)) (fun a5 a6 σ1 h => ih (a5, a6, σ1) h) s.1 s.2.1 s.2.2 hF) K9 (x9, x10, σ1) hF)
  · refine ww_aload_n (pc := 46) X (j := 0) dX10_clean_46 rfl rfl ?_
    refine ww_bipush (pc := 47) X (v := 50) dX10_clean_47 (by decide) ?_
    obtain ⟨r34, σ35, h33, hF⟩ := bd2_some hF
    refine ww_callVi (pc := 49) X (As := [.int 50]) (rest := []) dX10_clean_49 (kX10_rests (mL M) G X.2.2.2.2.2.2.1 X.2.2.2.2.2.2.2.1 σ1 50 (r34, σ35) h33) rfl shzM_0 clzM_10 gX10_clean_X10_rests hyX10_rests ⟨rfl, rfl⟩ ⟨Nat.le_of_ble_eq_true rfl, Nat.le_of_ble_eq_true rfl⟩ rfl rfl (Nat.le_of_ble_eq_true rfl) ?_
    refine ww_istore (pc := 52) X (lv' := [(0, .ref (G.2.1 0)), (1, .long c41_1), (3, .int a3), (4, .int a4)]) dX10_clean_52 (by decide) rfl hF (fun x36 ex36 hF => ?_)
    refine ww_aload_n (pc := 54) X (j := 1) dX10_clean_54 rfl rfl ?_
    obtain ⟨r38, σ39, h37, hF⟩ := bd2_some hF
    refine ww_callVi (pc := 55) X (As := []) (rest := []) dX10_clean_55 (kX10_worstNow (mL M) G X.2.2.2.2.2.2.1 X.2.2.2.2.2.2.2.1 σ35 (r38, σ39) h37) rfl shzM_0 clzM_10 gX10_clean_X10_worstNow hyX10_worstNow ⟨rfl, rfl⟩ ⟨Nat.le_of_ble_eq_true rfl, Nat.le_of_ble_eq_true rfl⟩ rfl rfl (Nat.le_of_ble_eq_true rfl) ?_
    refine ww_istore (pc := 58) X (lv' := [(5, .int x36), (0, .ref (G.2.1 0)), (1, .long c41_1), (3, .int a3), (4, .int a4)]) dX10_clean_58 (by decide) rfl hF (fun x40 ex40 hF => ?_)
    refine ww_iload (pc := 60) X (j := 0) dX10_clean_60 rfl ?_
    refine ww_iconst (pc := 62) X (v := (-1)) dX10_clean_62 (by decide) ?_
    refine ww_icmp_eq (pc := 63) (tgt := 87) X dX10_clean_63 (by decide) hF (fun h41 hF => ?_) (fun h41 hF => ?_)
    · refine ww_iconst (pc := 87) X (v := 0) dX10_clean_87 (by decide) ?_
      exact ww_sub [2, 3, 4, 0] rfl (wjX10_clean_88 X σ39 c41_1 rec41 ih41 a3 x40 0 hF)
    · refine ww_aload_n (pc := 66) X (j := 2) dX10_clean_66 rfl rfl ?_
      refine ww_iload (pc := 67) X (j := 0) dX10_clean_67 rfl ?_
      obtain ⟨r47, h46, hF⟩ := bd_some hF
      refine ww_callVl (pc := 69) X (As := [.int x40]) (rest := []) dX10_clean_69 (kX10_doubtOf (mL M) G X.2.2.2.2.2.2.1 X.2.2.2.2.2.2.2.1 σ39 x40 r47 h46) rfl shzM_0 clzM_10 gX10_clean_X10_doubtOf hyX10_doubtOf ⟨rfl, rfl⟩ ⟨Nat.le_of_ble_eq_true rfl, Nat.le_of_ble_eq_true rfl⟩ rfl rfl (Nat.le_of_ble_eq_true rfl) ?_
      refine ww_lload_n (pc := 72) X (j := 3) dX10_clean_72 rfl rfl ?_
      refine ww_lcmp_le (pc := 73) (tgt := 87) X dX10_clean_73 dX10_clean_74 (by decide) hF (fun h48 hF => ?_) (fun h48 hF => ?_)
      · refine ww_iconst (pc := 87) X (v := 0) dX10_clean_87 (by decide) ?_
        exact ww_sub [2, 3, 4, 0] rfl (wjX10_clean_88 X σ39 c41_1 rec41 ih41 a3 x40 0 hF)
      · refine ww_iload_n (pc := 77) X (j := 4) dX10_clean_77 rfl rfl ?_
        refine ww_bipush (pc := 78) X (v := 20) dX10_clean_78 (by decide) ?_
        refine ww_icmp_ge (pc := 80) (tgt := 87) X dX10_clean_80 (by decide) hF (fun h49 hF => ?_) (fun h49 hF => ?_)
        · refine ww_iconst (pc := 87) X (v := 0) dX10_clean_87 (by decide) ?_
          exact ww_sub [2, 3, 4, 0] rfl (wjX10_clean_88 X σ39 c41_1 rec41 ih41 a3 x40 0 hF)
        · refine ww_iconst (pc := 83) X (v := 1) dX10_clean_83 (by decide) ?_
          refine ww_goto (pc := 84) X (tgt := 88) dX10_clean_84 (by decide) ?_
          exact ww_sub [2, 3, 4, 0] rfl (wjX10_clean_88 X σ39 c41_1 rec41 ih41 a3 x40 1 hF)
set_option maxRecDepth 100000 in
set_option maxHeartbeats 4000000 in
theorem wbX10_clean_10 {M : gM} {G : gG} {out : Int32 × gS} (X : gX M G zM cX10_clean RX10 7 wsX10_clean rmX10_clean (some .int)) (σ : gS) (c10_1 : Int64) (rec10 : Int32 → gS → Option (Int32 × gS)) (ih10 : ∀ (a3 : Int32) (σ1 : gS), rec10 a3 σ1 = some out → WW M (gQi M G zM out.1 out.2) G zM 7 σ1 10 [(0, .ref (G.2.1 0)), (1, .long c10_1), (3, .int a3)] []) (a3 : Int32) (σ1 : gS) (hF : bX10_clean_10 σ c10_1 rec10 a3 σ1 = some out) : WW M (gQi M G zM out.1 out.2) G zM 7 σ1 10 [(0, .ref (G.2.1 0)), (1, .long c10_1), (3, .int a3)] [] := by
  unfold bX10_clean_10 at hF
  refine ww_iload_n (pc := 10) X (j := 2) dX10_clean_10 rfl rfl ?_
  refine ww_aload_n (pc := 11) X (j := 0) dX10_clean_11 rfl rfl ?_
  obtain ⟨r4, h3, hF⟩ := bd_some hF
  refine ww_callVi (pc := 12) X (As := []) (rest := [.int a3]) dX10_clean_12 (kX10_rows (mL M) G X.2.2.2.2.2.2.1 X.2.2.2.2.2.2.2.1 σ1 r4 h3) rfl shzM_0 clzM_10 gX10_clean_X10_rows hyX10_rows ⟨rfl, rfl⟩ ⟨Nat.le_of_ble_eq_true rfl, Nat.le_of_ble_eq_true rfl⟩ rfl rfl (Nat.le_of_ble_eq_true rfl) ?_
  refine ww_icmp_ge (pc := 15) (tgt := 36) X dX10_clean_15 (by decide) hF (fun h5 hF => ?_) (fun h5 hF => ?_)
  · refine ww_iconst (pc := 36) X (v := 0) dX10_clean_36 (by decide) ?_
    refine ww_istore_n (pc := 37) X (lv' := [(0, .ref (G.2.1 0)), (1, .long c10_1)]) dX10_clean_37 rfl (by decide) rfl hF (fun x6 ex6 hF => ?_)
    refine ww_iconst (pc := 38) X (v := 1) dX10_clean_38 (by decide) ?_
    refine ww_istore (pc := 39) X (lv' := [(3, .int x6), (0, .ref (G.2.1 0)), (1, .long c10_1)]) dX10_clean_39 (by decide) rfl hF (fun x7 ex7 hF => ?_)
    exact ww_sub [2, 3, 1, 0] rfl (lpc_ind (P := (fun (s : Int32 × Int32 × gS) => WW M (gQi M G zM out.1 out.2) G zM 7 s.2.2 41 [(0, .ref (G.2.1 0)), (1, .long c10_1), (3, .int s.1), (4, .int s.2.1)] [])) (fun rec s ih hF => wbX10_clean_41 X σ1 c10_1 (fun a3 a4 σ1 => rec (a3, a4, σ1)) (fun a3 a4 σ1 h => ih (a3, a4, σ1) h) s.1 s.2.1 s.2.2 hF) K9 (x6, x7, σ1) hF)
  · refine ww_aload_n (pc := 18) X (j := 0) dX10_clean_18 rfl rfl ?_
    refine ww_get (pc := 19) X (ref := "PictureBlockModel") (T := TX10) (j := 46) dX10_clean_19 inX10_clean_RX10 shzM_0 clzM_10 (by decide) rfl (List.mem_of_getElem? (i := 1) rfl) rfl ?_
    refine ww_iload_n (pc := 22) X (j := 2) dX10_clean_22 rfl rfl ?_
    refine ww_aload_n (pc := 23) X (j := 0) dX10_clean_23 rfl rfl ?_
    refine ww_get (pc := 24) X (ref := "PictureBlockModel") (T := TX10) (j := 35) dX10_clean_24 inX10_clean_RX10 shzM_0 clzM_10 (by decide) rfl (List.mem_of_getElem? (i := 2) rfl) rfl ?_
    refine ww_iload_n (pc := 27) X (j := 2) dX10_clean_27 rfl rfl ?_
    refine ww_zald (pc := 28) X dX10_clean_28 shzM_26 rfl hF (fun v50 ev50 bv50 hF => ?_)
    refine ww_zast (pc := 29) X dX10_clean_29 shzM_33 rfl hF (fun σ51 eσ51 bσ51 hF => ?_)
    refine ww_iinc (pc := 30) X (j := 2) (v := 1) (lv' := [(0, .ref (G.2.1 0)), (1, .long c10_1)]) dX10_clean_30 rfl rfl (by decide) rfl hF (fun x52 ex52 hF => ?_)
    refine ww_goto (pc := 33) X (tgt := 10) dX10_clean_33 (by decide) ?_
    exact ww_sub [1, 2, 0] rfl (ih10 x52 σ51 hF)
set_option maxRecDepth 100000 in
set_option maxHeartbeats 4000000 in
theorem wX10_clean {M : gM} {G : gG} {out : Int32 × gS} (X : gX M G zM cX10_clean RX10 7 wsX10_clean rmX10_clean (some .int)) (σ : gS) (p1 : Int64) (hF : fX10_clean σ p1 = some out) : WW M (gQi M G zM out.1 out.2) G zM 7 σ 0 [(0, .ref (G.2.1 0)), (1, .long p1)] [] := by
  unfold fX10_clean at hF
  refine ww_lload_n (pc := 0) X (j := 1) dX10_clean_0 rfl rfl ?_
  refine ww_lconst (pc := 1) X (v := 0) dX10_clean_1 (by decide) ?_
  refine ww_lcmp_ge (pc := 2) (tgt := 8) X dX10_clean_2 dX10_clean_3 (by decide) hF (fun h1 hF => ?_) (fun h1 hF => ?_)
  · refine ww_iconst (pc := 8) X (v := 0) dX10_clean_8 (by decide) ?_
    refine ww_istore_n (pc := 9) X (lv' := [(0, .ref (G.2.1 0)), (1, .long p1)]) dX10_clean_9 rfl (by decide) rfl hF (fun x2 ex2 hF => ?_)
    exact ww_sub [1, 2, 0] rfl (lpc_ind (P := (fun (s : Int32 × gS) => WW M (gQi M G zM out.1 out.2) G zM 7 s.2 10 [(0, .ref (G.2.1 0)), (1, .long p1), (3, .int s.1)] [])) (fun rec s ih hF => wbX10_clean_10 X σ p1 (fun a3 σ1 => rec (a3, σ1)) (fun a3 σ1 h => ih (a3, σ1) h) s.1 s.2 hF) K9 (x2, σ) hF)
  · refine ww_iconst (pc := 6) X (v := (-1)) dX10_clean_6 (by decide) ?_
    exact ww_iret (pc := 7) X dX10_clean_7 (fst_of hF) (snd_of hF)
set_option maxRecDepth 100000 in
set_option maxHeartbeats 4000000 in
theorem kX10_clean (l : Launch) (G : gG) (hG : gOK G zM.1) (hT : G.2.2.1.map (fun q => q.2) = zM.2.1) (σ : gS) (p1 : Int64) (out : Int32 × gS) (hF : fX10_clean σ p1 = some out) : gCi l yX10_clean wsX10_clean rmX10_clean G zM [.ref (G.2.1 0), .long p1] σ out.1 out.2 :=
  gEnter (by decide) rfl ⟨rfl, rfl⟩ hG hT (Nat.le_of_ble_eq_true rfl) rfl (fun M X hl => wX10_clean X σ p1 hF)
noncomputable def fX10_areTwo (σ : gS) (p1 : Int32) (p2 : Int32) : Option (Int32) :=
  bd (fX10_isPicture σ p1) fun r2 => (if r2 = 0 then some 0 else bd (fX10_isPicture σ p2) fun r5 => (if r5 = 0 then some 0 else if p1 = p2 then some 0 else some 1))
noncomputable abbrev rmX10_areTwo : Room := { frames := 2, cells := 0, slots := 0, locals := 46 }
set_option maxRecDepth 100000 in
set_option maxHeartbeats 4000000 in
theorem wX10_areTwo {M : gM} {G : gG} {out : Int32} (X : gX M G zM cX10_areTwo RX10 3 wsX10_areTwo rmX10_areTwo (some .boolean)) (σ : gS) (p1 : Int32) (p2 : Int32) (hF : fX10_areTwo σ p1 p2 = some out) : WW M (gQi M G zM out σ) G zM 3 σ 0 [(0, .ref (G.2.1 0)), (1, .int p1), (2, .int p2)] [] := by
  unfold fX10_areTwo at hF
  refine ww_aload_n (pc := 0) X (j := 0) dX10_areTwo_0 rfl rfl ?_
  refine ww_iload_n (pc := 1) X (j := 1) dX10_areTwo_1 rfl rfl ?_
  obtain ⟨r2, h1, hF⟩ := bd_some hF
  refine ww_callVi (pc := 2) X (As := [.int p1]) (rest := []) dX10_areTwo_2 (kX10_isPicture (mL M) G X.2.2.2.2.2.2.1 X.2.2.2.2.2.2.2.1 σ p1 r2 h1) rfl shzM_0 clzM_10 gX10_areTwo_X10_isPicture hyX10_isPicture ⟨rfl, rfl⟩ ⟨Nat.le_of_ble_eq_true rfl, Nat.le_of_ble_eq_true rfl⟩ rfl rfl (Nat.le_of_ble_eq_true rfl) ?_
  refine ww_if_eq (pc := 5) (tgt := 25) X dX10_areTwo_5 (by decide) hF (fun h3 hF => ?_) (fun h3 hF => ?_)
  · refine ww_iconst (pc := 25) X (v := 0) dX10_areTwo_25 (by decide) ?_
    exact ww_zret (pc := 26) X dX10_areTwo_26 (by cases hF; rfl) rfl
  · refine ww_aload_n (pc := 8) X (j := 0) dX10_areTwo_8 rfl rfl ?_
    refine ww_iload_n (pc := 9) X (j := 2) dX10_areTwo_9 rfl rfl ?_
    obtain ⟨r5, h4, hF⟩ := bd_some hF
    refine ww_callVi (pc := 10) X (As := [.int p2]) (rest := []) dX10_areTwo_10 (kX10_isPicture (mL M) G X.2.2.2.2.2.2.1 X.2.2.2.2.2.2.2.1 σ p2 r5 h4) rfl shzM_0 clzM_10 gX10_areTwo_X10_isPicture hyX10_isPicture ⟨rfl, rfl⟩ ⟨Nat.le_of_ble_eq_true rfl, Nat.le_of_ble_eq_true rfl⟩ rfl rfl (Nat.le_of_ble_eq_true rfl) ?_
    refine ww_if_eq (pc := 13) (tgt := 25) X dX10_areTwo_13 (by decide) hF (fun h6 hF => ?_) (fun h6 hF => ?_)
    · refine ww_iconst (pc := 25) X (v := 0) dX10_areTwo_25 (by decide) ?_
      exact ww_zret (pc := 26) X dX10_areTwo_26 (by cases hF; rfl) rfl
    · refine ww_iload_n (pc := 16) X (j := 1) dX10_areTwo_16 rfl rfl ?_
      refine ww_iload_n (pc := 17) X (j := 2) dX10_areTwo_17 rfl rfl ?_
      refine ww_icmp_eq (pc := 18) (tgt := 25) X dX10_areTwo_18 (by decide) hF (fun h7 hF => ?_) (fun h7 hF => ?_)
      · refine ww_iconst (pc := 25) X (v := 0) dX10_areTwo_25 (by decide) ?_
        exact ww_zret (pc := 26) X dX10_areTwo_26 (by cases hF; rfl) rfl
      · refine ww_iconst (pc := 21) X (v := 1) dX10_areTwo_21 (by decide) ?_
        refine ww_goto (pc := 22) X (tgt := 26) dX10_areTwo_22 (by decide) ?_
        exact ww_zret (pc := 26) X dX10_areTwo_26 (by cases hF; rfl) rfl
set_option maxRecDepth 100000 in
set_option maxHeartbeats 4000000 in
theorem kX10_areTwo (l : Launch) (G : gG) (hG : gOK G zM.1) (hT : G.2.2.1.map (fun q => q.2) = zM.2.1) (σ : gS) (p1 : Int32) (p2 : Int32) (out : Int32) (hF : fX10_areTwo σ p1 p2 = some out) : gCi l yX10_areTwo wsX10_areTwo rmX10_areTwo G zM [.ref (G.2.1 0), .int p1, .int p2] σ out σ :=
  gEnter (by decide) rfl ⟨rfl, rfl⟩ hG hT (Nat.le_of_ble_eq_true rfl) rfl (fun M X hl => wX10_areTwo X σ p1 p2 hF)
noncomputable def bX10_tiePoints_5 (σ : gS) (c5_1 : Int32) (c5_2 : Int32) (rec5 : Int32 → Int32 → Option (Int32)) (a3 : Int32) (a4 : Int32) : Option (Int32) :=
  bd (fX10_points σ) fun r4 => (if r4 ≤ a4 then some a3 else bd (fX10_rowOf σ c5_1 a4) fun r7 => (if r7 = ((-1)) then nm (a4 + 1 : Int32) fun x9 => rec5 a3 x9 else bd (fX10_rowOf σ c5_2 a4) fun r11 => (if r11 = ((-1)) then nm (a4 + 1 : Int32) fun x13 => rec5 a3 x13 else nm (a3 + 1 : Int32) fun x14 => nm (a4 + 1 : Int32) fun x15 => rec5 x14 x15)))
noncomputable def fX10_tiePoints (σ : gS) (p1 : Int32) (p2 : Int32) : Option (Int32) :=
  nm (0 : Int32) fun x1 => nm (0 : Int32) fun x2 => lpc (S := Int32 × Int32) K9 (fun rec s => bX10_tiePoints_5 σ p1 p2 (fun a3 a4 => rec (a3, a4)) s.1 s.2) (x1, x2)
noncomputable abbrev rmX10_tiePoints : Room := { frames := 2, cells := 0, slots := 0, locals := 44 }
set_option maxRecDepth 100000 in
set_option maxHeartbeats 4000000 in
theorem wbX10_tiePoints_5 {M : gM} {G : gG} {out : Int32} (X : gX M G zM cX10_tiePoints RX10 5 wsX10_tiePoints rmX10_tiePoints (some .int)) (σ : gS) (c5_1 : Int32) (c5_2 : Int32) (rec5 : Int32 → Int32 → Option (Int32)) (ih5 : ∀ (a3 : Int32) (a4 : Int32), rec5 a3 a4 = some out → WW M (gQi M G zM out σ) G zM 5 σ 5 [(0, .ref (G.2.1 0)), (1, .int c5_1), (2, .int c5_2), (3, .int a3), (4, .int a4)] []) (a3 : Int32) (a4 : Int32) (hF : bX10_tiePoints_5 σ c5_1 c5_2 rec5 a3 a4 = some out) : WW M (gQi M G zM out σ) G zM 5 σ 5 [(0, .ref (G.2.1 0)), (1, .int c5_1), (2, .int c5_2), (3, .int a3), (4, .int a4)] [] := by
  unfold bX10_tiePoints_5 at hF
  refine ww_iload (pc := 5) X (j := 4) dX10_tiePoints_5 rfl ?_
  refine ww_aload_n (pc := 7) X (j := 0) dX10_tiePoints_7 rfl rfl ?_
  obtain ⟨r4, h3, hF⟩ := bd_some hF
  refine ww_callVi (pc := 8) X (As := []) (rest := [.int a4]) dX10_tiePoints_8 (kX10_points (mL M) G X.2.2.2.2.2.2.1 X.2.2.2.2.2.2.2.1 σ r4 h3) rfl shzM_0 clzM_10 gX10_tiePoints_X10_points hyX10_points ⟨rfl, rfl⟩ ⟨Nat.le_of_ble_eq_true rfl, Nat.le_of_ble_eq_true rfl⟩ rfl rfl (Nat.le_of_ble_eq_true rfl) ?_
  refine ww_icmp_ge (pc := 11) (tgt := 45) X dX10_tiePoints_11 (by decide) hF (fun h5 hF => ?_) (fun h5 hF => ?_)
  · refine ww_iload_n (pc := 45) X (j := 3) dX10_tiePoints_45 rfl rfl ?_
    exact ww_iret (pc := 46) X dX10_tiePoints_46 (Option.some.inj hF) rfl
  · refine ww_aload_n (pc := 14) X (j := 0) dX10_tiePoints_14 rfl rfl ?_
    refine ww_iload_n (pc := 15) X (j := 1) dX10_tiePoints_15 rfl rfl ?_
    refine ww_iload (pc := 16) X (j := 4) dX10_tiePoints_16 rfl ?_
    obtain ⟨r7, h6, hF⟩ := bd_some hF
    refine ww_callVi (pc := 18) X (As := [.int c5_1, .int a4]) (rest := []) dX10_tiePoints_18 (kX10_rowOf (mL M) G X.2.2.2.2.2.2.1 X.2.2.2.2.2.2.2.1 σ c5_1 a4 r7 h6) rfl shzM_0 clzM_10 gX10_tiePoints_X10_rowOf hyX10_rowOf ⟨rfl, rfl⟩ ⟨Nat.le_of_ble_eq_true rfl, Nat.le_of_ble_eq_true rfl⟩ rfl rfl (Nat.le_of_ble_eq_true rfl) ?_
    refine ww_iconst (pc := 21) X (v := (-1)) dX10_tiePoints_21 (by decide) ?_
    refine ww_icmp_eq (pc := 22) (tgt := 39) X dX10_tiePoints_22 (by decide) hF (fun h8 hF => ?_) (fun h8 hF => ?_)
    · refine ww_iinc (pc := 39) X (j := 4) (v := 1) (lv' := [(0, .ref (G.2.1 0)), (1, .int c5_1), (2, .int c5_2), (3, .int a3)]) dX10_tiePoints_39 rfl rfl (by decide) rfl hF (fun x9 ex9 hF => ?_)
      refine ww_goto (pc := 42) X (tgt := 5) dX10_tiePoints_42 (by decide) ?_
      exact ww_sub [1, 2, 3, 4, 0] rfl (ih5 a3 x9 hF)
    · refine ww_aload_n (pc := 25) X (j := 0) dX10_tiePoints_25 rfl rfl ?_
      refine ww_iload_n (pc := 26) X (j := 2) dX10_tiePoints_26 rfl rfl ?_
      refine ww_iload (pc := 27) X (j := 4) dX10_tiePoints_27 rfl ?_
      obtain ⟨r11, h10, hF⟩ := bd_some hF
      refine ww_callVi (pc := 29) X (As := [.int c5_2, .int a4]) (rest := []) dX10_tiePoints_29 (kX10_rowOf (mL M) G X.2.2.2.2.2.2.1 X.2.2.2.2.2.2.2.1 σ c5_2 a4 r11 h10) rfl shzM_0 clzM_10 gX10_tiePoints_X10_rowOf hyX10_rowOf ⟨rfl, rfl⟩ ⟨Nat.le_of_ble_eq_true rfl, Nat.le_of_ble_eq_true rfl⟩ rfl rfl (Nat.le_of_ble_eq_true rfl) ?_
      refine ww_iconst (pc := 32) X (v := (-1)) dX10_tiePoints_32 (by decide) ?_
      refine ww_icmp_eq (pc := 33) (tgt := 39) X dX10_tiePoints_33 (by decide) hF (fun h12 hF => ?_) (fun h12 hF => ?_)
      · refine ww_iinc (pc := 39) X (j := 4) (v := 1) (lv' := [(0, .ref (G.2.1 0)), (1, .int c5_1), (2, .int c5_2), (3, .int a3)]) dX10_tiePoints_39 rfl rfl (by decide) rfl hF (fun x13 ex13 hF => ?_)
        refine ww_goto (pc := 42) X (tgt := 5) dX10_tiePoints_42 (by decide) ?_
        exact ww_sub [1, 2, 3, 4, 0] rfl (ih5 a3 x13 hF)
      · refine ww_iinc (pc := 36) X (j := 3) (v := 1) (lv' := [(0, .ref (G.2.1 0)), (1, .int c5_1), (2, .int c5_2), (4, .int a4)]) dX10_tiePoints_36 rfl rfl (by decide) rfl hF (fun x14 ex14 hF => ?_)
        refine ww_iinc (pc := 39) X (j := 4) (v := 1) (lv' := [(3, .int x14), (0, .ref (G.2.1 0)), (1, .int c5_1), (2, .int c5_2)]) dX10_tiePoints_39 rfl rfl (by decide) rfl hF (fun x15 ex15 hF => ?_)
        refine ww_goto (pc := 42) X (tgt := 5) dX10_tiePoints_42 (by decide) ?_
        exact ww_sub [2, 3, 4, 1, 0] rfl (ih5 x14 x15 hF)
set_option maxRecDepth 100000 in
set_option maxHeartbeats 4000000 in
theorem wX10_tiePoints {M : gM} {G : gG} {out : Int32} (X : gX M G zM cX10_tiePoints RX10 5 wsX10_tiePoints rmX10_tiePoints (some .int)) (σ : gS) (p1 : Int32) (p2 : Int32) (hF : fX10_tiePoints σ p1 p2 = some out) : WW M (gQi M G zM out σ) G zM 5 σ 0 [(0, .ref (G.2.1 0)), (1, .int p1), (2, .int p2)] [] := by
  unfold fX10_tiePoints at hF
  refine ww_iconst (pc := 0) X (v := 0) dX10_tiePoints_0 (by decide) ?_
  refine ww_istore_n (pc := 1) X (lv' := [(0, .ref (G.2.1 0)), (1, .int p1), (2, .int p2)]) dX10_tiePoints_1 rfl (by decide) rfl hF (fun x1 ex1 hF => ?_)
  refine ww_iconst (pc := 2) X (v := 0) dX10_tiePoints_2 (by decide) ?_
  refine ww_istore (pc := 3) X (lv' := [(3, .int x1), (0, .ref (G.2.1 0)), (1, .int p1), (2, .int p2)]) dX10_tiePoints_3 (by decide) rfl hF (fun x2 ex2 hF => ?_)
  exact ww_sub [2, 3, 4, 1, 0] rfl (lpc_ind (P := (fun (s : Int32 × Int32) => WW M (gQi M G zM out σ) G zM 5 σ 5 [(0, .ref (G.2.1 0)), (1, .int p1), (2, .int p2), (3, .int s.1), (4, .int s.2)] [])) (fun rec s ih hF => wbX10_tiePoints_5 X σ p1 p2 (fun a3 a4 => rec (a3, a4)) (fun a3 a4 h => ih (a3, a4) h) s.1 s.2 hF) K9 (x1, x2) hF)
set_option maxRecDepth 100000 in
set_option maxHeartbeats 4000000 in
theorem kX10_tiePoints (l : Launch) (G : gG) (hG : gOK G zM.1) (hT : G.2.2.1.map (fun q => q.2) = zM.2.1) (σ : gS) (p1 : Int32) (p2 : Int32) (out : Int32) (hF : fX10_tiePoints σ p1 p2 = some out) : gCi l yX10_tiePoints wsX10_tiePoints rmX10_tiePoints G zM [.ref (G.2.1 0), .int p1, .int p2] σ out σ :=
  gEnter (by decide) rfl ⟨rfl, rfl⟩ hG hT (Nat.le_of_ble_eq_true rfl) rfl (fun M X hl => wX10_tiePoints X σ p1 p2 hF)
noncomputable def bX10_step_9 (σ : gS) (c9_1 : Int32) (c9_2 : Int32) (c9_3 : Int32) (rec9 : Int32 → Int64 → Int32 → Option (Int32)) (a4 : Int32) (a5 : Int64) (a7 : Int32) : Option (Int32) :=
  bd (fX10_points σ) fun r5 => (if r5 ≤ a7 then gd (decide (¬ a4.toInt64 = 0)) <| nm (a5 / a4.toInt64 : Int64) fun x8 => gd (decide (¬ a4.toInt64 = 0)) <| (if 0 ≤ (lrm a5 a4.toInt64) then some x8.toInt32 else some ((x8 - 1).toInt32)) else bd (fX10_rowOf σ c9_1 a7) fun r12 => nm (r12 : Int32) fun x13 => bd (fX10_rowOf σ c9_2 a7) fun r15 => nm (r15 : Int32) fun x16 => (if x13 = ((-1)) then nm (a7 + 1 : Int32) fun x18 => rec9 a4 a5 x18 else if x16 = ((-1)) then nm (a7 + 1 : Int32) fun x27 => rec9 a4 a5 x27 else bd (fX10_turned σ x13 c9_3) fun r21 => bd (fX10_turned σ x16 c9_3) fun r23 => nm (a5 + ((r21 - r23).toInt64) : Int64) fun x24 => nm (a4 + 1 : Int32) fun x25 => nm (a7 + 1 : Int32) fun x26 => rec9 x25 x24 x26))
noncomputable def fX10_step (σ : gS) (p1 : Int32) (p2 : Int32) (p3 : Int32) : Option (Int32) :=
  nm (0 : Int32) fun x1 => nm (0 : Int64) fun x2 => nm (0 : Int32) fun x3 => lpc (S := Int32 × Int64 × Int32) K9 (fun rec s => bX10_step_9 σ p1 p2 p3 (fun a4 a5 a7 => rec (a4, a5, a7)) s.1 s.2.1 s.2.2) (x1, x2, x3)
noncomputable abbrev rmX10_step : Room := { frames := 2, cells := 0, slots := 0, locals := 48 }
set_option maxRecDepth 100000 in
set_option maxHeartbeats 4000000 in
theorem wbX10_step_9 {M : gM} {G : gG} {out : Int32} (X : gX M G zM cX10_step RX10 10 wsX10_step rmX10_step (some .int)) (σ : gS) (c9_1 : Int32) (c9_2 : Int32) (c9_3 : Int32) (rec9 : Int32 → Int64 → Int32 → Option (Int32)) (ih9 : ∀ (a4 : Int32) (a5 : Int64) (a7 : Int32), rec9 a4 a5 a7 = some out → WW M (gQi M G zM out σ) G zM 10 σ 9 [(0, .ref (G.2.1 0)), (1, .int c9_1), (2, .int c9_2), (3, .int c9_3), (4, .int a4), (5, .long a5), (7, .int a7)] []) (a4 : Int32) (a5 : Int64) (a7 : Int32) (hF : bX10_step_9 σ c9_1 c9_2 c9_3 rec9 a4 a5 a7 = some out) : WW M (gQi M G zM out σ) G zM 10 σ 9 [(0, .ref (G.2.1 0)), (1, .int c9_1), (2, .int c9_2), (3, .int c9_3), (4, .int a4), (5, .long a5), (7, .int a7)] [] := by
  unfold bX10_step_9 at hF
  refine ww_iload (pc := 9) X (j := 6) dX10_step_9 rfl ?_
  refine ww_aload_n (pc := 11) X (j := 0) dX10_step_11 rfl rfl ?_
  obtain ⟨r5, h4, hF⟩ := bd_some hF
  refine ww_callVi (pc := 12) X (As := []) (rest := [.int a7]) dX10_step_12 (kX10_points (mL M) G X.2.2.2.2.2.2.1 X.2.2.2.2.2.2.2.1 σ r5 h4) rfl shzM_0 clzM_10 gX10_step_X10_points hyX10_points ⟨rfl, rfl⟩ ⟨Nat.le_of_ble_eq_true rfl, Nat.le_of_ble_eq_true rfl⟩ rfl rfl (Nat.le_of_ble_eq_true rfl) ?_
  refine ww_icmp_ge (pc := 15) (tgt := 81) X dX10_step_15 (by decide) hF (fun h6 hF => ?_) (fun h6 hF => ?_)
  · refine ww_lload (pc := 81) X (j := 5) dX10_step_81 rfl ?_
    refine ww_iload (pc := 83) X (j := 4) dX10_step_83 rfl ?_
    refine ww_i2l (pc := 85) X dX10_step_85 ?_
    refine ww_ldivG (pc := 86) X dX10_step_86 hF (fun h7 hF => ?_)
    refine ww_lstore (pc := 87) X (lv' := [(0, .ref (G.2.1 0)), (1, .int c9_1), (2, .int c9_2), (3, .int c9_3), (4, .int a4), (5, .long a5)]) dX10_step_87 (by decide) rfl hF (fun x8 ex8 hF => ?_)
    refine ww_lload (pc := 89) X (j := 6) dX10_step_89 rfl ?_
    refine ww_iload (pc := 91) X (j := 5) dX10_step_91 rfl ?_
    refine ww_i2l (pc := 93) X dX10_step_93 ?_
    refine ww_lremG (pc := 94) X dX10_step_94 hF (fun h9 hF => ?_)
    refine ww_lconst (pc := 95) X (v := 0) dX10_step_95 (by decide) ?_
    refine ww_lcmp_ge (pc := 96) (tgt := 107) X dX10_step_96 dX10_step_97 (by decide) hF (fun h10 hF => ?_) (fun h10 hF => ?_)
    · refine ww_lload (pc := 107) X (j := 0) dX10_step_107 rfl ?_
      refine ww_l2i (pc := 109) X dX10_step_109 ?_
      exact ww_iret (pc := 110) X dX10_step_110 (Option.some.inj hF) rfl
    · refine ww_lload (pc := 100) X (j := 0) dX10_step_100 rfl ?_
      refine ww_lconst (pc := 102) X (v := 1) dX10_step_102 (by decide) ?_
      refine ww_lsub (pc := 103) X dX10_step_103 ?_
      refine ww_goto (pc := 104) X (tgt := 109) dX10_step_104 (by decide) ?_
      refine ww_l2i (pc := 109) X dX10_step_109 ?_
      exact ww_iret (pc := 110) X dX10_step_110 (Option.some.inj hF) rfl
  · refine ww_aload_n (pc := 18) X (j := 0) dX10_step_18 rfl rfl ?_
    refine ww_iload_n (pc := 19) X (j := 1) dX10_step_19 rfl rfl ?_
    refine ww_iload (pc := 20) X (j := 6) dX10_step_20 rfl ?_
    obtain ⟨r12, h11, hF⟩ := bd_some hF
    refine ww_callVi (pc := 22) X (As := [.int c9_1, .int a7]) (rest := []) dX10_step_22 (kX10_rowOf (mL M) G X.2.2.2.2.2.2.1 X.2.2.2.2.2.2.2.1 σ c9_1 a7 r12 h11) rfl shzM_0 clzM_10 gX10_step_X10_rowOf hyX10_rowOf ⟨rfl, rfl⟩ ⟨Nat.le_of_ble_eq_true rfl, Nat.le_of_ble_eq_true rfl⟩ rfl rfl (Nat.le_of_ble_eq_true rfl) ?_
    refine ww_istore (pc := 25) X (lv' := [(0, .ref (G.2.1 0)), (1, .int c9_1), (2, .int c9_2), (3, .int c9_3), (4, .int a4), (5, .long a5), (7, .int a7)]) dX10_step_25 (by decide) rfl hF (fun x13 ex13 hF => ?_)
    refine ww_aload_n (pc := 27) X (j := 1) dX10_step_27 rfl rfl ?_
    refine ww_iload_n (pc := 28) X (j := 3) dX10_step_28 rfl rfl ?_
    refine ww_iload (pc := 29) X (j := 7) dX10_step_29 rfl ?_
    obtain ⟨r15, h14, hF⟩ := bd_some hF
    refine ww_callVi (pc := 31) X (As := [.int c9_2, .int a7]) (rest := []) dX10_step_31 (kX10_rowOf (mL M) G X.2.2.2.2.2.2.1 X.2.2.2.2.2.2.2.1 σ c9_2 a7 r15 h14) rfl shzM_0 clzM_10 gX10_step_X10_rowOf hyX10_rowOf ⟨rfl, rfl⟩ ⟨Nat.le_of_ble_eq_true rfl, Nat.le_of_ble_eq_true rfl⟩ rfl rfl (Nat.le_of_ble_eq_true rfl) ?_
    refine ww_istore (pc := 34) X (lv' := [(8, .int x13), (0, .ref (G.2.1 0)), (1, .int c9_1), (2, .int c9_2), (3, .int c9_3), (4, .int a4), (5, .long a5), (7, .int a7)]) dX10_step_34 (by decide) rfl hF (fun x16 ex16 hF => ?_)
    refine ww_iload (pc := 36) X (j := 1) dX10_step_36 rfl ?_
    refine ww_iconst (pc := 38) X (v := (-1)) dX10_step_38 (by decide) ?_
    refine ww_icmp_eq (pc := 39) (tgt := 75) X dX10_step_39 (by decide) hF (fun h17 hF => ?_) (fun h17 hF => ?_)
    · refine ww_iinc (pc := 75) X (j := 8) (v := 1) (lv' := [(9, .int x16), (8, .int x13), (0, .ref (G.2.1 0)), (1, .int c9_1), (2, .int c9_2), (3, .int c9_3), (4, .int a4), (5, .long a5)]) dX10_step_75 rfl rfl (by decide) rfl hF (fun x18 ex18 hF => ?_)
      refine ww_goto (pc := 78) X (tgt := 9) dX10_step_78 (by decide) ?_
      exact ww_sub [3, 4, 5, 6, 7, 8, 0] rfl (ih9 a4 a5 x18 hF)
    · refine ww_iload (pc := 42) X (j := 0) dX10_step_42 rfl ?_
      refine ww_iconst (pc := 44) X (v := (-1)) dX10_step_44 (by decide) ?_
      refine ww_icmp_ne (pc := 45) (tgt := 51) X dX10_step_45 (by decide) hF (fun h19 hF => ?_) (fun h19 hF => ?_)
      · refine ww_lload (pc := 51) X (j := 7) dX10_step_51 rfl ?_
        refine ww_aload_n (pc := 53) X (j := 2) dX10_step_53 rfl rfl ?_
        refine ww_iload (pc := 54) X (j := 1) dX10_step_54 rfl ?_
        refine ww_iload_n (pc := 56) X (j := 5) dX10_step_56 rfl rfl ?_
        obtain ⟨r21, h20, hF⟩ := bd_some hF
        refine ww_callVi (pc := 57) X (As := [.int x13, .int c9_3]) (rest := [.long a5]) dX10_step_57 (kX10_turned (mL M) G X.2.2.2.2.2.2.1 X.2.2.2.2.2.2.2.1 σ x13 c9_3 r21 h20) rfl shzM_0 clzM_10 gX10_step_X10_turned hyX10_turned ⟨rfl, rfl⟩ ⟨Nat.le_of_ble_eq_true rfl, Nat.le_of_ble_eq_true rfl⟩ rfl rfl (Nat.le_of_ble_eq_true rfl) ?_
        refine ww_aload_n (pc := 60) X (j := 2) dX10_step_60 rfl rfl ?_
        refine ww_iload (pc := 61) X (j := 0) dX10_step_61 rfl ?_
        refine ww_iload_n (pc := 63) X (j := 5) dX10_step_63 rfl rfl ?_
        obtain ⟨r23, h22, hF⟩ := bd_some hF
        refine ww_callVi (pc := 64) X (As := [.int x16, .int c9_3]) (rest := [.int r21, .long a5]) dX10_step_64 (kX10_turned (mL M) G X.2.2.2.2.2.2.1 X.2.2.2.2.2.2.2.1 σ x16 c9_3 r23 h22) rfl shzM_0 clzM_10 gX10_step_X10_turned hyX10_turned ⟨rfl, rfl⟩ ⟨Nat.le_of_ble_eq_true rfl, Nat.le_of_ble_eq_true rfl⟩ rfl rfl (Nat.le_of_ble_eq_true rfl) ?_
        refine ww_isub (pc := 67) X dX10_step_67 ?_
        refine ww_i2l (pc := 68) X dX10_step_68 ?_
        refine ww_ladd (pc := 69) X dX10_step_69 ?_
        refine ww_lstore (pc := 70) X (lv' := [(9, .int x16), (8, .int x13), (0, .ref (G.2.1 0)), (1, .int c9_1), (2, .int c9_2), (3, .int c9_3), (4, .int a4), (7, .int a7)]) dX10_step_70 (by decide) rfl hF (fun x24 ex24 hF => ?_)
        refine ww_iinc (pc := 72) X (j := 7) (v := 1) (lv' := [(5, .long x24), (9, .int x16), (8, .int x13), (0, .ref (G.2.1 0)), (1, .int c9_1), (2, .int c9_2), (3, .int c9_3), (7, .int a7)]) dX10_step_72 rfl rfl (by decide) rfl hF (fun x25 ex25 hF => ?_)
        refine ww_iinc (pc := 75) X (j := 8) (v := 1) (lv' := [(4, .int x25), (5, .long x24), (9, .int x16), (8, .int x13), (0, .ref (G.2.1 0)), (1, .int c9_1), (2, .int c9_2), (3, .int c9_3)]) dX10_step_75 rfl rfl (by decide) rfl hF (fun x26 ex26 hF => ?_)
        refine ww_goto (pc := 78) X (tgt := 9) dX10_step_78 (by decide) ?_
        exact ww_sub [5, 6, 7, 8, 1, 2, 0] rfl (ih9 x25 x24 x26 hF)
      · refine ww_goto (pc := 48) X (tgt := 75) dX10_step_48 (by decide) ?_
        refine ww_iinc (pc := 75) X (j := 8) (v := 1) (lv' := [(9, .int x16), (8, .int x13), (0, .ref (G.2.1 0)), (1, .int c9_1), (2, .int c9_2), (3, .int c9_3), (4, .int a4), (5, .long a5)]) dX10_step_75 rfl rfl (by decide) rfl hF (fun x27 ex27 hF => ?_)
        refine ww_goto (pc := 78) X (tgt := 9) dX10_step_78 (by decide) ?_
        exact ww_sub [3, 4, 5, 6, 7, 8, 0] rfl (ih9 a4 a5 x27 hF)
set_option maxRecDepth 100000 in
set_option maxHeartbeats 4000000 in
theorem wX10_step {M : gM} {G : gG} {out : Int32} (X : gX M G zM cX10_step RX10 10 wsX10_step rmX10_step (some .int)) (σ : gS) (p1 : Int32) (p2 : Int32) (p3 : Int32) (hF : fX10_step σ p1 p2 p3 = some out) : WW M (gQi M G zM out σ) G zM 10 σ 0 [(0, .ref (G.2.1 0)), (1, .int p1), (2, .int p2), (3, .int p3)] [] := by
  unfold fX10_step at hF
  refine ww_iconst (pc := 0) X (v := 0) dX10_step_0 (by decide) ?_
  refine ww_istore (pc := 1) X (lv' := [(0, .ref (G.2.1 0)), (1, .int p1), (2, .int p2), (3, .int p3)]) dX10_step_1 (by decide) rfl hF (fun x1 ex1 hF => ?_)
  refine ww_lconst (pc := 3) X (v := 0) dX10_step_3 (by decide) ?_
  refine ww_lstore (pc := 4) X (lv' := [(4, .int x1), (0, .ref (G.2.1 0)), (1, .int p1), (2, .int p2), (3, .int p3)]) dX10_step_4 (by decide) rfl hF (fun x2 ex2 hF => ?_)
  refine ww_iconst (pc := 6) X (v := 0) dX10_step_6 (by decide) ?_
  refine ww_istore (pc := 7) X (lv' := [(5, .long x2), (4, .int x1), (0, .ref (G.2.1 0)), (1, .int p1), (2, .int p2), (3, .int p3)]) dX10_step_7 (by decide) rfl hF (fun x3 ex3 hF => ?_)
  exact ww_sub [3, 4, 5, 6, 2, 1, 0] rfl (lpc_ind (P := (fun (s : Int32 × Int64 × Int32) => WW M (gQi M G zM out σ) G zM 10 σ 9 [(0, .ref (G.2.1 0)), (1, .int p1), (2, .int p2), (3, .int p3), (4, .int s.1), (5, .long s.2.1), (7, .int s.2.2)] [])) (fun rec s ih hF => wbX10_step_9 X σ p1 p2 p3 (fun a4 a5 a7 => rec (a4, a5, a7)) (fun a4 a5 a7 h => ih (a4, a5, a7) h) s.1 s.2.1 s.2.2 hF) K9 (x1, x2, x3) hF)
set_option maxRecDepth 100000 in
set_option maxHeartbeats 4000000 in
theorem kX10_step (l : Launch) (G : gG) (hG : gOK G zM.1) (hT : G.2.2.1.map (fun q => q.2) = zM.2.1) (σ : gS) (p1 : Int32) (p2 : Int32) (p3 : Int32) (out : Int32) (hF : fX10_step σ p1 p2 p3 = some out) : gCi l yX10_step wsX10_step rmX10_step G zM [.ref (G.2.1 0), .int p1, .int p2, .int p3] σ out σ :=
  gEnter (by decide) rfl ⟨rfl, rfl⟩ hG hT (Nat.le_of_ble_eq_true rfl) rfl (fun M X hl => wX10_step X σ p1 p2 p3 hF)
noncomputable def fX10_tie (σ : gS) (p1 : Int32) (p2 : Int32) (p3 : Int32) : Option (Int32) :=
  bd (fX10_areTwo σ p1 p2) fun r2 => (if r2 = 0 then some ((-1000000000)) else bd (fX10_isIn σ p3.toInt64 0 2) fun r5 => (if r5 = 0 then some ((-1000000000)) else bd (fX10_tiePoints σ p1 p2) fun r8 => nm (r8 : Int32) fun x9 => (if p3 = 0 then some x9 else if x9 = 0 then some ((-1000000000)) else bd (fX10_step σ p1 p2 (p3 - 1)) fun r13 => some r13)))
noncomputable abbrev rmX10_tie : Room := { frames := 3, cells := 0, slots := 0, locals := 77 }
set_option maxRecDepth 100000 in
set_option maxHeartbeats 4000000 in
theorem wX10_tie {M : gM} {G : gG} {out : Int32} (X : gX M G zM cX10_tie RX10 5 wsX10_tie rmX10_tie (some .int)) (σ : gS) (p1 : Int32) (p2 : Int32) (p3 : Int32) (hF : fX10_tie σ p1 p2 p3 = some out) : WW M (gQi M G zM out σ) G zM 5 σ 0 [(0, .ref (G.2.1 0)), (1, .int p1), (2, .int p2), (3, .int p3)] [] := by
  unfold fX10_tie at hF
  refine ww_aload_n (pc := 0) X (j := 0) dX10_tie_0 rfl rfl ?_
  refine ww_iload_n (pc := 1) X (j := 1) dX10_tie_1 rfl rfl ?_
  refine ww_iload_n (pc := 2) X (j := 2) dX10_tie_2 rfl rfl ?_
  obtain ⟨r2, h1, hF⟩ := bd_some hF
  refine ww_callVi (pc := 3) X (As := [.int p1, .int p2]) (rest := []) dX10_tie_3 (kX10_areTwo (mL M) G X.2.2.2.2.2.2.1 X.2.2.2.2.2.2.2.1 σ p1 p2 r2 h1) rfl shzM_0 clzM_10 gX10_tie_X10_areTwo hyX10_areTwo ⟨rfl, rfl⟩ ⟨Nat.le_of_ble_eq_true rfl, Nat.le_of_ble_eq_true rfl⟩ rfl rfl (Nat.le_of_ble_eq_true rfl) ?_
  refine ww_if_eq (pc := 6) (tgt := 21) X dX10_tie_6 (by decide) hF (fun h3 hF => ?_) (fun h3 hF => ?_)
  · refine ww_ldcw (pc := 21) X (v := (-1000000000)) (List.mem_of_getElem? (i := 2) rfl) dX10_tie_21 ?_
    exact ww_iret (pc := 24) X dX10_tie_24 (Option.some.inj hF) rfl
  · refine ww_iload_n (pc := 9) X (j := 3) dX10_tie_9 rfl rfl ?_
    refine ww_i2l (pc := 10) X dX10_tie_10 ?_
    refine ww_lconst (pc := 11) X (v := 0) dX10_tie_11 (by decide) ?_
    refine ww_ldc2 (pc := 12) X (v := 2) (List.mem_of_getElem? (i := 1) rfl) dX10_tie_12 ?_
    obtain ⟨r5, h4, hF⟩ := bd_some hF
    refine ww_callSi (pc := 15) X (As := [.long p3.toInt64, .long 0, .long 2]) (rest := []) dX10_tie_15 (kX10_isIn (mL M) G X.2.2.2.2.2.2.1 X.2.2.2.2.2.2.2.1 σ p3.toInt64 0 2 r5 h4) rfl gX10_tie_X10_isIn hyX10_isIn ⟨rfl, rfl⟩ ⟨Nat.le_of_ble_eq_true rfl, Nat.le_of_ble_eq_true rfl⟩ rfl rfl (Nat.le_of_ble_eq_true rfl) ?_
    refine ww_if_ne (pc := 18) (tgt := 25) X dX10_tie_18 (by decide) hF (fun h6 hF => ?_) (fun h6 hF => ?_)
    · refine ww_aload_n (pc := 25) X (j := 0) dX10_tie_25 rfl rfl ?_
      refine ww_iload_n (pc := 26) X (j := 1) dX10_tie_26 rfl rfl ?_
      refine ww_iload_n (pc := 27) X (j := 2) dX10_tie_27 rfl rfl ?_
      obtain ⟨r8, h7, hF⟩ := bd_some hF
      refine ww_callVi (pc := 28) X (As := [.int p1, .int p2]) (rest := []) dX10_tie_28 (kX10_tiePoints (mL M) G X.2.2.2.2.2.2.1 X.2.2.2.2.2.2.2.1 σ p1 p2 r8 h7) rfl shzM_0 clzM_10 gX10_tie_X10_tiePoints hyX10_tiePoints ⟨rfl, rfl⟩ ⟨Nat.le_of_ble_eq_true rfl, Nat.le_of_ble_eq_true rfl⟩ rfl rfl (Nat.le_of_ble_eq_true rfl) ?_
      refine ww_istore (pc := 31) X (lv' := [(0, .ref (G.2.1 0)), (1, .int p1), (2, .int p2), (3, .int p3)]) dX10_tie_31 (by decide) rfl hF (fun x9 ex9 hF => ?_)
      refine ww_iload_n (pc := 33) X (j := 4) dX10_tie_33 rfl rfl ?_
      refine ww_if_ne (pc := 34) (tgt := 40) X dX10_tie_34 (by decide) hF (fun h10 hF => ?_) (fun h10 hF => ?_)
      · refine ww_iload (pc := 40) X (j := 0) dX10_tie_40 rfl ?_
        refine ww_if_ne (pc := 42) (tgt := 51) X dX10_tie_42 (by decide) hF (fun h11 hF => ?_) (fun h11 hF => ?_)
        · refine ww_aload_n (pc := 51) X (j := 1) dX10_tie_51 rfl rfl ?_
          refine ww_iload_n (pc := 52) X (j := 2) dX10_tie_52 rfl rfl ?_
          refine ww_iload_n (pc := 53) X (j := 3) dX10_tie_53 rfl rfl ?_
          refine ww_iload_n (pc := 54) X (j := 4) dX10_tie_54 rfl rfl ?_
          refine ww_iconst (pc := 55) X (v := 1) dX10_tie_55 (by decide) ?_
          refine ww_isub (pc := 56) X dX10_tie_56 ?_
          obtain ⟨r13, h12, hF⟩ := bd_some hF
          refine ww_callVi (pc := 57) X (As := [.int p1, .int p2, .int (p3 - 1)]) (rest := []) dX10_tie_57 (kX10_step (mL M) G X.2.2.2.2.2.2.1 X.2.2.2.2.2.2.2.1 σ p1 p2 (p3 - 1) r13 h12) rfl shzM_0 clzM_10 gX10_tie_X10_step hyX10_step ⟨rfl, rfl⟩ ⟨Nat.le_of_ble_eq_true rfl, Nat.le_of_ble_eq_true rfl⟩ rfl rfl (Nat.le_of_ble_eq_true rfl) ?_
          exact ww_iret (pc := 60) X dX10_tie_60 (Option.some.inj hF) rfl
        · refine ww_ldcw (pc := 45) X (v := (-1000000000)) (List.mem_of_getElem? (i := 2) rfl) dX10_tie_45 ?_
          refine ww_goto (pc := 48) X (tgt := 60) dX10_tie_48 (by decide) ?_
          exact ww_iret (pc := 60) X dX10_tie_60 (Option.some.inj hF) rfl
      · refine ww_iload (pc := 37) X (j := 0) dX10_tie_37 rfl ?_
        exact ww_iret (pc := 39) X dX10_tie_39 (Option.some.inj hF) rfl
    · refine ww_ldcw (pc := 21) X (v := (-1000000000)) (List.mem_of_getElem? (i := 2) rfl) dX10_tie_21 ?_
      exact ww_iret (pc := 24) X dX10_tie_24 (Option.some.inj hF) rfl
set_option maxRecDepth 100000 in
set_option maxHeartbeats 4000000 in
theorem kX10_tie (l : Launch) (G : gG) (hG : gOK G zM.1) (hT : G.2.2.1.map (fun q => q.2) = zM.2.1) (σ : gS) (p1 : Int32) (p2 : Int32) (p3 : Int32) (out : Int32) (hF : fX10_tie σ p1 p2 p3 = some out) : gCi l yX10_tie wsX10_tie rmX10_tie G zM [.ref (G.2.1 0), .int p1, .int p2, .int p3] σ out σ :=
  gEnter (by decide) rfl ⟨rfl, rfl⟩ hG hT (Nat.le_of_ble_eq_true rfl) rfl (fun M X hl => wX10_tie X σ p1 p2 p3 hF)
noncomputable def fX10_isLoop (σ : gS) (p1 : Int32) (p2 : Int32) (p3 : Int32) : Option (Int32) :=
  bd (fX10_areTwo σ p1 p2) fun r2 => (if r2 = 0 then some 0 else bd (fX10_areTwo σ p2 p3) fun r5 => (if r5 = 0 then some 0 else bd (fX10_areTwo σ p3 p1) fun r8 => (if r8 = 0 then some 0 else bd (fX10_tiePoints σ p1 p2) fun r11 => (if r11 ≤ 0 then some 0 else bd (fX10_tiePoints σ p2 p3) fun r14 => (if r14 ≤ 0 then some 0 else bd (fX10_tiePoints σ p3 p1) fun r17 => (if r17 ≤ 0 then some 0 else some 1))))))
noncomputable abbrev rmX10_isLoop : Room := { frames := 3, cells := 0, slots := 0, locals := 68 }
set_option maxRecDepth 100000 in
set_option maxHeartbeats 4000000 in
theorem wX10_isLoop {M : gM} {G : gG} {out : Int32} (X : gX M G zM cX10_isLoop RX10 4 wsX10_isLoop rmX10_isLoop (some .boolean)) (σ : gS) (p1 : Int32) (p2 : Int32) (p3 : Int32) (hF : fX10_isLoop σ p1 p2 p3 = some out) : WW M (gQi M G zM out σ) G zM 4 σ 0 [(0, .ref (G.2.1 0)), (1, .int p1), (2, .int p2), (3, .int p3)] [] := by
  unfold fX10_isLoop at hF
  refine ww_aload_n (pc := 0) X (j := 0) dX10_isLoop_0 rfl rfl ?_
  refine ww_iload_n (pc := 1) X (j := 1) dX10_isLoop_1 rfl rfl ?_
  refine ww_iload_n (pc := 2) X (j := 2) dX10_isLoop_2 rfl rfl ?_
  obtain ⟨r2, h1, hF⟩ := bd_some hF
  refine ww_callVi (pc := 3) X (As := [.int p1, .int p2]) (rest := []) dX10_isLoop_3 (kX10_areTwo (mL M) G X.2.2.2.2.2.2.1 X.2.2.2.2.2.2.2.1 σ p1 p2 r2 h1) rfl shzM_0 clzM_10 gX10_isLoop_X10_areTwo hyX10_areTwo ⟨rfl, rfl⟩ ⟨Nat.le_of_ble_eq_true rfl, Nat.le_of_ble_eq_true rfl⟩ rfl rfl (Nat.le_of_ble_eq_true rfl) ?_
  refine ww_if_eq (pc := 6) (tgt := 58) X dX10_isLoop_6 (by decide) hF (fun h3 hF => ?_) (fun h3 hF => ?_)
  · refine ww_iconst (pc := 58) X (v := 0) dX10_isLoop_58 (by decide) ?_
    exact ww_zret (pc := 59) X dX10_isLoop_59 (by cases hF; rfl) rfl
  · refine ww_aload_n (pc := 9) X (j := 0) dX10_isLoop_9 rfl rfl ?_
    refine ww_iload_n (pc := 10) X (j := 2) dX10_isLoop_10 rfl rfl ?_
    refine ww_iload_n (pc := 11) X (j := 3) dX10_isLoop_11 rfl rfl ?_
    obtain ⟨r5, h4, hF⟩ := bd_some hF
    refine ww_callVi (pc := 12) X (As := [.int p2, .int p3]) (rest := []) dX10_isLoop_12 (kX10_areTwo (mL M) G X.2.2.2.2.2.2.1 X.2.2.2.2.2.2.2.1 σ p2 p3 r5 h4) rfl shzM_0 clzM_10 gX10_isLoop_X10_areTwo hyX10_areTwo ⟨rfl, rfl⟩ ⟨Nat.le_of_ble_eq_true rfl, Nat.le_of_ble_eq_true rfl⟩ rfl rfl (Nat.le_of_ble_eq_true rfl) ?_
    refine ww_if_eq (pc := 15) (tgt := 58) X dX10_isLoop_15 (by decide) hF (fun h6 hF => ?_) (fun h6 hF => ?_)
    · refine ww_iconst (pc := 58) X (v := 0) dX10_isLoop_58 (by decide) ?_
      exact ww_zret (pc := 59) X dX10_isLoop_59 (by cases hF; rfl) rfl
    · refine ww_aload_n (pc := 18) X (j := 0) dX10_isLoop_18 rfl rfl ?_
      refine ww_iload_n (pc := 19) X (j := 3) dX10_isLoop_19 rfl rfl ?_
      refine ww_iload_n (pc := 20) X (j := 1) dX10_isLoop_20 rfl rfl ?_
      obtain ⟨r8, h7, hF⟩ := bd_some hF
      refine ww_callVi (pc := 21) X (As := [.int p3, .int p1]) (rest := []) dX10_isLoop_21 (kX10_areTwo (mL M) G X.2.2.2.2.2.2.1 X.2.2.2.2.2.2.2.1 σ p3 p1 r8 h7) rfl shzM_0 clzM_10 gX10_isLoop_X10_areTwo hyX10_areTwo ⟨rfl, rfl⟩ ⟨Nat.le_of_ble_eq_true rfl, Nat.le_of_ble_eq_true rfl⟩ rfl rfl (Nat.le_of_ble_eq_true rfl) ?_
      refine ww_if_eq (pc := 24) (tgt := 58) X dX10_isLoop_24 (by decide) hF (fun h9 hF => ?_) (fun h9 hF => ?_)
      · refine ww_iconst (pc := 58) X (v := 0) dX10_isLoop_58 (by decide) ?_
        exact ww_zret (pc := 59) X dX10_isLoop_59 (by cases hF; rfl) rfl
      · refine ww_aload_n (pc := 27) X (j := 0) dX10_isLoop_27 rfl rfl ?_
        refine ww_iload_n (pc := 28) X (j := 1) dX10_isLoop_28 rfl rfl ?_
        refine ww_iload_n (pc := 29) X (j := 2) dX10_isLoop_29 rfl rfl ?_
        obtain ⟨r11, h10, hF⟩ := bd_some hF
        refine ww_callVi (pc := 30) X (As := [.int p1, .int p2]) (rest := []) dX10_isLoop_30 (kX10_tiePoints (mL M) G X.2.2.2.2.2.2.1 X.2.2.2.2.2.2.2.1 σ p1 p2 r11 h10) rfl shzM_0 clzM_10 gX10_isLoop_X10_tiePoints hyX10_tiePoints ⟨rfl, rfl⟩ ⟨Nat.le_of_ble_eq_true rfl, Nat.le_of_ble_eq_true rfl⟩ rfl rfl (Nat.le_of_ble_eq_true rfl) ?_
        refine ww_if_le (pc := 33) (tgt := 58) X dX10_isLoop_33 (by decide) hF (fun h12 hF => ?_) (fun h12 hF => ?_)
        · refine ww_iconst (pc := 58) X (v := 0) dX10_isLoop_58 (by decide) ?_
          exact ww_zret (pc := 59) X dX10_isLoop_59 (by cases hF; rfl) rfl
        · refine ww_aload_n (pc := 36) X (j := 0) dX10_isLoop_36 rfl rfl ?_
          refine ww_iload_n (pc := 37) X (j := 2) dX10_isLoop_37 rfl rfl ?_
          refine ww_iload_n (pc := 38) X (j := 3) dX10_isLoop_38 rfl rfl ?_
          obtain ⟨r14, h13, hF⟩ := bd_some hF
          refine ww_callVi (pc := 39) X (As := [.int p2, .int p3]) (rest := []) dX10_isLoop_39 (kX10_tiePoints (mL M) G X.2.2.2.2.2.2.1 X.2.2.2.2.2.2.2.1 σ p2 p3 r14 h13) rfl shzM_0 clzM_10 gX10_isLoop_X10_tiePoints hyX10_tiePoints ⟨rfl, rfl⟩ ⟨Nat.le_of_ble_eq_true rfl, Nat.le_of_ble_eq_true rfl⟩ rfl rfl (Nat.le_of_ble_eq_true rfl) ?_
          refine ww_if_le (pc := 42) (tgt := 58) X dX10_isLoop_42 (by decide) hF (fun h15 hF => ?_) (fun h15 hF => ?_)
          · refine ww_iconst (pc := 58) X (v := 0) dX10_isLoop_58 (by decide) ?_
            exact ww_zret (pc := 59) X dX10_isLoop_59 (by cases hF; rfl) rfl
          · refine ww_aload_n (pc := 45) X (j := 0) dX10_isLoop_45 rfl rfl ?_
            refine ww_iload_n (pc := 46) X (j := 3) dX10_isLoop_46 rfl rfl ?_
            refine ww_iload_n (pc := 47) X (j := 1) dX10_isLoop_47 rfl rfl ?_
            obtain ⟨r17, h16, hF⟩ := bd_some hF
            refine ww_callVi (pc := 48) X (As := [.int p3, .int p1]) (rest := []) dX10_isLoop_48 (kX10_tiePoints (mL M) G X.2.2.2.2.2.2.1 X.2.2.2.2.2.2.2.1 σ p3 p1 r17 h16) rfl shzM_0 clzM_10 gX10_isLoop_X10_tiePoints hyX10_tiePoints ⟨rfl, rfl⟩ ⟨Nat.le_of_ble_eq_true rfl, Nat.le_of_ble_eq_true rfl⟩ rfl rfl (Nat.le_of_ble_eq_true rfl) ?_
            refine ww_if_le (pc := 51) (tgt := 58) X dX10_isLoop_51 (by decide) hF (fun h18 hF => ?_) (fun h18 hF => ?_)
            · refine ww_iconst (pc := 58) X (v := 0) dX10_isLoop_58 (by decide) ?_
              exact ww_zret (pc := 59) X dX10_isLoop_59 (by cases hF; rfl) rfl
            · refine ww_iconst (pc := 54) X (v := 1) dX10_isLoop_54 (by decide) ?_
              refine ww_goto (pc := 55) X (tgt := 59) dX10_isLoop_55 (by decide) ?_
              exact ww_zret (pc := 59) X dX10_isLoop_59 (by cases hF; rfl) rfl
set_option maxRecDepth 100000 in
set_option maxHeartbeats 4000000 in
theorem kX10_isLoop (l : Launch) (G : gG) (hG : gOK G zM.1) (hT : G.2.2.1.map (fun q => q.2) = zM.2.1) (σ : gS) (p1 : Int32) (p2 : Int32) (p3 : Int32) (out : Int32) (hF : fX10_isLoop σ p1 p2 p3 = some out) : gCi l yX10_isLoop wsX10_isLoop rmX10_isLoop G zM [.ref (G.2.1 0), .int p1, .int p2, .int p3] σ out σ :=
  gEnter (by decide) rfl ⟨rfl, rfl⟩ hG hT (Nat.le_of_ble_eq_true rfl) rfl (fun M X hl => wX10_isLoop X σ p1 p2 p3 hF)
noncomputable def fX10_loopOf (σ : gS) (p1 : Int32) (p2 : Int32) (p3 : Int32) (p4 : Int32) : Option (Int32) :=
  bd (fX10_step σ p1 p2 p4) fun r2 => bd (fX10_step σ p2 p3 p4) fun r4 => bd (fX10_step σ p3 p1 p4) fun r6 => some ((r2 + r4) + r6)
noncomputable abbrev rmX10_loopOf : Room := { frames := 3, cells := 0, slots := 0, locals := 77 }
set_option maxRecDepth 100000 in
set_option maxHeartbeats 4000000 in
theorem wX10_loopOf {M : gM} {G : gG} {out : Int32} (X : gX M G zM cX10_loopOf RX10 5 wsX10_loopOf rmX10_loopOf (some .int)) (σ : gS) (p1 : Int32) (p2 : Int32) (p3 : Int32) (p4 : Int32) (hF : fX10_loopOf σ p1 p2 p3 p4 = some out) : WW M (gQi M G zM out σ) G zM 5 σ 0 [(0, .ref (G.2.1 0)), (1, .int p1), (2, .int p2), (3, .int p3), (4, .int p4)] [] := by
  unfold fX10_loopOf at hF
  refine ww_aload_n (pc := 0) X (j := 0) dX10_loopOf_0 rfl rfl ?_
  refine ww_iload_n (pc := 1) X (j := 1) dX10_loopOf_1 rfl rfl ?_
  refine ww_iload_n (pc := 2) X (j := 2) dX10_loopOf_2 rfl rfl ?_
  refine ww_iload (pc := 3) X (j := 4) dX10_loopOf_3 rfl ?_
  obtain ⟨r2, h1, hF⟩ := bd_some hF
  refine ww_callVi (pc := 5) X (As := [.int p1, .int p2, .int p4]) (rest := []) dX10_loopOf_5 (kX10_step (mL M) G X.2.2.2.2.2.2.1 X.2.2.2.2.2.2.2.1 σ p1 p2 p4 r2 h1) rfl shzM_0 clzM_10 gX10_loopOf_X10_step hyX10_step ⟨rfl, rfl⟩ ⟨Nat.le_of_ble_eq_true rfl, Nat.le_of_ble_eq_true rfl⟩ rfl rfl (Nat.le_of_ble_eq_true rfl) ?_
  refine ww_aload_n (pc := 8) X (j := 0) dX10_loopOf_8 rfl rfl ?_
  refine ww_iload_n (pc := 9) X (j := 2) dX10_loopOf_9 rfl rfl ?_
  refine ww_iload_n (pc := 10) X (j := 3) dX10_loopOf_10 rfl rfl ?_
  refine ww_iload (pc := 11) X (j := 4) dX10_loopOf_11 rfl ?_
  obtain ⟨r4, h3, hF⟩ := bd_some hF
  refine ww_callVi (pc := 13) X (As := [.int p2, .int p3, .int p4]) (rest := [.int r2]) dX10_loopOf_13 (kX10_step (mL M) G X.2.2.2.2.2.2.1 X.2.2.2.2.2.2.2.1 σ p2 p3 p4 r4 h3) rfl shzM_0 clzM_10 gX10_loopOf_X10_step hyX10_step ⟨rfl, rfl⟩ ⟨Nat.le_of_ble_eq_true rfl, Nat.le_of_ble_eq_true rfl⟩ rfl rfl (Nat.le_of_ble_eq_true rfl) ?_
  refine ww_iadd (pc := 16) X dX10_loopOf_16 ?_
  refine ww_aload_n (pc := 17) X (j := 0) dX10_loopOf_17 rfl rfl ?_
  refine ww_iload_n (pc := 18) X (j := 3) dX10_loopOf_18 rfl rfl ?_
  refine ww_iload_n (pc := 19) X (j := 1) dX10_loopOf_19 rfl rfl ?_
  refine ww_iload (pc := 20) X (j := 4) dX10_loopOf_20 rfl ?_
  obtain ⟨r6, h5, hF⟩ := bd_some hF
  refine ww_callVi (pc := 22) X (As := [.int p3, .int p1, .int p4]) (rest := [.int (r2 + r4)]) dX10_loopOf_22 (kX10_step (mL M) G X.2.2.2.2.2.2.1 X.2.2.2.2.2.2.2.1 σ p3 p1 p4 r6 h5) rfl shzM_0 clzM_10 gX10_loopOf_X10_step hyX10_step ⟨rfl, rfl⟩ ⟨Nat.le_of_ble_eq_true rfl, Nat.le_of_ble_eq_true rfl⟩ rfl rfl (Nat.le_of_ble_eq_true rfl) ?_
  refine ww_iadd (pc := 25) X dX10_loopOf_25 ?_
  exact ww_iret (pc := 26) X dX10_loopOf_26 (Option.some.inj hF) rfl
set_option maxRecDepth 100000 in
set_option maxHeartbeats 4000000 in
theorem kX10_loopOf (l : Launch) (G : gG) (hG : gOK G zM.1) (hT : G.2.2.1.map (fun q => q.2) = zM.2.1) (σ : gS) (p1 : Int32) (p2 : Int32) (p3 : Int32) (p4 : Int32) (out : Int32) (hF : fX10_loopOf σ p1 p2 p3 p4 = some out) : gCi l yX10_loopOf wsX10_loopOf rmX10_loopOf G zM [.ref (G.2.1 0), .int p1, .int p2, .int p3, .int p4] σ out σ :=
  gEnter (by decide) rfl ⟨rfl, rfl⟩ hG hT (Nat.le_of_ble_eq_true rfl) rfl (fun M X hl => wX10_loopOf X σ p1 p2 p3 p4 hF)
noncomputable def fX10_loop (σ : gS) (p1 : Int32) (p2 : Int32) (p3 : Int32) (p4 : Int32) : Option (Int32) :=
  bd (fX10_isIn σ p4.toInt64 0 1) fun r2 => (if r2 = 0 then some ((-1000000000)) else bd (fX10_isLoop σ p1 p2 p3) fun r5 => (if r5 = 0 then some ((-1000000000)) else bd (fX10_loopOf σ p1 p2 p3 p4) fun r8 => some r8))
noncomputable abbrev rmX10_loop : Room := { frames := 4, cells := 0, slots := 0, locals := 101 }
set_option maxRecDepth 100000 in
set_option maxHeartbeats 4000000 in
theorem wX10_loop {M : gM} {G : gG} {out : Int32} (X : gX M G zM cX10_loop RX10 5 wsX10_loop rmX10_loop (some .int)) (σ : gS) (p1 : Int32) (p2 : Int32) (p3 : Int32) (p4 : Int32) (hF : fX10_loop σ p1 p2 p3 p4 = some out) : WW M (gQi M G zM out σ) G zM 5 σ 0 [(0, .ref (G.2.1 0)), (1, .int p1), (2, .int p2), (3, .int p3), (4, .int p4)] [] := by
  unfold fX10_loop at hF
  refine ww_iload (pc := 0) X (j := 4) dX10_loop_0 rfl ?_
  refine ww_i2l (pc := 2) X dX10_loop_2 ?_
  refine ww_lconst (pc := 3) X (v := 0) dX10_loop_3 (by decide) ?_
  refine ww_lconst (pc := 4) X (v := 1) dX10_loop_4 (by decide) ?_
  obtain ⟨r2, h1, hF⟩ := bd_some hF
  refine ww_callSi (pc := 5) X (As := [.long p4.toInt64, .long 0, .long 1]) (rest := []) dX10_loop_5 (kX10_isIn (mL M) G X.2.2.2.2.2.2.1 X.2.2.2.2.2.2.2.1 σ p4.toInt64 0 1 r2 h1) rfl gX10_loop_X10_isIn hyX10_isIn ⟨rfl, rfl⟩ ⟨Nat.le_of_ble_eq_true rfl, Nat.le_of_ble_eq_true rfl⟩ rfl rfl (Nat.le_of_ble_eq_true rfl) ?_
  refine ww_if_eq (pc := 8) (tgt := 33) X dX10_loop_8 (by decide) hF (fun h3 hF => ?_) (fun h3 hF => ?_)
  · refine ww_ldcw (pc := 33) X (v := (-1000000000)) (List.mem_of_getElem? (i := 1) rfl) dX10_loop_33 ?_
    exact ww_iret (pc := 36) X dX10_loop_36 (Option.some.inj hF) rfl
  · refine ww_aload_n (pc := 11) X (j := 0) dX10_loop_11 rfl rfl ?_
    refine ww_iload_n (pc := 12) X (j := 1) dX10_loop_12 rfl rfl ?_
    refine ww_iload_n (pc := 13) X (j := 2) dX10_loop_13 rfl rfl ?_
    refine ww_iload_n (pc := 14) X (j := 3) dX10_loop_14 rfl rfl ?_
    obtain ⟨r5, h4, hF⟩ := bd_some hF
    refine ww_callVi (pc := 15) X (As := [.int p1, .int p2, .int p3]) (rest := []) dX10_loop_15 (kX10_isLoop (mL M) G X.2.2.2.2.2.2.1 X.2.2.2.2.2.2.2.1 σ p1 p2 p3 r5 h4) rfl shzM_0 clzM_10 gX10_loop_X10_isLoop hyX10_isLoop ⟨rfl, rfl⟩ ⟨Nat.le_of_ble_eq_true rfl, Nat.le_of_ble_eq_true rfl⟩ rfl rfl (Nat.le_of_ble_eq_true rfl) ?_
    refine ww_if_eq (pc := 18) (tgt := 33) X dX10_loop_18 (by decide) hF (fun h6 hF => ?_) (fun h6 hF => ?_)
    · refine ww_ldcw (pc := 33) X (v := (-1000000000)) (List.mem_of_getElem? (i := 1) rfl) dX10_loop_33 ?_
      exact ww_iret (pc := 36) X dX10_loop_36 (Option.some.inj hF) rfl
    · refine ww_aload_n (pc := 21) X (j := 0) dX10_loop_21 rfl rfl ?_
      refine ww_iload_n (pc := 22) X (j := 1) dX10_loop_22 rfl rfl ?_
      refine ww_iload_n (pc := 23) X (j := 2) dX10_loop_23 rfl rfl ?_
      refine ww_iload_n (pc := 24) X (j := 3) dX10_loop_24 rfl rfl ?_
      refine ww_iload (pc := 25) X (j := 4) dX10_loop_25 rfl ?_
      obtain ⟨r8, h7, hF⟩ := bd_some hF
      refine ww_callVi (pc := 27) X (As := [.int p1, .int p2, .int p3, .int p4]) (rest := []) dX10_loop_27 (kX10_loopOf (mL M) G X.2.2.2.2.2.2.1 X.2.2.2.2.2.2.2.1 σ p1 p2 p3 p4 r8 h7) rfl shzM_0 clzM_10 gX10_loop_X10_loopOf hyX10_loopOf ⟨rfl, rfl⟩ ⟨Nat.le_of_ble_eq_true rfl, Nat.le_of_ble_eq_true rfl⟩ rfl rfl (Nat.le_of_ble_eq_true rfl) ?_
      refine ww_goto (pc := 30) X (tgt := 36) dX10_loop_30 (by decide) ?_
      exact ww_iret (pc := 36) X dX10_loop_36 (Option.some.inj hF) rfl
set_option maxRecDepth 100000 in
set_option maxHeartbeats 4000000 in
theorem kX10_loop (l : Launch) (G : gG) (hG : gOK G zM.1) (hT : G.2.2.1.map (fun q => q.2) = zM.2.1) (σ : gS) (p1 : Int32) (p2 : Int32) (p3 : Int32) (p4 : Int32) (out : Int32) (hF : fX10_loop σ p1 p2 p3 p4 = some out) : gCi l yX10_loop wsX10_loop rmX10_loop G zM [.ref (G.2.1 0), .int p1, .int p2, .int p3, .int p4] σ out σ :=
  gEnter (by decide) rfl ⟨rfl, rfl⟩ hG hT (Nat.le_of_ble_eq_true rfl) rfl (fun M X hl => wX10_loop X σ p1 p2 p3 p4 hF)
noncomputable def bX10_gap_51 (σ : gS) (c21_1 : Int32) (c36_5 : Int32) (c51_6 : Int32) (rec21 : Int32 → Int64 → Int32 → Option (Int32)) (rec36 : Int32 → Int64 → Int32 → Option (Int32)) (rec51 : Int32 → Int64 → Int32 → Option (Int32)) (a2 : Int32) (a3 : Int64) (a7 : Int32) : Option (Int32) :=
  bd (fX10_pictures σ) fun r18 => (if r18 ≤ a7 then nm (c51_6 + 1 : Int32) fun x20 => rec36 a2 a3 x20 else bd (fX10_isLoop σ c36_5 c51_6 a7) fun r22 => (if r22 = 0 then nm (a7 + 1 : Int32) fun x38 => rec51 a2 a3 x38 else bd (fX10_loopOf σ c36_5 c51_6 a7 0) fun r25 => bd (fX10_apart σ r25.toInt64 0) fun r27 => bd (fX10_loopOf σ c36_5 c51_6 a7 1) fun r29 => bd (fX10_apart σ r29.toInt64 0) fun r31 => nm (r27 + r31 : Int64) fun x32 => (if a3 < x32 then nm (((10000 * c36_5) + (100 * c51_6)) + a7 : Int32) fun x34 => nm (x32 : Int64) fun x35 => nm (a7 + 1 : Int32) fun x36 => rec51 x34 x35 x36 else nm (a7 + 1 : Int32) fun x37 => rec51 a2 a3 x37)))
noncomputable def bX10_gap_36 (σ : gS) (c21_1 : Int32) (c36_5 : Int32) (rec21 : Int32 → Int64 → Int32 → Option (Int32)) (rec36 : Int32 → Int64 → Int32 → Option (Int32)) (a2 : Int32) (a3 : Int64) (a6 : Int32) : Option (Int32) :=
  bd (fX10_pictures σ) fun r13 => (if r13 ≤ a6 then nm (c36_5 + 1 : Int32) fun x15 => rec21 a2 a3 x15 else nm (a6 + 1 : Int32) fun x16 => lpc (S := Int32 × Int64 × Int32) K9 (fun rec s => bX10_gap_51 σ c21_1 c36_5 a6 rec21 rec36 (fun a2 a3 a7 => rec (a2, a3, a7)) s.1 s.2.1 s.2.2) (a2, a3, x16))
noncomputable def bX10_gap_21 (σ : gS) (c21_1 : Int32) (rec21 : Int32 → Int64 → Int32 → Option (Int32)) (a2 : Int32) (a3 : Int64) (a5 : Int32) : Option (Int32) :=
  bd (fX10_pictures σ) fun r8 => (if r8 ≤ a5 then if c21_1 = 0 then some a2 else some a3.toInt32 else nm (a5 + 1 : Int32) fun x11 => lpc (S := Int32 × Int64 × Int32) K9 (fun rec s => bX10_gap_36 σ c21_1 a5 rec21 (fun a2 a3 a6 => rec (a2, a3, a6)) s.1 s.2.1 s.2.2) (a2, a3, x11))
noncomputable def fX10_gap (σ : gS) (p1 : Int32) : Option (Int32) :=
  bd (fX10_isIn σ p1.toInt64 0 1) fun r2 => (if r2 = 0 then some ((-1)) else nm ((-1) : Int32) fun x4 => nm ((-1) : Int64) fun x5 => nm (0 : Int32) fun x6 => lpc (S := Int32 × Int64 × Int32) K9 (fun rec s => bX10_gap_21 σ p1 (fun a2 a3 a5 => rec (a2, a3, a5)) s.1 s.2.1 s.2.2) (x4, x5, x6))
noncomputable abbrev rmX10_gap : Room := { frames := 4, cells := 0, slots := 0, locals := 101 }
set_option maxRecDepth 100000 in
set_option maxHeartbeats 4000000 in
theorem wbX10_gap_51 {M : gM} {G : gG} {out : Int32} (X : gX M G zM cX10_gap RX10 10 wsX10_gap rmX10_gap (some .int)) (σ : gS) (c21_1 : Int32) (c36_5 : Int32) (c51_6 : Int32) (rec21 : Int32 → Int64 → Int32 → Option (Int32)) (rec36 : Int32 → Int64 → Int32 → Option (Int32)) (ih21 : ∀ (a2 : Int32) (a3 : Int64) (a5 : Int32), rec21 a2 a3 a5 = some out → WW M (gQi M G zM out σ) G zM 10 σ 21 [(0, .ref (G.2.1 0)), (1, .int c21_1), (2, .int a2), (3, .long a3), (5, .int a5)] []) (ih36 : ∀ (a2 : Int32) (a3 : Int64) (a6 : Int32), rec36 a2 a3 a6 = some out → WW M (gQi M G zM out σ) G zM 10 σ 36 [(0, .ref (G.2.1 0)), (1, .int c21_1), (2, .int a2), (3, .long a3), (5, .int c36_5), (6, .int a6)] []) (rec51 : Int32 → Int64 → Int32 → Option (Int32)) (ih51 : ∀ (a2 : Int32) (a3 : Int64) (a7 : Int32), rec51 a2 a3 a7 = some out → WW M (gQi M G zM out σ) G zM 10 σ 51 [(0, .ref (G.2.1 0)), (1, .int c21_1), (2, .int a2), (3, .long a3), (5, .int c36_5), (6, .int c51_6), (7, .int a7)] []) (a2 : Int32) (a3 : Int64) (a7 : Int32) (hF : bX10_gap_51 σ c21_1 c36_5 c51_6 rec21 rec36 rec51 a2 a3 a7 = some out) : WW M (gQi M G zM out σ) G zM 10 σ 51 [(0, .ref (G.2.1 0)), (1, .int c21_1), (2, .int a2), (3, .long a3), (5, .int c36_5), (6, .int c51_6), (7, .int a7)] [] := by
  unfold bX10_gap_51 at hF
  refine ww_iload (pc := 51) X (j := 6) dX10_gap_51 rfl ?_
  refine ww_aload_n (pc := 53) X (j := 0) dX10_gap_53 rfl rfl ?_
  obtain ⟨r18, h17, hF⟩ := bd_some hF
  refine ww_callVi (pc := 54) X (As := []) (rest := [.int a7]) dX10_gap_54 (kX10_pictures (mL M) G X.2.2.2.2.2.2.1 X.2.2.2.2.2.2.2.1 σ r18 h17) rfl shzM_0 clzM_10 gX10_gap_X10_pictures hyX10_pictures ⟨rfl, rfl⟩ ⟨Nat.le_of_ble_eq_true rfl, Nat.le_of_ble_eq_true rfl⟩ rfl rfl (Nat.le_of_ble_eq_true rfl) ?_
  refine ww_icmp_ge (pc := 57) (tgt := 146) X dX10_gap_57 (by decide) hF (fun h19 hF => ?_) (fun h19 hF => ?_)
  · refine ww_iinc (pc := 146) X (j := 5) (v := 1) (lv' := [(0, .ref (G.2.1 0)), (1, .int c21_1), (2, .int a2), (3, .long a3), (5, .int c36_5), (7, .int a7)]) dX10_gap_146 rfl rfl (by decide) rfl hF (fun x20 ex20 hF => ?_)
    refine ww_goto (pc := 149) X (tgt := 36) dX10_gap_149 (by decide) ?_
    exact ww_sub [1, 2, 3, 4, 5, 0] rfl (ih36 a2 a3 x20 hF)
  · refine ww_aload_n (pc := 60) X (j := 0) dX10_gap_60 rfl rfl ?_
    refine ww_iload (pc := 61) X (j := 4) dX10_gap_61 rfl ?_
    refine ww_iload (pc := 63) X (j := 5) dX10_gap_63 rfl ?_
    refine ww_iload (pc := 65) X (j := 6) dX10_gap_65 rfl ?_
    obtain ⟨r22, h21, hF⟩ := bd_some hF
    refine ww_callVi (pc := 67) X (As := [.int c36_5, .int c51_6, .int a7]) (rest := []) dX10_gap_67 (kX10_isLoop (mL M) G X.2.2.2.2.2.2.1 X.2.2.2.2.2.2.2.1 σ c36_5 c51_6 a7 r22 h21) rfl shzM_0 clzM_10 gX10_gap_X10_isLoop hyX10_isLoop ⟨rfl, rfl⟩ ⟨Nat.le_of_ble_eq_true rfl, Nat.le_of_ble_eq_true rfl⟩ rfl rfl (Nat.le_of_ble_eq_true rfl) ?_
    refine ww_if_ne (pc := 70) (tgt := 76) X dX10_gap_70 (by decide) hF (fun h23 hF => ?_) (fun h23 hF => ?_)
    · refine ww_aload_n (pc := 76) X (j := 0) dX10_gap_76 rfl rfl ?_
      refine ww_iload (pc := 77) X (j := 4) dX10_gap_77 rfl ?_
      refine ww_iload (pc := 79) X (j := 5) dX10_gap_79 rfl ?_
      refine ww_iload (pc := 81) X (j := 6) dX10_gap_81 rfl ?_
      refine ww_iconst (pc := 83) X (v := 0) dX10_gap_83 (by decide) ?_
      obtain ⟨r25, h24, hF⟩ := bd_some hF
      refine ww_callVi (pc := 84) X (As := [.int c36_5, .int c51_6, .int a7, .int 0]) (rest := []) dX10_gap_84 (kX10_loopOf (mL M) G X.2.2.2.2.2.2.1 X.2.2.2.2.2.2.2.1 σ c36_5 c51_6 a7 0 r25 h24) rfl shzM_0 clzM_10 gX10_gap_X10_loopOf hyX10_loopOf ⟨rfl, rfl⟩ ⟨Nat.le_of_ble_eq_true rfl, Nat.le_of_ble_eq_true rfl⟩ rfl rfl (Nat.le_of_ble_eq_true rfl) ?_
      refine ww_i2l (pc := 87) X dX10_gap_87 ?_
      refine ww_lconst (pc := 88) X (v := 0) dX10_gap_88 (by decide) ?_
      obtain ⟨r27, h26, hF⟩ := bd_some hF
      refine ww_callSl (pc := 89) X (As := [.long r25.toInt64, .long 0]) (rest := []) dX10_gap_89 (kX10_apart (mL M) G X.2.2.2.2.2.2.1 X.2.2.2.2.2.2.2.1 σ r25.toInt64 0 r27 h26) rfl gX10_gap_X10_apart hyX10_apart ⟨rfl, rfl⟩ ⟨Nat.le_of_ble_eq_true rfl, Nat.le_of_ble_eq_true rfl⟩ rfl rfl (Nat.le_of_ble_eq_true rfl) ?_
      refine ww_aload_n (pc := 92) X (j := 0) dX10_gap_92 rfl rfl ?_
      refine ww_iload (pc := 93) X (j := 4) dX10_gap_93 rfl ?_
      refine ww_iload (pc := 95) X (j := 5) dX10_gap_95 rfl ?_
      refine ww_iload (pc := 97) X (j := 6) dX10_gap_97 rfl ?_
      refine ww_iconst (pc := 99) X (v := 1) dX10_gap_99 (by decide) ?_
      obtain ⟨r29, h28, hF⟩ := bd_some hF
      refine ww_callVi (pc := 100) X (As := [.int c36_5, .int c51_6, .int a7, .int 1]) (rest := [.long r27]) dX10_gap_100 (kX10_loopOf (mL M) G X.2.2.2.2.2.2.1 X.2.2.2.2.2.2.2.1 σ c36_5 c51_6 a7 1 r29 h28) rfl shzM_0 clzM_10 gX10_gap_X10_loopOf hyX10_loopOf ⟨rfl, rfl⟩ ⟨Nat.le_of_ble_eq_true rfl, Nat.le_of_ble_eq_true rfl⟩ rfl rfl (Nat.le_of_ble_eq_true rfl) ?_
      refine ww_i2l (pc := 103) X dX10_gap_103 ?_
      refine ww_lconst (pc := 104) X (v := 0) dX10_gap_104 (by decide) ?_
      obtain ⟨r31, h30, hF⟩ := bd_some hF
      refine ww_callSl (pc := 105) X (As := [.long r29.toInt64, .long 0]) (rest := [.long r27]) dX10_gap_105 (kX10_apart (mL M) G X.2.2.2.2.2.2.1 X.2.2.2.2.2.2.2.1 σ r29.toInt64 0 r31 h30) rfl gX10_gap_X10_apart hyX10_apart ⟨rfl, rfl⟩ ⟨Nat.le_of_ble_eq_true rfl, Nat.le_of_ble_eq_true rfl⟩ rfl rfl (Nat.le_of_ble_eq_true rfl) ?_
      refine ww_ladd (pc := 108) X dX10_gap_108 ?_
      refine ww_lstore (pc := 109) X (lv' := [(0, .ref (G.2.1 0)), (1, .int c21_1), (2, .int a2), (3, .long a3), (5, .int c36_5), (6, .int c51_6), (7, .int a7)]) dX10_gap_109 (by decide) rfl hF (fun x32 ex32 hF => ?_)
      refine ww_lload (pc := 111) X (j := 0) dX10_gap_111 rfl ?_
      refine ww_lload_n (pc := 113) X (j := 4) dX10_gap_113 rfl rfl ?_
      refine ww_lcmp_gt (pc := 114) (tgt := 121) X dX10_gap_114 dX10_gap_115 (by decide) hF (fun h33 hF => ?_) (fun h33 hF => ?_)
      · refine ww_sipush (pc := 121) X (v := 10000) dX10_gap_121 (by decide) ?_
        refine ww_iload (pc := 124) X (j := 5) dX10_gap_124 rfl ?_
        refine ww_imul (pc := 126) X dX10_gap_126 ?_
        refine ww_bipush (pc := 127) X (v := 100) dX10_gap_127 (by decide) ?_
        refine ww_iload (pc := 129) X (j := 6) dX10_gap_129 rfl ?_
        refine ww_imul (pc := 131) X dX10_gap_131 ?_
        refine ww_iadd (pc := 132) X dX10_gap_132 ?_
        refine ww_iload (pc := 133) X (j := 7) dX10_gap_133 rfl ?_
        refine ww_iadd (pc := 135) X dX10_gap_135 ?_
        refine ww_istore_n (pc := 136) X (lv' := [(8, .long x32), (0, .ref (G.2.1 0)), (1, .int c21_1), (3, .long a3), (5, .int c36_5), (6, .int c51_6), (7, .int a7)]) dX10_gap_136 rfl (by decide) rfl hF (fun x34 ex34 hF => ?_)
        refine ww_lload (pc := 137) X (j := 1) dX10_gap_137 rfl ?_
        refine ww_lstore_n (pc := 139) X (lv' := [(2, .int x34), (8, .long x32), (0, .ref (G.2.1 0)), (1, .int c21_1), (5, .int c36_5), (6, .int c51_6), (7, .int a7)]) dX10_gap_139 rfl (by decide) rfl hF (fun x35 ex35 hF => ?_)
        refine ww_iinc (pc := 140) X (j := 7) (v := 1) (lv' := [(3, .long x35), (2, .int x34), (8, .long x32), (0, .ref (G.2.1 0)), (1, .int c21_1), (5, .int c36_5), (6, .int c51_6)]) dX10_gap_140 rfl rfl (by decide) rfl hF (fun x36 ex36 hF => ?_)
        refine ww_goto (pc := 143) X (tgt := 51) dX10_gap_143 (by decide) ?_
        exact ww_sub [4, 5, 2, 1, 6, 7, 0] rfl (ih51 x34 x35 x36 hF)
      · refine ww_goto (pc := 118) X (tgt := 140) dX10_gap_118 (by decide) ?_
        refine ww_iinc (pc := 140) X (j := 7) (v := 1) (lv' := [(8, .long x32), (0, .ref (G.2.1 0)), (1, .int c21_1), (2, .int a2), (3, .long a3), (5, .int c36_5), (6, .int c51_6)]) dX10_gap_140 rfl rfl (by decide) rfl hF (fun x37 ex37 hF => ?_)
        refine ww_goto (pc := 143) X (tgt := 51) dX10_gap_143 (by decide) ?_
        exact ww_sub [2, 3, 4, 5, 6, 7, 0] rfl (ih51 a2 a3 x37 hF)
    · refine ww_goto (pc := 73) X (tgt := 140) dX10_gap_73 (by decide) ?_
      refine ww_iinc (pc := 140) X (j := 6) (v := 1) (lv' := [(0, .ref (G.2.1 0)), (1, .int c21_1), (2, .int a2), (3, .long a3), (5, .int c36_5), (6, .int c51_6)]) dX10_gap_140 rfl rfl (by decide) rfl hF (fun x38 ex38 hF => ?_)
      refine ww_goto (pc := 143) X (tgt := 51) dX10_gap_143 (by decide) ?_
      exact ww_sub [1, 2, 3, 4, 5, 6, 0] rfl (ih51 a2 a3 x38 hF)
set_option maxRecDepth 100000 in
set_option maxHeartbeats 4000000 in
theorem wbX10_gap_36 {M : gM} {G : gG} {out : Int32} (X : gX M G zM cX10_gap RX10 10 wsX10_gap rmX10_gap (some .int)) (σ : gS) (c21_1 : Int32) (c36_5 : Int32) (rec21 : Int32 → Int64 → Int32 → Option (Int32)) (ih21 : ∀ (a2 : Int32) (a3 : Int64) (a5 : Int32), rec21 a2 a3 a5 = some out → WW M (gQi M G zM out σ) G zM 10 σ 21 [(0, .ref (G.2.1 0)), (1, .int c21_1), (2, .int a2), (3, .long a3), (5, .int a5)] []) (rec36 : Int32 → Int64 → Int32 → Option (Int32)) (ih36 : ∀ (a2 : Int32) (a3 : Int64) (a6 : Int32), rec36 a2 a3 a6 = some out → WW M (gQi M G zM out σ) G zM 10 σ 36 [(0, .ref (G.2.1 0)), (1, .int c21_1), (2, .int a2), (3, .long a3), (5, .int c36_5), (6, .int a6)] []) (a2 : Int32) (a3 : Int64) (a6 : Int32) (hF : bX10_gap_36 σ c21_1 c36_5 rec21 rec36 a2 a3 a6 = some out) : WW M (gQi M G zM out σ) G zM 10 σ 36 [(0, .ref (G.2.1 0)), (1, .int c21_1), (2, .int a2), (3, .long a3), (5, .int c36_5), (6, .int a6)] [] := by
  unfold bX10_gap_36 at hF
  refine ww_iload (pc := 36) X (j := 5) dX10_gap_36 rfl ?_
  refine ww_aload_n (pc := 38) X (j := 0) dX10_gap_38 rfl rfl ?_
  obtain ⟨r13, h12, hF⟩ := bd_some hF
  refine ww_callVi (pc := 39) X (As := []) (rest := [.int a6]) dX10_gap_39 (kX10_pictures (mL M) G X.2.2.2.2.2.2.1 X.2.2.2.2.2.2.2.1 σ r13 h12) rfl shzM_0 clzM_10 gX10_gap_X10_pictures hyX10_pictures ⟨rfl, rfl⟩ ⟨Nat.le_of_ble_eq_true rfl, Nat.le_of_ble_eq_true rfl⟩ rfl rfl (Nat.le_of_ble_eq_true rfl) ?_
  refine ww_icmp_ge (pc := 42) (tgt := 152) X dX10_gap_42 (by decide) hF (fun h14 hF => ?_) (fun h14 hF => ?_)
  · refine ww_iinc (pc := 152) X (j := 4) (v := 1) (lv' := [(0, .ref (G.2.1 0)), (1, .int c21_1), (2, .int a2), (3, .long a3), (6, .int a6)]) dX10_gap_152 rfl rfl (by decide) rfl hF (fun x15 ex15 hF => ?_)
    refine ww_goto (pc := 155) X (tgt := 21) dX10_gap_155 (by decide) ?_
    exact ww_sub [1, 2, 3, 4, 0] rfl (ih21 a2 a3 x15 hF)
  · refine ww_iload (pc := 45) X (j := 5) dX10_gap_45 rfl ?_
    refine ww_iconst (pc := 47) X (v := 1) dX10_gap_47 (by decide) ?_
    refine ww_iadd (pc := 48) X dX10_gap_48 ?_
    refine ww_istore (pc := 49) X (lv' := [(0, .ref (G.2.1 0)), (1, .int c21_1), (2, .int a2), (3, .long a3), (5, .int c36_5), (6, .int a6)]) dX10_gap_49 (by decide) rfl hF (fun x16 ex16 hF => ?_)
    exact ww_sub [1, 2, 3, 4, 5, 6, 0] rfl (lpc_ind (P := (fun (s : Int32 × Int64 × Int32) => WW M (gQi M G zM out σ) G zM 10 σ 51 [(0, .ref (G.2.1 0)), (1, .int c21_1), (2, .int s.1), (3, .long s.2.1), (5, .int c36_5), (6, .int a6), (7, .int s.2.2)] [])) (fun rec s ih hF => wbX10_gap_51 X σ c21_1 c36_5 a6 rec21  rec36  ih21 ih36 (fun a2 a3 a7 => rec (a2, a3, a7)) (fun a2 a3 a7 h => ih (a2, a3, a7) h) s.1 s.2.1 s.2.2 hF) K9 (a2, a3, x16) hF)
set_option maxRecDepth 100000 in
set_option maxHeartbeats 4000000 in
theorem wbX10_gap_21 {M : gM} {G : gG} {out : Int32} (X : gX M G zM cX10_gap RX10 10 wsX10_gap rmX10_gap (some .int)) (σ : gS) (c21_1 : Int32) (rec21 : Int32 → Int64 → Int32 → Option (Int32)) (ih21 : ∀ (a2 : Int32) (a3 : Int64) (a5 : Int32), rec21 a2 a3 a5 = some out → WW M (gQi M G zM out σ) G zM 10 σ 21 [(0, .ref (G.2.1 0)), (1, .int c21_1), (2, .int a2), (3, .long a3), (5, .int a5)] []) (a2 : Int32) (a3 : Int64) (a5 : Int32) (hF : bX10_gap_21 σ c21_1 rec21 a2 a3 a5 = some out) : WW M (gQi M G zM out σ) G zM 10 σ 21 [(0, .ref (G.2.1 0)), (1, .int c21_1), (2, .int a2), (3, .long a3), (5, .int a5)] [] := by
  unfold bX10_gap_21 at hF
  refine ww_iload (pc := 21) X (j := 4) dX10_gap_21 rfl ?_
  refine ww_aload_n (pc := 23) X (j := 0) dX10_gap_23 rfl rfl ?_
  obtain ⟨r8, h7, hF⟩ := bd_some hF
  refine ww_callVi (pc := 24) X (As := []) (rest := [.int a5]) dX10_gap_24 (kX10_pictures (mL M) G X.2.2.2.2.2.2.1 X.2.2.2.2.2.2.2.1 σ r8 h7) rfl shzM_0 clzM_10 gX10_gap_X10_pictures hyX10_pictures ⟨rfl, rfl⟩ ⟨Nat.le_of_ble_eq_true rfl, Nat.le_of_ble_eq_true rfl⟩ rfl rfl (Nat.le_of_ble_eq_true rfl) ?_
  refine ww_icmp_ge (pc := 27) (tgt := 158) X dX10_gap_27 (by decide) hF (fun h9 hF => ?_) (fun h9 hF => ?_)
  · refine ww_iload_n (pc := 158) X (j := 1) dX10_gap_158 rfl rfl ?_
    refine ww_if_ne (pc := 159) (tgt := 166) X dX10_gap_159 (by decide) hF (fun h10 hF => ?_) (fun h10 hF => ?_)
    · refine ww_lload_n (pc := 166) X (j := 3) dX10_gap_166 rfl rfl ?_
      refine ww_l2i (pc := 167) X dX10_gap_167 ?_
      exact ww_iret (pc := 168) X dX10_gap_168 (Option.some.inj hF) rfl
    · refine ww_iload_n (pc := 162) X (j := 2) dX10_gap_162 rfl rfl ?_
      refine ww_goto (pc := 163) X (tgt := 168) dX10_gap_163 (by decide) ?_
      exact ww_iret (pc := 168) X dX10_gap_168 (Option.some.inj hF) rfl
  · refine ww_iload (pc := 30) X (j := 4) dX10_gap_30 rfl ?_
    refine ww_iconst (pc := 32) X (v := 1) dX10_gap_32 (by decide) ?_
    refine ww_iadd (pc := 33) X dX10_gap_33 ?_
    refine ww_istore (pc := 34) X (lv' := [(0, .ref (G.2.1 0)), (1, .int c21_1), (2, .int a2), (3, .long a3), (5, .int a5)]) dX10_gap_34 (by decide) rfl hF (fun x11 ex11 hF => ?_)
    exact ww_sub [1, 2, 3, 4, 5, 0] rfl (lpc_ind (P := (fun (s : Int32 × Int64 × Int32) => WW M (gQi M G zM out σ) G zM 10 σ 36 [(0, .ref (G.2.1 0)), (1, .int c21_1), (2, .int s.1), (3, .long s.2.1), (5, .int a5), (6, .int s.2.2)] [])) (fun rec s ih hF => wbX10_gap_36 X σ c21_1 a5 rec21  ih21 (fun a2 a3 a6 => rec (a2, a3, a6)) (fun a2 a3 a6 h => ih (a2, a3, a6) h) s.1 s.2.1 s.2.2 hF) K9 (a2, a3, x11) hF)
set_option maxRecDepth 100000 in
set_option maxHeartbeats 4000000 in
theorem wX10_gap {M : gM} {G : gG} {out : Int32} (X : gX M G zM cX10_gap RX10 10 wsX10_gap rmX10_gap (some .int)) (σ : gS) (p1 : Int32) (hF : fX10_gap σ p1 = some out) : WW M (gQi M G zM out σ) G zM 10 σ 0 [(0, .ref (G.2.1 0)), (1, .int p1)] [] := by
  unfold fX10_gap at hF
  refine ww_iload_n (pc := 0) X (j := 1) dX10_gap_0 rfl rfl ?_
  refine ww_i2l (pc := 1) X dX10_gap_1 ?_
  refine ww_lconst (pc := 2) X (v := 0) dX10_gap_2 (by decide) ?_
  refine ww_lconst (pc := 3) X (v := 1) dX10_gap_3 (by decide) ?_
  obtain ⟨r2, h1, hF⟩ := bd_some hF
  refine ww_callSi (pc := 4) X (As := [.long p1.toInt64, .long 0, .long 1]) (rest := []) dX10_gap_4 (kX10_isIn (mL M) G X.2.2.2.2.2.2.1 X.2.2.2.2.2.2.2.1 σ p1.toInt64 0 1 r2 h1) rfl gX10_gap_X10_isIn hyX10_isIn ⟨rfl, rfl⟩ ⟨Nat.le_of_ble_eq_true rfl, Nat.le_of_ble_eq_true rfl⟩ rfl rfl (Nat.le_of_ble_eq_true rfl) ?_
  refine ww_if_ne (pc := 7) (tgt := 12) X dX10_gap_7 (by decide) hF (fun h3 hF => ?_) (fun h3 hF => ?_)
  · refine ww_iconst (pc := 12) X (v := (-1)) dX10_gap_12 (by decide) ?_
    refine ww_istore_n (pc := 13) X (lv' := [(0, .ref (G.2.1 0)), (1, .int p1)]) dX10_gap_13 rfl (by decide) rfl hF (fun x4 ex4 hF => ?_)
    refine ww_ldc2 (pc := 14) X (v := (-1)) (List.mem_of_getElem? (i := 1) rfl) dX10_gap_14 ?_
    refine ww_lstore_n (pc := 17) X (lv' := [(2, .int x4), (0, .ref (G.2.1 0)), (1, .int p1)]) dX10_gap_17 rfl (by decide) rfl hF (fun x5 ex5 hF => ?_)
    refine ww_iconst (pc := 18) X (v := 0) dX10_gap_18 (by decide) ?_
    refine ww_istore (pc := 19) X (lv' := [(3, .long x5), (2, .int x4), (0, .ref (G.2.1 0)), (1, .int p1)]) dX10_gap_19 (by decide) rfl hF (fun x6 ex6 hF => ?_)
    exact ww_sub [3, 4, 2, 1, 0] rfl (lpc_ind (P := (fun (s : Int32 × Int64 × Int32) => WW M (gQi M G zM out σ) G zM 10 σ 21 [(0, .ref (G.2.1 0)), (1, .int p1), (2, .int s.1), (3, .long s.2.1), (5, .int s.2.2)] [])) (fun rec s ih hF => wbX10_gap_21 X σ p1 (fun a2 a3 a5 => rec (a2, a3, a5)) (fun a2 a3 a5 h => ih (a2, a3, a5) h) s.1 s.2.1 s.2.2 hF) K9 (x4, x5, x6) hF)
  · refine ww_iconst (pc := 10) X (v := (-1)) dX10_gap_10 (by decide) ?_
    exact ww_iret (pc := 11) X dX10_gap_11 (Option.some.inj hF) rfl
set_option maxRecDepth 100000 in
set_option maxHeartbeats 4000000 in
theorem kX10_gap (l : Launch) (G : gG) (hG : gOK G zM.1) (hT : G.2.2.1.map (fun q => q.2) = zM.2.1) (σ : gS) (p1 : Int32) (out : Int32) (hF : fX10_gap σ p1 = some out) : gCi l yX10_gap wsX10_gap rmX10_gap G zM [.ref (G.2.1 0), .int p1] σ out σ :=
  gEnter (by decide) rfl ⟨rfl, rfl⟩ hG hT (Nat.le_of_ble_eq_true rfl) rfl (fun M X hl => wX10_gap X σ p1 hF)
