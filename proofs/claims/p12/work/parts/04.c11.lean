noncomputable def jX4_inverse_36 (σ : gS) (rec10 : Int64 → Int64 → Int64 → Option (Int64)) (a2 : Int64) (a4 : Int64) (a6 : Int64) : Option (Int64) :=
  nm (lrm (a2 * a2) 1000003 : Int64) fun x6 => nm (a6 >>> ((1 : Int32).toInt64 &&& 63) : Int64) fun x7 => rec10 x6 a4 x7
noncomputable def bX4_inverse_10 (σ : gS) (rec10 : Int64 → Int64 → Int64 → Option (Int64)) (a2 : Int64) (a4 : Int64) (a6 : Int64) : Option (Int64) :=
  if a6 ≤ 0 then some a4 else if (a6 &&& 1) = 1 then nm (lrm (a4 * a2) 1000003 : Int64) fun x8 => jX4_inverse_36 σ rec10 a2 x8 a6 else jX4_inverse_36 σ rec10 a2 a4 a6
noncomputable def fX4_inverse (σ : gS) (p0 : Int64) : Option (Int64) :=
  nm (p0 : Int64) fun x1 => nm (1 : Int64) fun x2 => nm (1000001 : Int64) fun x3 => lpc (S := Int64 × Int64 × Int64) K9 (fun rec s => bX4_inverse_10 σ (fun a2 a4 a6 => rec (a2, a4, a6)) s.1 s.2.1 s.2.2) (x1, x2, x3)
noncomputable abbrev rmX4_inverse : Room := { frames := 0, cells := 0, slots := 0, locals := 0 }
set_option maxRecDepth 100000 in
set_option maxHeartbeats 4000000 in
theorem wjX4_inverse_36 {M : gM} {G : gG} {out : Int64} (X : gX M G zC cX4_inverse RX4 8 wsX4_inverse rmX4_inverse (some .long)) {ex : gEx} (hZ : ∀ s : State, G.2.2.2 s → kC ex (gA G zC.1) s) (σ : gS) (rec10 : Int64 → Int64 → Int64 → Option (Int64)) (ih10 : ∀ (a2 : Int64) (a4 : Int64) (a6 : Int64), rec10 a2 a4 a6 = some out → WW M (gQl M G zC out σ) G zC 8 σ 10 [(2, .long a2), (4, .long a4), (6, .long a6)] []) (a2 : Int64) (a4 : Int64) (a6 : Int64) (hF : jX4_inverse_36 σ rec10 a2 a4 a6 = some out) : WW M (gQl M G zC out σ) G zC 8 σ 36 [(2, .long a2), (4, .long a4), (6, .long a6)] [] := by
  unfold jX4_inverse_36 at hF
  refine ww_lload_n (pc := 36) X (j := 0) dX4_inverse_36 rfl rfl ?_
  refine ww_lload_n (pc := 37) X (j := 0) dX4_inverse_37 rfl rfl ?_
  refine ww_lmul (pc := 38) X dX4_inverse_38 ?_
  refine ww_ldc2 (pc := 39) X (v := 1000003) (List.mem_of_getElem? (i := 2) rfl) dX4_inverse_39 ?_
  refine ww_lrem (pc := 42) X dX4_inverse_42 (by decide) ?_
  refine ww_lstore_n (pc := 43) X (lv' := [(4, .long a4), (6, .long a6)]) dX4_inverse_43 rfl (by decide) rfl hF (fun x6 ex6 hF => ?_)
  refine ww_lload (pc := 44) X (j := 2) dX4_inverse_44 rfl ?_
  refine ww_iconst (pc := 46) X (v := 1) dX4_inverse_46 (by decide) ?_
  refine ww_lshr (pc := 47) X dX4_inverse_47 ?_
  refine ww_lstore (pc := 48) X (lv' := [(2, .long x6), (4, .long a4)]) dX4_inverse_48 (by decide) rfl hF (fun x7 ex7 hF => ?_)
  refine ww_goto (pc := 50) X (tgt := 10) dX4_inverse_50 (by decide) ?_
  exact ww_sub [1, 2, 0] rfl (ih10 x6 a4 x7 hF)
set_option maxRecDepth 100000 in
set_option maxHeartbeats 4000000 in
theorem wbX4_inverse_10 {M : gM} {G : gG} {out : Int64} (X : gX M G zC cX4_inverse RX4 8 wsX4_inverse rmX4_inverse (some .long)) {ex : gEx} (hZ : ∀ s : State, G.2.2.2 s → kC ex (gA G zC.1) s) (σ : gS) (rec10 : Int64 → Int64 → Int64 → Option (Int64)) (ih10 : ∀ (a2 : Int64) (a4 : Int64) (a6 : Int64), rec10 a2 a4 a6 = some out → WW M (gQl M G zC out σ) G zC 8 σ 10 [(2, .long a2), (4, .long a4), (6, .long a6)] []) (a2 : Int64) (a4 : Int64) (a6 : Int64) (hF : bX4_inverse_10 σ rec10 a2 a4 a6 = some out) : WW M (gQl M G zC out σ) G zC 8 σ 10 [(2, .long a2), (4, .long a4), (6, .long a6)] [] := by
  unfold bX4_inverse_10 at hF
  refine ww_lload (pc := 10) X (j := 2) dX4_inverse_10 rfl ?_
  refine ww_lconst (pc := 12) X (v := 0) dX4_inverse_12 (by decide) ?_
  refine ww_lcmp_le (pc := 13) (tgt := 53) X dX4_inverse_13 dX4_inverse_14 (by decide) hF (fun h4 hF => ?_) (fun h4 hF => ?_)
  · refine ww_lload (pc := 53) X (j := 1) dX4_inverse_53 rfl ?_
    exact ww_lret (pc := 55) X dX4_inverse_55 (Option.some.inj hF) rfl
  · refine ww_lload (pc := 17) X (j := 2) dX4_inverse_17 rfl ?_
    refine ww_lconst (pc := 19) X (v := 1) dX4_inverse_19 (by decide) ?_
    refine ww_land (pc := 20) X dX4_inverse_20 ?_
    refine ww_lconst (pc := 21) X (v := 1) dX4_inverse_21 (by decide) ?_
    refine ww_lcmp_ne (pc := 22) (tgt := 36) X dX4_inverse_22 dX4_inverse_23 (by decide) hF (fun h5 hF => ?_) (fun h5 hF => ?_)
    · exact ww_sub [0, 1, 2] rfl (wjX4_inverse_36 X hZ σ rec10 ih10 a2 a4 a6 hF)
    · refine ww_lload (pc := 26) X (j := 1) dX4_inverse_26 rfl ?_
      refine ww_lload_n (pc := 28) X (j := 0) dX4_inverse_28 rfl rfl ?_
      refine ww_lmul (pc := 29) X dX4_inverse_29 ?_
      refine ww_ldc2 (pc := 30) X (v := 1000003) (List.mem_of_getElem? (i := 2) rfl) dX4_inverse_30 ?_
      refine ww_lrem (pc := 33) X dX4_inverse_33 (by decide) ?_
      refine ww_lstore (pc := 34) X (lv' := [(2, .long a2), (6, .long a6)]) dX4_inverse_34 (by decide) rfl hF (fun x8 ex8 hF => ?_)
      exact ww_sub [1, 0, 2] rfl (wjX4_inverse_36 X hZ σ rec10 ih10 a2 x8 a6 hF)
set_option maxRecDepth 100000 in
set_option maxHeartbeats 4000000 in
theorem wX4_inverse {M : gM} {G : gG} {out : Int64} (X : gX M G zC cX4_inverse RX4 8 wsX4_inverse rmX4_inverse (some .long)) {ex : gEx} (hZ : ∀ s : State, G.2.2.2 s → kC ex (gA G zC.1) s) (σ : gS) (p0 : Int64) (hF : fX4_inverse σ p0 = some out) : WW M (gQl M G zC out σ) G zC 8 σ 0 [(0, .long p0)] [] := by
  unfold fX4_inverse at hF
  refine ww_lload_n (pc := 0) X (j := 0) dX4_inverse_0 rfl rfl ?_
  refine ww_lstore_n (pc := 1) X (lv' := [(0, .long p0)]) dX4_inverse_1 rfl (by decide) rfl hF (fun x1 ex1 hF => ?_)
  refine ww_lconst (pc := 2) X (v := 1) dX4_inverse_2 (by decide) ?_
  refine ww_lstore (pc := 3) X (lv' := [(2, .long x1), (0, .long p0)]) dX4_inverse_3 (by decide) rfl hF (fun x2 ex2 hF => ?_)
  refine ww_ldc2 (pc := 5) X (v := 1000001) (List.mem_of_getElem? (i := 1) rfl) dX4_inverse_5 ?_
  refine ww_lstore (pc := 8) X (lv' := [(4, .long x2), (2, .long x1), (0, .long p0)]) dX4_inverse_8 (by decide) rfl hF (fun x3 ex3 hF => ?_)
  exact ww_sub [2, 1, 0] rfl (lpc_ind (P := (fun (s : Int64 × Int64 × Int64) => WW M (gQl M G zC out σ) G zC 8 σ 10 [(2, .long s.1), (4, .long s.2.1), (6, .long s.2.2)] [])) (fun rec s ih hF => wbX4_inverse_10 X hZ σ (fun a2 a4 a6 => rec (a2, a4, a6)) (fun a2 a4 a6 h => ih (a2, a4, a6) h) s.1 s.2.1 s.2.2 hF) K9 (x1, x2, x3) hF)
set_option maxRecDepth 100000 in
set_option maxHeartbeats 4000000 in
theorem kX4_inverse (l : Launch) (G : gG) {ex : gEx} (hZ : ∀ s : State, G.2.2.2 s → kC ex (gA G zC.1) s) (hG : gOK G zC.1) (hT : G.2.2.1.map (fun q => q.2) = zC.2.1) (σ : gS) (p0 : Int64) (out : Int64) (hF : fX4_inverse σ p0 = some out) : gCl l yX4_inverse wsX4_inverse rmX4_inverse G zC [.long p0] σ out σ :=
  gEnter (by decide) rfl ⟨rfl, rfl⟩ hG hT (Nat.le_of_ble_eq_true rfl) rfl (fun M X hl => wX4_inverse X hZ σ p0 hF)
noncomputable def bX4_subtractLine_16 (σ : gS) (c16_1 : Int32) (c16_2 : Int32) (c16_3 : Int64) (rec16 : Int32 → gS → Option (gS)) (a5 : Int32) (σ1 : gS) : Option (gS) :=
  if (σ1.1 96 4) < a5 then some σ1 else gd (gb c16_1 38) <| gd (gb c16_1 38) <| gd (gb a5 39) <| nm (σ1.2 (99 + c16_1.toNatClampNeg) a5.toNatClampNeg) fun v8 => gd (gb c16_2 38) <| gd (gb a5 39) <| nm (σ1.2 (99 + c16_2.toNatClampNeg) a5.toNatClampNeg) fun v10 => gd (gb a5 39) <| nm (gsL σ1 (99 + c16_1.toNatClampNeg) a5.toNatClampNeg (lrm (v8 + (c16_3 * v10)) 1000003)) fun σ11 => nm (a5 + 1 : Int32) fun x12 => rec16 x12 σ11
noncomputable def fX4_subtractLine (σ : gS) (p1 : Int32) (p2 : Int32) : Option (gS) :=
  gd (gb p1 38) <| gd (gb p2 39) <| nm (σ.2 (99 + p1.toNatClampNeg) p2.toNatClampNeg) fun v2 => nm (1000003 - v2 : Int64) fun x3 => nm (p2 : Int32) fun x4 => lpc (S := Int32 × gS) K9 (fun rec s => bX4_subtractLine_16 σ p1 p2 x3 (fun a5 σ1 => rec (a5, σ1)) s.1 s.2) (x4, σ)
noncomputable abbrev rmX4_subtractLine : Room := { frames := 0, cells := 0, slots := 0, locals := 0 }
set_option maxRecDepth 100000 in
set_option maxHeartbeats 4000000 in
theorem wbX4_subtractLine_16 {M : gM} {G : gG} {out : gS} (X : gX M G zC cX4_subtractLine RX4 6 wsX4_subtractLine rmX4_subtractLine none) {ex : gEx} (hZ : ∀ s : State, G.2.2.2 s → kC ex (gA G zC.1) s) (σ : gS) (c16_1 : Int32) (c16_2 : Int32) (c16_3 : Int64) (rec16 : Int32 → gS → Option (gS)) (ih16 : ∀ (a5 : Int32) (σ1 : gS), rec16 a5 σ1 = some out → WW M (gQv M G zC out) G zC 6 σ1 16 [(0, .ref (G.2.1 96)), (1, .int c16_1), (2, .int c16_2), (3, .long c16_3), (5, .int a5)] []) (a5 : Int32) (σ1 : gS) (hF : bX4_subtractLine_16 σ c16_1 c16_2 c16_3 rec16 a5 σ1 = some out) : WW M (gQv M G zC out) G zC 6 σ1 16 [(0, .ref (G.2.1 96)), (1, .int c16_1), (2, .int c16_2), (3, .long c16_3), (5, .int a5)] [] := by
  unfold bX4_subtractLine_16 at hF
  refine ww_iload (pc := 16) X (j := 4) dX4_subtractLine_16 rfl ?_
  refine ww_aload_n (pc := 18) X (j := 0) dX4_subtractLine_18 rfl rfl ?_
  refine ww_get (pc := 19) X (ref := "PictureBlock$Solver") (T := TX4) (j := 4) dX4_subtractLine_19 inX4_subtractLine_RX4 shzC_96 clzC_4 (by decide) rfl (List.mem_of_getElem? (i := 3) rfl) rfl ?_
  refine ww_icmp_gt (pc := 22) (tgt := 65) X dX4_subtractLine_22 (by decide) hF (fun h5 hF => ?_) (fun h5 hF => ?_)
  · exact ww_vret (pc := 65) X dX4_subtractLine_65 (by cases hF; rfl)
  · refine ww_aload_n (pc := 25) X (j := 0) dX4_subtractLine_25 rfl rfl ?_
    refine ww_get (pc := 26) X (ref := "PictureBlock$Solver") (T := TX4) (j := 3) dX4_subtractLine_26 inX4_subtractLine_RX4 shzC_96 clzC_4 (by decide) rfl (List.mem_of_getElem? (i := 2) rfl) rfl ?_
    refine ww_iload_n (pc := 29) X (j := 1) dX4_subtractLine_29 rfl rfl ?_
    refine ww_aald (pc := 30) X dX4_subtractLine_30 shzC_98 rfl hF (fun h6 hF => ?_)
    refine ww_iload (pc := 31) X (j := 4) dX4_subtractLine_31 rfl ?_
    refine ww_aload_n (pc := 33) X (j := 0) dX4_subtractLine_33 rfl rfl ?_
    refine ww_get (pc := 34) X (ref := "PictureBlock$Solver") (T := TX4) (j := 3) dX4_subtractLine_34 inX4_subtractLine_RX4 shzC_96 clzC_4 (by decide) rfl (List.mem_of_getElem? (i := 2) rfl) rfl ?_
    refine ww_iload_n (pc := 37) X (j := 1) dX4_subtractLine_37 rfl rfl ?_
    refine ww_aald (pc := 38) X dX4_subtractLine_38 shzC_98 rfl hF (fun h7 hF => ?_)
    refine ww_iload (pc := 39) X (j := 4) dX4_subtractLine_39 rfl ?_
    refine ww_lald (pc := 41) X dX4_subtractLine_41 (rwzC_98 _ (gb_lt h7)) rfl hF (fun v8 ev8 bv8 hF => ?_)
    refine ww_lload_n (pc := 42) X (j := 3) dX4_subtractLine_42 rfl rfl ?_
    refine ww_aload_n (pc := 43) X (j := 0) dX4_subtractLine_43 rfl rfl ?_
    refine ww_get (pc := 44) X (ref := "PictureBlock$Solver") (T := TX4) (j := 3) dX4_subtractLine_44 inX4_subtractLine_RX4 shzC_96 clzC_4 (by decide) rfl (List.mem_of_getElem? (i := 2) rfl) rfl ?_
    refine ww_iload_n (pc := 47) X (j := 2) dX4_subtractLine_47 rfl rfl ?_
    refine ww_aald (pc := 48) X dX4_subtractLine_48 shzC_98 rfl hF (fun h9 hF => ?_)
    refine ww_iload (pc := 49) X (j := 4) dX4_subtractLine_49 rfl ?_
    refine ww_lald (pc := 51) X dX4_subtractLine_51 (rwzC_98 _ (gb_lt h9)) rfl hF (fun v10 ev10 bv10 hF => ?_)
    refine ww_lmul (pc := 52) X dX4_subtractLine_52 ?_
    refine ww_ladd (pc := 53) X dX4_subtractLine_53 ?_
    refine ww_ldc2 (pc := 54) X (v := 1000003) (List.mem_of_getElem? (i := 1) rfl) dX4_subtractLine_54 ?_
    refine ww_lrem (pc := 57) X dX4_subtractLine_57 (by decide) ?_
    refine ww_last (pc := 58) X dX4_subtractLine_58 (rwzC_98 _ (gb_lt h6)) rfl hF (fun σ11 eσ11 bσ11 hF => ?_)
    refine ww_iinc (pc := 59) X (j := 4) (v := 1) (lv' := [(0, .ref (G.2.1 96)), (1, .int c16_1), (2, .int c16_2), (3, .long c16_3)]) dX4_subtractLine_59 rfl rfl (by decide) rfl hF (fun x12 ex12 hF => ?_)
    refine ww_goto (pc := 62) X (tgt := 16) dX4_subtractLine_62 (by decide) ?_
    exact ww_sub [1, 2, 3, 4, 0] rfl (ih16 x12 σ11 hF)
set_option maxRecDepth 100000 in
set_option maxHeartbeats 4000000 in
theorem wX4_subtractLine {M : gM} {G : gG} {out : gS} (X : gX M G zC cX4_subtractLine RX4 6 wsX4_subtractLine rmX4_subtractLine none) {ex : gEx} (hZ : ∀ s : State, G.2.2.2 s → kC ex (gA G zC.1) s) (σ : gS) (p1 : Int32) (p2 : Int32) (hF : fX4_subtractLine σ p1 p2 = some out) : WW M (gQv M G zC out) G zC 6 σ 0 [(0, .ref (G.2.1 96)), (1, .int p1), (2, .int p2)] [] := by
  unfold fX4_subtractLine at hF
  refine ww_ldc2 (pc := 0) X (v := 1000003) (List.mem_of_getElem? (i := 1) rfl) dX4_subtractLine_0 ?_
  refine ww_aload_n (pc := 3) X (j := 0) dX4_subtractLine_3 rfl rfl ?_
  refine ww_get (pc := 4) X (ref := "PictureBlock$Solver") (T := TX4) (j := 3) dX4_subtractLine_4 inX4_subtractLine_RX4 shzC_96 clzC_4 (by decide) rfl (List.mem_of_getElem? (i := 2) rfl) rfl ?_
  refine ww_iload_n (pc := 7) X (j := 1) dX4_subtractLine_7 rfl rfl ?_
  refine ww_aald (pc := 8) X dX4_subtractLine_8 shzC_98 rfl hF (fun h1 hF => ?_)
  refine ww_iload_n (pc := 9) X (j := 2) dX4_subtractLine_9 rfl rfl ?_
  refine ww_lald (pc := 10) X dX4_subtractLine_10 (rwzC_98 _ (gb_lt h1)) rfl hF (fun v2 ev2 bv2 hF => ?_)
  refine ww_lsub (pc := 11) X dX4_subtractLine_11 ?_
  refine ww_lstore_n (pc := 12) X (lv' := [(0, .ref (G.2.1 96)), (1, .int p1), (2, .int p2)]) dX4_subtractLine_12 rfl (by decide) rfl hF (fun x3 ex3 hF => ?_)
  refine ww_iload_n (pc := 13) X (j := 3) dX4_subtractLine_13 rfl rfl ?_
  refine ww_istore (pc := 14) X (lv' := [(3, .long x3), (0, .ref (G.2.1 96)), (1, .int p1), (2, .int p2)]) dX4_subtractLine_14 (by decide) rfl hF (fun x4 ex4 hF => ?_)
  exact ww_sub [2, 3, 4, 1, 0] rfl (lpc_ind (P := (fun (s : Int32 × gS) => WW M (gQv M G zC out) G zC 6 s.2 16 [(0, .ref (G.2.1 96)), (1, .int p1), (2, .int p2), (3, .long x3), (5, .int s.1)] [])) (fun rec s ih hF => wbX4_subtractLine_16 X hZ σ p1 p2 x3 (fun a5 σ1 => rec (a5, σ1)) (fun a5 σ1 h => ih (a5, σ1) h) s.1 s.2 hF) K9 (x4, σ) hF)
set_option maxRecDepth 100000 in
set_option maxHeartbeats 4000000 in
theorem kX4_subtractLine (l : Launch) (G : gG) {ex : gEx} (hZ : ∀ s : State, G.2.2.2 s → kC ex (gA G zC.1) s) (hG : gOK G zC.1) (hT : G.2.2.1.map (fun q => q.2) = zC.2.1) (σ : gS) (p1 : Int32) (p2 : Int32) (out : gS) (hF : fX4_subtractLine σ p1 p2 = some out) : gCv l yX4_subtractLine wsX4_subtractLine rmX4_subtractLine G zC [.ref (G.2.1 96), .int p1, .int p2] σ out :=
  gEnter (by decide) rfl ⟨rfl, rfl⟩ hG hT (Nat.le_of_ble_eq_true rfl) rfl (fun M X hl => wX4_subtractLine X hZ σ p1 p2 hF)
noncomputable def bX4_swapLines_2 (σ : gS) (c2_1 : Int32) (c2_2 : Int32) (rec2 : Int32 → gS → Option (gS)) (a3 : Int32) (σ1 : gS) : Option (gS) :=
  if (σ1.1 96 4) < a3 then some σ1 else gd (gb c2_1 38) <| gd (gb a3 39) <| nm (σ1.2 (99 + c2_1.toNatClampNeg) a3.toNatClampNeg) fun v4 => nm (v4 : Int64) fun x5 => gd (gb c2_1 38) <| gd (gb c2_2 38) <| gd (gb a3 39) <| nm (σ1.2 (99 + c2_2.toNatClampNeg) a3.toNatClampNeg) fun v8 => gd (gb a3 39) <| nm (gsL σ1 (99 + c2_1.toNatClampNeg) a3.toNatClampNeg v8) fun σ9 => gd (gb c2_2 38) <| gd (gb a3 39) <| nm (gsL σ9 (99 + c2_2.toNatClampNeg) a3.toNatClampNeg x5) fun σ11 => nm (a3 + 1 : Int32) fun x12 => rec2 x12 σ11
noncomputable def fX4_swapLines (σ : gS) (p1 : Int32) (p2 : Int32) : Option (gS) :=
  nm (0 : Int32) fun x1 => lpc (S := Int32 × gS) K9 (fun rec s => bX4_swapLines_2 σ p1 p2 (fun a3 σ1 => rec (a3, σ1)) s.1 s.2) (x1, σ)
noncomputable abbrev rmX4_swapLines : Room := { frames := 0, cells := 0, slots := 0, locals := 0 }
set_option maxRecDepth 100000 in
set_option maxHeartbeats 4000000 in
theorem wbX4_swapLines_2 {M : gM} {G : gG} {out : gS} (X : gX M G zC cX4_swapLines RX4 6 wsX4_swapLines rmX4_swapLines none) {ex : gEx} (hZ : ∀ s : State, G.2.2.2 s → kC ex (gA G zC.1) s) (σ : gS) (c2_1 : Int32) (c2_2 : Int32) (rec2 : Int32 → gS → Option (gS)) (ih2 : ∀ (a3 : Int32) (σ1 : gS), rec2 a3 σ1 = some out → WW M (gQv M G zC out) G zC 6 σ1 2 [(0, .ref (G.2.1 96)), (1, .int c2_1), (2, .int c2_2), (3, .int a3)] []) (a3 : Int32) (σ1 : gS) (hF : bX4_swapLines_2 σ c2_1 c2_2 rec2 a3 σ1 = some out) : WW M (gQv M G zC out) G zC 6 σ1 2 [(0, .ref (G.2.1 96)), (1, .int c2_1), (2, .int c2_2), (3, .int a3)] [] := by
  unfold bX4_swapLines_2 at hF
  refine ww_iload_n (pc := 2) X (j := 3) dX4_swapLines_2 rfl rfl ?_
  refine ww_aload_n (pc := 3) X (j := 0) dX4_swapLines_3 rfl rfl ?_
  refine ww_get (pc := 4) X (ref := "PictureBlock$Solver") (T := TX4) (j := 4) dX4_swapLines_4 inX4_swapLines_RX4 shzC_96 clzC_4 (by decide) rfl (List.mem_of_getElem? (i := 1) rfl) rfl ?_
  refine ww_icmp_gt (pc := 7) (tgt := 52) X dX4_swapLines_7 (by decide) hF (fun h2 hF => ?_) (fun h2 hF => ?_)
  · exact ww_vret (pc := 52) X dX4_swapLines_52 (by cases hF; rfl)
  · refine ww_aload_n (pc := 10) X (j := 0) dX4_swapLines_10 rfl rfl ?_
    refine ww_get (pc := 11) X (ref := "PictureBlock$Solver") (T := TX4) (j := 3) dX4_swapLines_11 inX4_swapLines_RX4 shzC_96 clzC_4 (by decide) rfl (List.mem_of_getElem? (i := 2) rfl) rfl ?_
    refine ww_iload_n (pc := 14) X (j := 1) dX4_swapLines_14 rfl rfl ?_
    refine ww_aald (pc := 15) X dX4_swapLines_15 shzC_98 rfl hF (fun h3 hF => ?_)
    refine ww_iload_n (pc := 16) X (j := 3) dX4_swapLines_16 rfl rfl ?_
    refine ww_lald (pc := 17) X dX4_swapLines_17 (rwzC_98 _ (gb_lt h3)) rfl hF (fun v4 ev4 bv4 hF => ?_)
    refine ww_lstore (pc := 18) X (lv' := [(0, .ref (G.2.1 96)), (1, .int c2_1), (2, .int c2_2), (3, .int a3)]) dX4_swapLines_18 (by decide) rfl hF (fun x5 ex5 hF => ?_)
    refine ww_aload_n (pc := 20) X (j := 1) dX4_swapLines_20 rfl rfl ?_
    refine ww_get (pc := 21) X (ref := "PictureBlock$Solver") (T := TX4) (j := 3) dX4_swapLines_21 inX4_swapLines_RX4 shzC_96 clzC_4 (by decide) rfl (List.mem_of_getElem? (i := 2) rfl) rfl ?_
    refine ww_iload_n (pc := 24) X (j := 2) dX4_swapLines_24 rfl rfl ?_
    refine ww_aald (pc := 25) X dX4_swapLines_25 shzC_98 rfl hF (fun h6 hF => ?_)
    refine ww_iload_n (pc := 26) X (j := 4) dX4_swapLines_26 rfl rfl ?_
    refine ww_aload_n (pc := 27) X (j := 1) dX4_swapLines_27 rfl rfl ?_
    refine ww_get (pc := 28) X (ref := "PictureBlock$Solver") (T := TX4) (j := 3) dX4_swapLines_28 inX4_swapLines_RX4 shzC_96 clzC_4 (by decide) rfl (List.mem_of_getElem? (i := 2) rfl) rfl ?_
    refine ww_iload_n (pc := 31) X (j := 3) dX4_swapLines_31 rfl rfl ?_
    refine ww_aald (pc := 32) X dX4_swapLines_32 shzC_98 rfl hF (fun h7 hF => ?_)
    refine ww_iload_n (pc := 33) X (j := 4) dX4_swapLines_33 rfl rfl ?_
    refine ww_lald (pc := 34) X dX4_swapLines_34 (rwzC_98 _ (gb_lt h7)) rfl hF (fun v8 ev8 bv8 hF => ?_)
    refine ww_last (pc := 35) X dX4_swapLines_35 (rwzC_98 _ (gb_lt h6)) rfl hF (fun σ9 eσ9 bσ9 hF => ?_)
    refine ww_aload_n (pc := 36) X (j := 1) dX4_swapLines_36 rfl rfl ?_
    refine ww_get (pc := 37) X (ref := "PictureBlock$Solver") (T := TX4) (j := 3) dX4_swapLines_37 inX4_swapLines_RX4 shzC_96 clzC_4 (by decide) rfl (List.mem_of_getElem? (i := 2) rfl) rfl ?_
    refine ww_iload_n (pc := 40) X (j := 3) dX4_swapLines_40 rfl rfl ?_
    refine ww_aald (pc := 41) X dX4_swapLines_41 shzC_98 rfl hF (fun h10 hF => ?_)
    refine ww_iload_n (pc := 42) X (j := 4) dX4_swapLines_42 rfl rfl ?_
    refine ww_lload (pc := 43) X (j := 0) dX4_swapLines_43 rfl ?_
    refine ww_last (pc := 45) X dX4_swapLines_45 (rwzC_98 _ (gb_lt h10)) rfl hF (fun σ11 eσ11 bσ11 hF => ?_)
    refine ww_iinc (pc := 46) X (j := 4) (v := 1) (lv' := [(4, .long x5), (0, .ref (G.2.1 96)), (1, .int c2_1), (2, .int c2_2)]) dX4_swapLines_46 rfl rfl (by decide) rfl hF (fun x12 ex12 hF => ?_)
    refine ww_goto (pc := 49) X (tgt := 2) dX4_swapLines_49 (by decide) ?_
    exact ww_sub [2, 3, 4, 0] rfl (ih2 x12 σ11 hF)
set_option maxRecDepth 100000 in
set_option maxHeartbeats 4000000 in
theorem wX4_swapLines {M : gM} {G : gG} {out : gS} (X : gX M G zC cX4_swapLines RX4 6 wsX4_swapLines rmX4_swapLines none) {ex : gEx} (hZ : ∀ s : State, G.2.2.2 s → kC ex (gA G zC.1) s) (σ : gS) (p1 : Int32) (p2 : Int32) (hF : fX4_swapLines σ p1 p2 = some out) : WW M (gQv M G zC out) G zC 6 σ 0 [(0, .ref (G.2.1 96)), (1, .int p1), (2, .int p2)] [] := by
  unfold fX4_swapLines at hF
  refine ww_iconst (pc := 0) X (v := 0) dX4_swapLines_0 (by decide) ?_
  refine ww_istore_n (pc := 1) X (lv' := [(0, .ref (G.2.1 96)), (1, .int p1), (2, .int p2)]) dX4_swapLines_1 rfl (by decide) rfl hF (fun x1 ex1 hF => ?_)
  exact ww_sub [1, 2, 3, 0] rfl (lpc_ind (P := (fun (s : Int32 × gS) => WW M (gQv M G zC out) G zC 6 s.2 2 [(0, .ref (G.2.1 96)), (1, .int p1), (2, .int p2), (3, .int s.1)] [])) (fun rec s ih hF => wbX4_swapLines_2 X hZ σ p1 p2 (fun a3 σ1 => rec (a3, σ1)) (fun a3 σ1 h => ih (a3, σ1) h) s.1 s.2 hF) K9 (x1, σ) hF)
set_option maxRecDepth 100000 in
set_option maxHeartbeats 4000000 in
theorem kX4_swapLines (l : Launch) (G : gG) {ex : gEx} (hZ : ∀ s : State, G.2.2.2 s → kC ex (gA G zC.1) s) (hG : gOK G zC.1) (hT : G.2.2.1.map (fun q => q.2) = zC.2.1) (σ : gS) (p1 : Int32) (p2 : Int32) (out : gS) (hF : fX4_swapLines σ p1 p2 = some out) : gCv l yX4_swapLines wsX4_swapLines rmX4_swapLines G zC [.ref (G.2.1 96), .int p1, .int p2] σ out :=
  gEnter (by decide) rfl ⟨rfl, rfl⟩ hG hT (Nat.le_of_ble_eq_true rfl) rfl (fun M X hl => wX4_swapLines X hZ σ p1 p2 hF)
noncomputable def bX4_eliminate_107 (σ : gS) (c107_1 : Int32) (rec107 : Int32 → gS → Option (Int32 × gS)) (a5 : Int32) (σ1 : gS) : Option (Int32 × gS) :=
  if (σ1.1 96 4) ≤ a5 then some (1, σ1) else if a5 = c107_1 then nm (a5 + 1 : Int32) fun x15 => rec107 x15 σ1 else gd (gb a5 38) <| gd (gb c107_1 39) <| nm (σ1.2 (99 + a5.toNatClampNeg) c107_1.toNatClampNeg) fun v17 => (if v17 = 0 then nm (a5 + 1 : Int32) fun x19 => rec107 x19 σ1 else bd (fX4_subtractLine σ1 a5 c107_1) fun σ21 => nm (a5 + 1 : Int32) fun x22 => rec107 x22 σ21)
noncomputable def bX4_eliminate_65 (σ : gS) (c65_1 : Int32) (c65_3 : Int64) (rec65 : Int32 → gS → Option (Int32 × gS)) (a5 : Int32) (σ1 : gS) : Option (Int32 × gS) :=
  if (σ1.1 96 4) < a5 then nm (0 : Int32) fun x12 => lpc (S := Int32 × gS) K9 (fun rec s => bX4_eliminate_107 σ1 c65_1 (fun a5 σ1 => rec (a5, σ1)) s.1 s.2) (x12, σ1) else gd (gb c65_1 38) <| gd (gb c65_1 38) <| gd (gb a5 39) <| nm (σ1.2 (99 + c65_1.toNatClampNeg) a5.toNatClampNeg) fun v25 => gd (gb a5 39) <| nm (gsL σ1 (99 + c65_1.toNatClampNeg) a5.toNatClampNeg (lrm (v25 * c65_3) 1000003)) fun σ26 => nm (a5 + 1 : Int32) fun x27 => rec65 x27 σ26
noncomputable def jX4_eliminate_50 (σ : gS) (a1 : Int32) : Option (Int32 × gS) :=
  gd (gb a1 38) <| gd (gb a1 39) <| nm (σ.2 (99 + a1.toNatClampNeg) a1.toNatClampNeg) fun v6 => bd (fX4_inverse σ v6) fun r8 => nm (r8 : Int64) fun x9 => nm (a1 : Int32) fun x10 => lpc (S := Int32 × gS) K9 (fun rec s => bX4_eliminate_65 σ a1 x9 (fun a5 σ1 => rec (a5, σ1)) s.1 s.2) (x10, σ)
noncomputable def jX4_eliminate_29 (σ : gS) (a1 : Int32) (a2 : Int32) : Option (Int32 × gS) :=
  if a2 < (σ.1 96 4) then if a2 = a1 then jX4_eliminate_50 σ a1 else bd (fX4_swapLines σ a2 a1) fun σ29 => jX4_eliminate_50 σ29 a1 else some (0, σ)
noncomputable def bX4_eliminate_2 (σ : gS) (c2_1 : Int32) (rec2 : Int32 → Option (Int32 × gS)) (a2 : Int32) : Option (Int32 × gS) :=
  if (σ.1 96 4) ≤ a2 then jX4_eliminate_29 σ c2_1 a2 else gd (gb a2 38) <| gd (gb c2_1 39) <| nm (σ.2 (99 + a2.toNatClampNeg) c2_1.toNatClampNeg) fun v31 => (if v31 = 0 then nm (a2 + 1 : Int32) fun x33 => rec2 x33 else jX4_eliminate_29 σ c2_1 a2)
noncomputable def fX4_eliminate (σ : gS) (p1 : Int32) : Option (Int32 × gS) :=
  nm (p1 : Int32) fun x1 => lpc (S := Int32) K9 (fun rec s => bX4_eliminate_2 σ p1 (fun a2 => rec (a2)) s) (x1)
noncomputable abbrev rmX4_eliminate : Room := { frames := 1, cells := 0, slots := 0, locals := 27 }
set_option maxRecDepth 100000 in
set_option maxHeartbeats 4000000 in
theorem wbX4_eliminate_107 {M : gM} {G : gG} {out : Int32 × gS} (X : gX M G zC cX4_eliminate RX4 6 wsX4_eliminate rmX4_eliminate (some .boolean)) {ex : gEx} (hZ : ∀ s : State, G.2.2.2 s → kC ex (gA G zC.1) s) (σ : gS) (c107_1 : Int32) (rec107 : Int32 → gS → Option (Int32 × gS)) (ih107 : ∀ (a5 : Int32) (σ1 : gS), rec107 a5 σ1 = some out → WW M (gQi M G zC out.1 out.2) G zC 6 σ1 107 [(0, .ref (G.2.1 96)), (1, .int c107_1), (5, .int a5)] []) (a5 : Int32) (σ1 : gS) (hF : bX4_eliminate_107 σ c107_1 rec107 a5 σ1 = some out) : WW M (gQi M G zC out.1 out.2) G zC 6 σ1 107 [(0, .ref (G.2.1 96)), (1, .int c107_1), (5, .int a5)] [] := by
  unfold bX4_eliminate_107 at hF
  refine ww_iload (pc := 107) X (j := 2) dX4_eliminate_107 rfl ?_
  refine ww_aload_n (pc := 109) X (j := 0) dX4_eliminate_109 rfl rfl ?_
  refine ww_get (pc := 110) X (ref := "PictureBlock$Solver") (T := TX4) (j := 4) dX4_eliminate_110 inX4_eliminate_RX4 shzC_96 clzC_4 (by decide) rfl (List.mem_of_getElem? (i := 1) rfl) rfl ?_
  refine ww_icmp_ge (pc := 113) (tgt := 149) X dX4_eliminate_113 (by decide) hF (fun h13 hF => ?_) (fun h13 hF => ?_)
  · refine ww_iconst (pc := 149) X (v := 1) dX4_eliminate_149 (by decide) ?_
    exact ww_zret (pc := 150) X dX4_eliminate_150 (by cases hF; rfl) (by cases hF; rfl)
  · refine ww_iload (pc := 116) X (j := 2) dX4_eliminate_116 rfl ?_
    refine ww_iload_n (pc := 118) X (j := 1) dX4_eliminate_118 rfl rfl ?_
    refine ww_icmp_eq (pc := 119) (tgt := 143) X dX4_eliminate_119 (by decide) hF (fun h14 hF => ?_) (fun h14 hF => ?_)
    · refine ww_iinc (pc := 143) X (j := 2) (v := 1) (lv' := [(0, .ref (G.2.1 96)), (1, .int c107_1)]) dX4_eliminate_143 rfl rfl (by decide) rfl hF (fun x15 ex15 hF => ?_)
      refine ww_goto (pc := 146) X (tgt := 107) dX4_eliminate_146 (by decide) ?_
      exact ww_sub [1, 2, 0] rfl (ih107 x15 σ1 hF)
    · refine ww_aload_n (pc := 122) X (j := 0) dX4_eliminate_122 rfl rfl ?_
      refine ww_get (pc := 123) X (ref := "PictureBlock$Solver") (T := TX4) (j := 3) dX4_eliminate_123 inX4_eliminate_RX4 shzC_96 clzC_4 (by decide) rfl (List.mem_of_getElem? (i := 2) rfl) rfl ?_
      refine ww_iload (pc := 126) X (j := 2) dX4_eliminate_126 rfl ?_
      refine ww_aald (pc := 128) X dX4_eliminate_128 shzC_98 rfl hF (fun h16 hF => ?_)
      refine ww_iload_n (pc := 129) X (j := 1) dX4_eliminate_129 rfl rfl ?_
      refine ww_lald (pc := 130) X dX4_eliminate_130 (rwzC_98 _ (gb_lt h16)) rfl hF (fun v17 ev17 bv17 hF => ?_)
      refine ww_lconst (pc := 131) X (v := 0) dX4_eliminate_131 (by decide) ?_
      refine ww_lcmp_eq (pc := 132) (tgt := 143) X dX4_eliminate_132 dX4_eliminate_133 (by decide) hF (fun h18 hF => ?_) (fun h18 hF => ?_)
      · refine ww_iinc (pc := 143) X (j := 2) (v := 1) (lv' := [(0, .ref (G.2.1 96)), (1, .int c107_1)]) dX4_eliminate_143 rfl rfl (by decide) rfl hF (fun x19 ex19 hF => ?_)
        refine ww_goto (pc := 146) X (tgt := 107) dX4_eliminate_146 (by decide) ?_
        exact ww_sub [1, 2, 0] rfl (ih107 x19 σ1 hF)
      · refine ww_aload_n (pc := 136) X (j := 0) dX4_eliminate_136 rfl rfl ?_
        refine ww_iload (pc := 137) X (j := 2) dX4_eliminate_137 rfl ?_
        refine ww_iload_n (pc := 139) X (j := 1) dX4_eliminate_139 rfl rfl ?_
        obtain ⟨σ21, h20, hF⟩ := bd_some hF
        refine ww_callVv (pc := 140) X (As := [.int a5, .int c107_1]) (rest := []) dX4_eliminate_140 (kX4_subtractLine (mL M) G hZ X.2.2.2.2.2.2.1 X.2.2.2.2.2.2.2.1 σ1 a5 c107_1 σ21 h20) rfl shzC_96 clzC_4 gX4_eliminate_X4_subtractLine hyX4_subtractLine ⟨rfl, rfl⟩ ⟨Nat.le_of_ble_eq_true rfl, Nat.le_of_ble_eq_true rfl⟩ rfl rfl (Nat.le_of_ble_eq_true rfl) ?_
        refine ww_iinc (pc := 143) X (j := 2) (v := 1) (lv' := [(0, .ref (G.2.1 96)), (1, .int c107_1)]) dX4_eliminate_143 rfl rfl (by decide) rfl hF (fun x22 ex22 hF => ?_)
        refine ww_goto (pc := 146) X (tgt := 107) dX4_eliminate_146 (by decide) ?_
        exact ww_sub [1, 2, 0] rfl (ih107 x22 σ21 hF)
set_option maxRecDepth 100000 in
set_option maxHeartbeats 4000000 in
theorem wbX4_eliminate_65 {M : gM} {G : gG} {out : Int32 × gS} (X : gX M G zC cX4_eliminate RX4 6 wsX4_eliminate rmX4_eliminate (some .boolean)) {ex : gEx} (hZ : ∀ s : State, G.2.2.2 s → kC ex (gA G zC.1) s) (σ : gS) (c65_1 : Int32) (c65_3 : Int64) (rec65 : Int32 → gS → Option (Int32 × gS)) (ih65 : ∀ (a5 : Int32) (σ1 : gS), rec65 a5 σ1 = some out → WW M (gQi M G zC out.1 out.2) G zC 6 σ1 65 [(0, .ref (G.2.1 96)), (1, .int c65_1), (3, .long c65_3), (5, .int a5)] []) (a5 : Int32) (σ1 : gS) (hF : bX4_eliminate_65 σ c65_1 c65_3 rec65 a5 σ1 = some out) : WW M (gQi M G zC out.1 out.2) G zC 6 σ1 65 [(0, .ref (G.2.1 96)), (1, .int c65_1), (3, .long c65_3), (5, .int a5)] [] := by
  unfold bX4_eliminate_65 at hF
  refine ww_iload (pc := 65) X (j := 3) dX4_eliminate_65 rfl ?_
  refine ww_aload_n (pc := 67) X (j := 0) dX4_eliminate_67 rfl rfl ?_
  refine ww_get (pc := 68) X (ref := "PictureBlock$Solver") (T := TX4) (j := 4) dX4_eliminate_68 inX4_eliminate_RX4 shzC_96 clzC_4 (by decide) rfl (List.mem_of_getElem? (i := 1) rfl) rfl ?_
  refine ww_icmp_gt (pc := 71) (tgt := 104) X dX4_eliminate_71 (by decide) hF (fun h11 hF => ?_) (fun h11 hF => ?_)
  · refine ww_iconst (pc := 104) X (v := 0) dX4_eliminate_104 (by decide) ?_
    refine ww_istore (pc := 105) X (lv' := [(0, .ref (G.2.1 96)), (1, .int c65_1), (3, .long c65_3)]) dX4_eliminate_105 (by decide) rfl hF (fun x12 ex12 hF => ?_)
    exact ww_sub [1, 2, 0] rfl (lpc_ind (P := (fun (s : Int32 × gS) => WW M (gQi M G zC out.1 out.2) G zC 6 s.2 107 [(0, .ref (G.2.1 96)), (1, .int c65_1), (5, .int s.1)] [])) (fun rec s ih hF => wbX4_eliminate_107 X hZ σ1 c65_1 (fun a5 σ1 => rec (a5, σ1)) (fun a5 σ1 h => ih (a5, σ1) h) s.1 s.2 hF) K9 (x12, σ1) hF)
  · refine ww_aload_n (pc := 74) X (j := 0) dX4_eliminate_74 rfl rfl ?_
    refine ww_get (pc := 75) X (ref := "PictureBlock$Solver") (T := TX4) (j := 3) dX4_eliminate_75 inX4_eliminate_RX4 shzC_96 clzC_4 (by decide) rfl (List.mem_of_getElem? (i := 2) rfl) rfl ?_
    refine ww_iload_n (pc := 78) X (j := 1) dX4_eliminate_78 rfl rfl ?_
    refine ww_aald (pc := 79) X dX4_eliminate_79 shzC_98 rfl hF (fun h23 hF => ?_)
    refine ww_iload (pc := 80) X (j := 3) dX4_eliminate_80 rfl ?_
    refine ww_aload_n (pc := 82) X (j := 0) dX4_eliminate_82 rfl rfl ?_
    refine ww_get (pc := 83) X (ref := "PictureBlock$Solver") (T := TX4) (j := 3) dX4_eliminate_83 inX4_eliminate_RX4 shzC_96 clzC_4 (by decide) rfl (List.mem_of_getElem? (i := 2) rfl) rfl ?_
    refine ww_iload_n (pc := 86) X (j := 1) dX4_eliminate_86 rfl rfl ?_
    refine ww_aald (pc := 87) X dX4_eliminate_87 shzC_98 rfl hF (fun h24 hF => ?_)
    refine ww_iload (pc := 88) X (j := 3) dX4_eliminate_88 rfl ?_
    refine ww_lald (pc := 90) X dX4_eliminate_90 (rwzC_98 _ (gb_lt h24)) rfl hF (fun v25 ev25 bv25 hF => ?_)
    refine ww_lload_n (pc := 91) X (j := 2) dX4_eliminate_91 rfl rfl ?_
    refine ww_lmul (pc := 92) X dX4_eliminate_92 ?_
    refine ww_ldc2 (pc := 93) X (v := 1000003) (List.mem_of_getElem? (i := 3) rfl) dX4_eliminate_93 ?_
    refine ww_lrem (pc := 96) X dX4_eliminate_96 (by decide) ?_
    refine ww_last (pc := 97) X dX4_eliminate_97 (rwzC_98 _ (gb_lt h23)) rfl hF (fun σ26 eσ26 bσ26 hF => ?_)
    refine ww_iinc (pc := 98) X (j := 3) (v := 1) (lv' := [(0, .ref (G.2.1 96)), (1, .int c65_1), (3, .long c65_3)]) dX4_eliminate_98 rfl rfl (by decide) rfl hF (fun x27 ex27 hF => ?_)
    refine ww_goto (pc := 101) X (tgt := 65) dX4_eliminate_101 (by decide) ?_
    exact ww_sub [1, 2, 3, 0] rfl (ih65 x27 σ26 hF)
set_option maxRecDepth 100000 in
set_option maxHeartbeats 4000000 in
theorem wjX4_eliminate_50 {M : gM} {G : gG} {out : Int32 × gS} (X : gX M G zC cX4_eliminate RX4 6 wsX4_eliminate rmX4_eliminate (some .boolean)) {ex : gEx} (hZ : ∀ s : State, G.2.2.2 s → kC ex (gA G zC.1) s) (σ : gS) (a1 : Int32) (hF : jX4_eliminate_50 σ a1 = some out) : WW M (gQi M G zC out.1 out.2) G zC 6 σ 50 [(0, .ref (G.2.1 96)), (1, .int a1)] [] := by
  unfold jX4_eliminate_50 at hF
  refine ww_aload_n (pc := 50) X (j := 0) dX4_eliminate_50 rfl rfl ?_
  refine ww_get (pc := 51) X (ref := "PictureBlock$Solver") (T := TX4) (j := 3) dX4_eliminate_51 inX4_eliminate_RX4 shzC_96 clzC_4 (by decide) rfl (List.mem_of_getElem? (i := 2) rfl) rfl ?_
  refine ww_iload_n (pc := 54) X (j := 1) dX4_eliminate_54 rfl rfl ?_
  refine ww_aald (pc := 55) X dX4_eliminate_55 shzC_98 rfl hF (fun h5 hF => ?_)
  refine ww_iload_n (pc := 56) X (j := 1) dX4_eliminate_56 rfl rfl ?_
  refine ww_lald (pc := 57) X dX4_eliminate_57 (rwzC_98 _ (gb_lt h5)) rfl hF (fun v6 ev6 bv6 hF => ?_)
  obtain ⟨r8, h7, hF⟩ := bd_some hF
  refine ww_callSl (pc := 58) X (As := [.long v6]) (rest := []) dX4_eliminate_58 (kX4_inverse (mL M) G hZ X.2.2.2.2.2.2.1 X.2.2.2.2.2.2.2.1 σ v6 r8 h7) rfl gX4_eliminate_X4_inverse hyX4_inverse ⟨rfl, rfl⟩ ⟨Nat.le_of_ble_eq_true rfl, Nat.le_of_ble_eq_true rfl⟩ rfl rfl (Nat.le_of_ble_eq_true rfl) ?_
  refine ww_lstore_n (pc := 61) X (lv' := [(0, .ref (G.2.1 96)), (1, .int a1)]) dX4_eliminate_61 rfl (by decide) rfl hF (fun x9 ex9 hF => ?_)
  refine ww_iload_n (pc := 62) X (j := 2) dX4_eliminate_62 rfl rfl ?_
  refine ww_istore (pc := 63) X (lv' := [(3, .long x9), (0, .ref (G.2.1 96)), (1, .int a1)]) dX4_eliminate_63 (by decide) rfl hF (fun x10 ex10 hF => ?_)
  exact ww_sub [2, 3, 1, 0] rfl (lpc_ind (P := (fun (s : Int32 × gS) => WW M (gQi M G zC out.1 out.2) G zC 6 s.2 65 [(0, .ref (G.2.1 96)), (1, .int a1), (3, .long x9), (5, .int s.1)] [])) (fun rec s ih hF => wbX4_eliminate_65 X hZ σ a1 x9 (fun a5 σ1 => rec (a5, σ1)) (fun a5 σ1 h => ih (a5, σ1) h) s.1 s.2 hF) K9 (x10, σ) hF)
set_option maxRecDepth 100000 in
set_option maxHeartbeats 4000000 in
theorem wjX4_eliminate_29 {M : gM} {G : gG} {out : Int32 × gS} (X : gX M G zC cX4_eliminate RX4 6 wsX4_eliminate rmX4_eliminate (some .boolean)) {ex : gEx} (hZ : ∀ s : State, G.2.2.2 s → kC ex (gA G zC.1) s) (σ : gS) (a1 : Int32) (a2 : Int32) (hF : jX4_eliminate_29 σ a1 a2 = some out) : WW M (gQi M G zC out.1 out.2) G zC 6 σ 29 [(0, .ref (G.2.1 96)), (1, .int a1), (2, .int a2)] [] := by
  unfold jX4_eliminate_29 at hF
  refine ww_iload_n (pc := 29) X (j := 2) dX4_eliminate_29 rfl rfl ?_
  refine ww_aload_n (pc := 30) X (j := 0) dX4_eliminate_30 rfl rfl ?_
  refine ww_get (pc := 31) X (ref := "PictureBlock$Solver") (T := TX4) (j := 4) dX4_eliminate_31 inX4_eliminate_RX4 shzC_96 clzC_4 (by decide) rfl (List.mem_of_getElem? (i := 1) rfl) rfl ?_
  refine ww_icmp_lt (pc := 34) (tgt := 39) X dX4_eliminate_34 (by decide) hF (fun h3 hF => ?_) (fun h3 hF => ?_)
  · refine ww_iload_n (pc := 39) X (j := 2) dX4_eliminate_39 rfl rfl ?_
    refine ww_iload_n (pc := 40) X (j := 1) dX4_eliminate_40 rfl rfl ?_
    refine ww_icmp_eq (pc := 41) (tgt := 50) X dX4_eliminate_41 (by decide) hF (fun h4 hF => ?_) (fun h4 hF => ?_)
    · exact ww_sub [0, 1] rfl (wjX4_eliminate_50 X hZ σ a1 hF)
    · refine ww_aload_n (pc := 44) X (j := 0) dX4_eliminate_44 rfl rfl ?_
      refine ww_iload_n (pc := 45) X (j := 2) dX4_eliminate_45 rfl rfl ?_
      refine ww_iload_n (pc := 46) X (j := 1) dX4_eliminate_46 rfl rfl ?_
      obtain ⟨σ29, h28, hF⟩ := bd_some hF
      refine ww_callVv (pc := 47) X (As := [.int a2, .int a1]) (rest := []) dX4_eliminate_47 (kX4_swapLines (mL M) G hZ X.2.2.2.2.2.2.1 X.2.2.2.2.2.2.2.1 σ a2 a1 σ29 h28) rfl shzC_96 clzC_4 gX4_eliminate_X4_swapLines hyX4_swapLines ⟨rfl, rfl⟩ ⟨Nat.le_of_ble_eq_true rfl, Nat.le_of_ble_eq_true rfl⟩ rfl rfl (Nat.le_of_ble_eq_true rfl) ?_
      exact ww_sub [0, 1] rfl (wjX4_eliminate_50 X hZ σ29 a1 hF)
  · refine ww_iconst (pc := 37) X (v := 0) dX4_eliminate_37 (by decide) ?_
    exact ww_zret (pc := 38) X dX4_eliminate_38 (by cases hF; rfl) (by cases hF; rfl)
set_option maxRecDepth 100000 in
set_option maxHeartbeats 4000000 in
theorem wbX4_eliminate_2 {M : gM} {G : gG} {out : Int32 × gS} (X : gX M G zC cX4_eliminate RX4 6 wsX4_eliminate rmX4_eliminate (some .boolean)) {ex : gEx} (hZ : ∀ s : State, G.2.2.2 s → kC ex (gA G zC.1) s) (σ : gS) (c2_1 : Int32) (rec2 : Int32 → Option (Int32 × gS)) (ih2 : ∀ (a2 : Int32), rec2 a2 = some out → WW M (gQi M G zC out.1 out.2) G zC 6 σ 2 [(0, .ref (G.2.1 96)), (1, .int c2_1), (2, .int a2)] []) (a2 : Int32) (hF : bX4_eliminate_2 σ c2_1 rec2 a2 = some out) : WW M (gQi M G zC out.1 out.2) G zC 6 σ 2 [(0, .ref (G.2.1 96)), (1, .int c2_1), (2, .int a2)] [] := by
  unfold bX4_eliminate_2 at hF
  refine ww_iload_n (pc := 2) X (j := 2) dX4_eliminate_2 rfl rfl ?_
  refine ww_aload_n (pc := 3) X (j := 0) dX4_eliminate_3 rfl rfl ?_
  refine ww_get (pc := 4) X (ref := "PictureBlock$Solver") (T := TX4) (j := 4) dX4_eliminate_4 inX4_eliminate_RX4 shzC_96 clzC_4 (by decide) rfl (List.mem_of_getElem? (i := 1) rfl) rfl ?_
  refine ww_icmp_ge (pc := 7) (tgt := 29) X dX4_eliminate_7 (by decide) hF (fun h2 hF => ?_) (fun h2 hF => ?_)
  · exact ww_sub [0, 1, 2] rfl (wjX4_eliminate_29 X hZ σ c2_1 a2 hF)
  · refine ww_aload_n (pc := 10) X (j := 0) dX4_eliminate_10 rfl rfl ?_
    refine ww_get (pc := 11) X (ref := "PictureBlock$Solver") (T := TX4) (j := 3) dX4_eliminate_11 inX4_eliminate_RX4 shzC_96 clzC_4 (by decide) rfl (List.mem_of_getElem? (i := 2) rfl) rfl ?_
    refine ww_iload_n (pc := 14) X (j := 2) dX4_eliminate_14 rfl rfl ?_
    refine ww_aald (pc := 15) X dX4_eliminate_15 shzC_98 rfl hF (fun h30 hF => ?_)
    refine ww_iload_n (pc := 16) X (j := 1) dX4_eliminate_16 rfl rfl ?_
    refine ww_lald (pc := 17) X dX4_eliminate_17 (rwzC_98 _ (gb_lt h30)) rfl hF (fun v31 ev31 bv31 hF => ?_)
    refine ww_lconst (pc := 18) X (v := 0) dX4_eliminate_18 (by decide) ?_
    refine ww_lcmp_ne (pc := 19) (tgt := 29) X dX4_eliminate_19 dX4_eliminate_20 (by decide) hF (fun h32 hF => ?_) (fun h32 hF => ?_)
    · exact ww_sub [0, 1, 2] rfl (wjX4_eliminate_29 X hZ σ c2_1 a2 hF)
    · refine ww_iinc (pc := 23) X (j := 2) (v := 1) (lv' := [(0, .ref (G.2.1 96)), (1, .int c2_1)]) dX4_eliminate_23 rfl rfl (by decide) rfl hF (fun x33 ex33 hF => ?_)
      refine ww_goto (pc := 26) X (tgt := 2) dX4_eliminate_26 (by decide) ?_
      exact ww_sub [1, 2, 0] rfl (ih2 x33 hF)
set_option maxRecDepth 100000 in
set_option maxHeartbeats 4000000 in
theorem wX4_eliminate {M : gM} {G : gG} {out : Int32 × gS} (X : gX M G zC cX4_eliminate RX4 6 wsX4_eliminate rmX4_eliminate (some .boolean)) {ex : gEx} (hZ : ∀ s : State, G.2.2.2 s → kC ex (gA G zC.1) s) (σ : gS) (p1 : Int32) (hF : fX4_eliminate σ p1 = some out) : WW M (gQi M G zC out.1 out.2) G zC 6 σ 0 [(0, .ref (G.2.1 96)), (1, .int p1)] [] := by
  unfold fX4_eliminate at hF
  refine ww_iload_n (pc := 0) X (j := 1) dX4_eliminate_0 rfl rfl ?_
  refine ww_istore_n (pc := 1) X (lv' := [(0, .ref (G.2.1 96)), (1, .int p1)]) dX4_eliminate_1 rfl (by decide) rfl hF (fun x1 ex1 hF => ?_)
  exact ww_sub [1, 2, 0] rfl (lpc_ind (P := (fun (s : Int32) => WW M (gQi M G zC out.1 out.2) G zC 6 σ 2 [(0, .ref (G.2.1 96)), (1, .int p1), (2, .int s)] [])) (fun rec s ih hF => wbX4_eliminate_2 X hZ σ p1 (fun a2 => rec (a2)) (fun a2 h => ih (a2) h) s hF) K9 (x1) hF)
set_option maxRecDepth 100000 in
set_option maxHeartbeats 4000000 in
theorem kX4_eliminate (l : Launch) (G : gG) {ex : gEx} (hZ : ∀ s : State, G.2.2.2 s → kC ex (gA G zC.1) s) (hG : gOK G zC.1) (hT : G.2.2.1.map (fun q => q.2) = zC.2.1) (σ : gS) (p1 : Int32) (out : Int32 × gS) (hF : fX4_eliminate σ p1 = some out) : gCi l yX4_eliminate wsX4_eliminate rmX4_eliminate G zC [.ref (G.2.1 96), .int p1] σ out.1 out.2 :=
  gEnter (by decide) rfl ⟨rfl, rfl⟩ hG hT (Nat.le_of_ble_eq_true rfl) rfl (fun M X hl => wX4_eliminate X hZ σ p1 hF)
noncomputable def bX4_solveFor_26 (σ : gS) (c26_3 : Int32) (rec26 : Int32 → gS → Option (Int32 × gS)) (a4 : Int32) (σ1 : gS) : Option (Int32 × gS) :=
  if (σ1.1 96 4) ≤ a4 then gd (gb c26_3 38) <| gd (gb (σ1.1 96 4) 39) <| nm (σ1.2 (99 + c26_3.toNatClampNeg) (σ1.1 96 4).toNatClampNeg) fun v11 => some (v11.toInt32, σ1) else bd2 (fX4_eliminate σ1 a4) fun r13 σ14 => (if r13 = 0 then some ((-1), σ14) else nm (a4 + 1 : Int32) fun x16 => rec26 x16 σ14)
noncomputable def fX4_solveFor (σ : gS) (p1 : Int32) (p2 : Int32) : Option (Int32 × gS) :=
  bd (fX4_numberUnknowns σ) fun σ2 => gd (gb p1 38) <| nm (σ2.1 97 p1.toNatClampNeg) fun v3 => nm (v3 : Int32) fun x4 => (if x4 = ((-1)) then some ((-1), σ2) else bd (fX4_fill σ2 p2) fun σ7 => nm (0 : Int32) fun x8 => lpc (S := Int32 × gS) K9 (fun rec s => bX4_solveFor_26 σ7 x4 (fun a4 σ1 => rec (a4, σ1)) s.1 s.2) (x8, σ7))
noncomputable abbrev rmX4_solveFor : Room := { frames := 3, cells := 0, slots := 0, locals := 75 }
set_option maxRecDepth 100000 in
set_option maxHeartbeats 4000000 in
theorem wbX4_solveFor_26 {M : gM} {G : gG} {out : Int32 × gS} (X : gX M G zC cX4_solveFor RX4 5 wsX4_solveFor rmX4_solveFor (some .int)) {ex : gEx} (hZ : ∀ s : State, G.2.2.2 s → kC ex (gA G zC.1) s) (σ : gS) (c26_3 : Int32) (rec26 : Int32 → gS → Option (Int32 × gS)) (ih26 : ∀ (a4 : Int32) (σ1 : gS), rec26 a4 σ1 = some out → WW M (gQi M G zC out.1 out.2) G zC 5 σ1 26 [(0, .ref (G.2.1 96)), (3, .int c26_3), (4, .int a4)] []) (a4 : Int32) (σ1 : gS) (hF : bX4_solveFor_26 σ c26_3 rec26 a4 σ1 = some out) : WW M (gQi M G zC out.1 out.2) G zC 5 σ1 26 [(0, .ref (G.2.1 96)), (3, .int c26_3), (4, .int a4)] [] := by
  unfold bX4_solveFor_26 at hF
  refine ww_iload (pc := 26) X (j := 2) dX4_solveFor_26 rfl ?_
  refine ww_aload_n (pc := 28) X (j := 0) dX4_solveFor_28 rfl rfl ?_
  refine ww_get (pc := 29) X (ref := "PictureBlock$Solver") (T := TX4) (j := 4) dX4_solveFor_29 inX4_solveFor_RX4 shzC_96 clzC_4 (by decide) rfl (List.mem_of_getElem? (i := 2) rfl) rfl ?_
  refine ww_icmp_ge (pc := 32) (tgt := 52) X dX4_solveFor_32 (by decide) hF (fun h9 hF => ?_) (fun h9 hF => ?_)
  · refine ww_aload_n (pc := 52) X (j := 0) dX4_solveFor_52 rfl rfl ?_
    refine ww_get (pc := 53) X (ref := "PictureBlock$Solver") (T := TX4) (j := 3) dX4_solveFor_53 inX4_solveFor_RX4 shzC_96 clzC_4 (by decide) rfl (List.mem_of_getElem? (i := 3) rfl) rfl ?_
    refine ww_iload_n (pc := 56) X (j := 1) dX4_solveFor_56 rfl rfl ?_
    refine ww_aald (pc := 57) X dX4_solveFor_57 shzC_98 rfl hF (fun h10 hF => ?_)
    refine ww_aload_n (pc := 58) X (j := 0) dX4_solveFor_58 rfl rfl ?_
    refine ww_get (pc := 59) X (ref := "PictureBlock$Solver") (T := TX4) (j := 4) dX4_solveFor_59 inX4_solveFor_RX4 shzC_96 clzC_4 (by decide) rfl (List.mem_of_getElem? (i := 2) rfl) rfl ?_
    refine ww_lald (pc := 62) X dX4_solveFor_62 (rwzC_98 _ (gb_lt h10)) rfl hF (fun v11 ev11 bv11 hF => ?_)
    refine ww_l2i (pc := 63) X dX4_solveFor_63 ?_
    exact ww_iret (pc := 64) X dX4_solveFor_64 (fst_of hF) (snd_of hF)
  · refine ww_aload_n (pc := 35) X (j := 0) dX4_solveFor_35 rfl rfl ?_
    refine ww_iload (pc := 36) X (j := 2) dX4_solveFor_36 rfl ?_
    obtain ⟨r13, σ14, h12, hF⟩ := bd2_some hF
    refine ww_callVi (pc := 38) X (As := [.int a4]) (rest := []) dX4_solveFor_38 (kX4_eliminate (mL M) G hZ X.2.2.2.2.2.2.1 X.2.2.2.2.2.2.2.1 σ1 a4 (r13, σ14) h12) rfl shzC_96 clzC_4 gX4_solveFor_X4_eliminate hyX4_eliminate ⟨rfl, rfl⟩ ⟨Nat.le_of_ble_eq_true rfl, Nat.le_of_ble_eq_true rfl⟩ rfl rfl (Nat.le_of_ble_eq_true rfl) ?_
    refine ww_if_ne (pc := 41) (tgt := 46) X dX4_solveFor_41 (by decide) hF (fun h15 hF => ?_) (fun h15 hF => ?_)
    · refine ww_iinc (pc := 46) X (j := 2) (v := 1) (lv' := [(0, .ref (G.2.1 96)), (3, .int c26_3)]) dX4_solveFor_46 rfl rfl (by decide) rfl hF (fun x16 ex16 hF => ?_)
      refine ww_goto (pc := 49) X (tgt := 26) dX4_solveFor_49 (by decide) ?_
      exact ww_sub [1, 2, 0] rfl (ih26 x16 σ14 hF)
    · refine ww_iconst (pc := 44) X (v := (-1)) dX4_solveFor_44 (by decide) ?_
      exact ww_iret (pc := 45) X dX4_solveFor_45 (fst_of hF) (snd_of hF)
set_option maxRecDepth 100000 in
set_option maxHeartbeats 4000000 in
theorem wX4_solveFor {M : gM} {G : gG} {out : Int32 × gS} (X : gX M G zC cX4_solveFor RX4 5 wsX4_solveFor rmX4_solveFor (some .int)) {ex : gEx} (hZ : ∀ s : State, G.2.2.2 s → kC ex (gA G zC.1) s) (σ : gS) (p1 : Int32) (p2 : Int32) (hF : fX4_solveFor σ p1 p2 = some out) : WW M (gQi M G zC out.1 out.2) G zC 5 σ 0 [(0, .ref (G.2.1 96)), (1, .int p1), (2, .int p2)] [] := by
  unfold fX4_solveFor at hF
  refine ww_aload_n (pc := 0) X (j := 0) dX4_solveFor_0 rfl rfl ?_
  obtain ⟨σ2, h1, hF⟩ := bd_some hF
  refine ww_callVv (pc := 1) X (As := []) (rest := []) dX4_solveFor_1 (kX4_numberUnknowns (mL M) G hZ X.2.2.2.2.2.2.1 X.2.2.2.2.2.2.2.1 σ σ2 h1) rfl shzC_96 clzC_4 gX4_solveFor_X4_numberUnknowns hyX4_numberUnknowns ⟨rfl, rfl⟩ ⟨Nat.le_of_ble_eq_true rfl, Nat.le_of_ble_eq_true rfl⟩ rfl rfl (Nat.le_of_ble_eq_true rfl) ?_
  refine ww_aload_n (pc := 4) X (j := 0) dX4_solveFor_4 rfl rfl ?_
  refine ww_get (pc := 5) X (ref := "PictureBlock$Solver") (T := TX4) (j := 2) dX4_solveFor_5 inX4_solveFor_RX4 shzC_96 clzC_4 (by decide) rfl (List.mem_of_getElem? (i := 1) rfl) rfl ?_
  refine ww_iload_n (pc := 8) X (j := 1) dX4_solveFor_8 rfl rfl ?_
  refine ww_iald (pc := 9) X dX4_solveFor_9 shzC_97 rfl hF (fun v3 ev3 bv3 hF => ?_)
  refine ww_istore_n (pc := 10) X (lv' := [(0, .ref (G.2.1 96)), (1, .int p1), (2, .int p2)]) dX4_solveFor_10 rfl (by decide) rfl hF (fun x4 ex4 hF => ?_)
  refine ww_iload_n (pc := 11) X (j := 0) dX4_solveFor_11 rfl rfl ?_
  refine ww_iconst (pc := 12) X (v := (-1)) dX4_solveFor_12 (by decide) ?_
  refine ww_icmp_ne (pc := 13) (tgt := 18) X dX4_solveFor_13 (by decide) hF (fun h5 hF => ?_) (fun h5 hF => ?_)
  · refine ww_aload_n (pc := 18) X (j := 1) dX4_solveFor_18 rfl rfl ?_
    refine ww_iload_n (pc := 19) X (j := 3) dX4_solveFor_19 rfl rfl ?_
    obtain ⟨σ7, h6, hF⟩ := bd_some hF
    refine ww_callVv (pc := 20) X (As := [.int p2]) (rest := []) dX4_solveFor_20 (kX4_fill (mL M) G hZ X.2.2.2.2.2.2.1 X.2.2.2.2.2.2.2.1 σ2 p2 σ7 h6) rfl shzC_96 clzC_4 gX4_solveFor_X4_fill hyX4_fill ⟨rfl, rfl⟩ ⟨Nat.le_of_ble_eq_true rfl, Nat.le_of_ble_eq_true rfl⟩ rfl rfl (Nat.le_of_ble_eq_true rfl) ?_
    refine ww_iconst (pc := 23) X (v := 0) dX4_solveFor_23 (by decide) ?_
    refine ww_istore (pc := 24) X (lv' := [(3, .int x4), (0, .ref (G.2.1 96)), (1, .int p1), (2, .int p2)]) dX4_solveFor_24 (by decide) rfl hF (fun x8 ex8 hF => ?_)
    exact ww_sub [2, 1, 0] rfl (lpc_ind (P := (fun (s : Int32 × gS) => WW M (gQi M G zC out.1 out.2) G zC 5 s.2 26 [(0, .ref (G.2.1 96)), (3, .int x4), (4, .int s.1)] [])) (fun rec s ih hF => wbX4_solveFor_26 X hZ σ7 x4 (fun a4 σ1 => rec (a4, σ1)) (fun a4 σ1 h => ih (a4, σ1) h) s.1 s.2 hF) K9 (x8, σ7) hF)
  · refine ww_iconst (pc := 16) X (v := (-1)) dX4_solveFor_16 (by decide) ?_
    exact ww_iret (pc := 17) X dX4_solveFor_17 (fst_of hF) (snd_of hF)
set_option maxRecDepth 100000 in
set_option maxHeartbeats 4000000 in
theorem kX4_solveFor (l : Launch) (G : gG) {ex : gEx} (hZ : ∀ s : State, G.2.2.2 s → kC ex (gA G zC.1) s) (hG : gOK G zC.1) (hT : G.2.2.1.map (fun q => q.2) = zC.2.1) (σ : gS) (p1 : Int32) (p2 : Int32) (out : Int32 × gS) (hF : fX4_solveFor σ p1 p2 = some out) : gCi l yX4_solveFor wsX4_solveFor rmX4_solveFor G zC [.ref (G.2.1 96), .int p1, .int p2] σ out.1 out.2 :=
  gEnter (by decide) rfl ⟨rfl, rfl⟩ hG hT (Nat.le_of_ble_eq_true rfl) rfl (fun M X hl => wX4_solveFor X hZ σ p1 p2 hF)
noncomputable def jX9_whole_105 (σ : gS) (a1 : Int32) (a2 : Int32) (a3 : Int32) : Option (Int32 × gS) :=
  if a1 = 2 then bd (fX8_exists_2 σ 0 a2) fun r10 => (if r10 = 0 then some ((-1), σ) else bd2 (fX4_solveFor σ (32 + a2) a3) fun r13 σ14 => some (r13, σ14)) else some ((-1), σ)
noncomputable def jX9_whole_44 (σ : gS) (a1 : Int32) (a2 : Int32) (a3 : Int32) : Option (Int32 × gS) :=
  if a1 = 1 then bd (fX8_exists_2 σ 2 a2) fun r16 => (if r16 = 0 then jX9_whole_105 σ a1 a2 a3 else bd (fX5_isFixed_47 σ a2) fun r19 => (if r19 = 0 then bd2 (fX4_solveFor σ (12 + a2) a3) fun r22 σ23 => some (r22, σ23) else gd (gb a3 2) <| gd (gb a2 20) <| nm (σ.1 (53 + a3.toNatClampNeg) a2.toNatClampNeg) fun v25 => bd (fJ9_floorMod_f86c9 σ v25.toInt64 1000003) fun r27 => some (r27.toInt32, σ))) else jX9_whole_105 σ a1 a2 a3
noncomputable def fX9_whole (σ : gS) (p1 : Int32) (p2 : Int32) (p3 : Int32) : Option (Int32 × gS) :=
  if p1 < 0 then some ((-1), σ) else if 2 < p1 then some ((-1), σ) else bd (fX9_isAxis σ p3) fun r4 => (if r4 = 0 then some ((-1), σ) else if p1 = 0 then bd (fX8_exists_2 σ 1 p2) fun r29 => (if r29 = 0 then jX9_whole_44 σ p1 p2 p3 else bd2 (fX4_solveFor σ p2 p3) fun r32 σ33 => some (r32, σ33)) else jX9_whole_44 σ p1 p2 p3)
noncomputable abbrev rmX9_whole : Room := { frames := 4, cells := 0, slots := 0, locals := 99 }
set_option maxRecDepth 100000 in
set_option maxHeartbeats 4000000 in
theorem wjX9_whole_105 {M : gM} {G : gG} {out : Int32 × gS} (X : gX M G zC cX9_whole RX9 4 wsX9_whole rmX9_whole (some .int)) {ex : gEx} (hZ : ∀ s : State, G.2.2.2 s → kC ex (gA G zC.1) s) (σ : gS) (a1 : Int32) (a2 : Int32) (a3 : Int32) (hF : jX9_whole_105 σ a1 a2 a3 = some out) : WW M (gQi M G zC out.1 out.2) G zC 4 σ 105 [(0, .ref (G.2.1 0)), (1, .int a1), (2, .int a2), (3, .int a3)] [] := by
  unfold jX9_whole_105 at hF
  refine ww_iload_n (pc := 105) X (j := 1) dX9_whole_105 rfl rfl ?_
  refine ww_iconst (pc := 106) X (v := 2) dX9_whole_106 (by decide) ?_
  refine ww_icmp_ne (pc := 107) (tgt := 135) X dX9_whole_107 (by decide) hF (fun h8 hF => ?_) (fun h8 hF => ?_)
  · refine ww_iconst (pc := 135) X (v := (-1)) dX9_whole_135 (by decide) ?_
    exact ww_iret (pc := 136) X dX9_whole_136 (fst_of hF) (snd_of hF)
  · refine ww_aload_n (pc := 110) X (j := 0) dX9_whole_110 rfl rfl ?_
    refine ww_get (pc := 111) X (ref := "PictureBlock") (T := TX9) (j := 2) dX9_whole_111 inX9_whole_RX9 shzC_0 clzC_9 (by decide) rfl (List.mem_of_getElem? (i := 1) rfl) rfl ?_
    refine ww_iconst (pc := 114) X (v := 0) dX9_whole_114 (by decide) ?_
    refine ww_iload_n (pc := 115) X (j := 2) dX9_whole_115 rfl rfl ?_
    obtain ⟨r10, h9, hF⟩ := bd_some hF
    refine ww_callVi (pc := 116) X (As := [.int 0, .int a2]) (rest := []) dX9_whole_116 (kX8_exists_2 (mL M) G hZ X.2.2.2.2.2.2.1 X.2.2.2.2.2.2.2.1 σ 0 a2 r10 h9) rfl shzC_2 clzC_8 gX9_whole_X8_exists hyX8_exists ⟨rfl, rfl⟩ ⟨Nat.le_of_ble_eq_true rfl, Nat.le_of_ble_eq_true rfl⟩ rfl rfl (Nat.le_of_ble_eq_true rfl) ?_
    refine ww_if_eq (pc := 119) (tgt := 135) X dX9_whole_119 (by decide) hF (fun h11 hF => ?_) (fun h11 hF => ?_)
    · refine ww_iconst (pc := 135) X (v := (-1)) dX9_whole_135 (by decide) ?_
      exact ww_iret (pc := 136) X dX9_whole_136 (fst_of hF) (snd_of hF)
    · refine ww_aload_n (pc := 122) X (j := 0) dX9_whole_122 rfl rfl ?_
      refine ww_get (pc := 123) X (ref := "PictureBlock") (T := TX9) (j := 10) dX9_whole_123 inX9_whole_RX9 shzC_0 clzC_9 (by decide) rfl (List.mem_of_getElem? (i := 2) rfl) rfl ?_
      refine ww_bipush (pc := 126) X (v := 32) dX9_whole_126 (by decide) ?_
      refine ww_iload_n (pc := 128) X (j := 2) dX9_whole_128 rfl rfl ?_
      refine ww_iadd (pc := 129) X dX9_whole_129 ?_
      refine ww_iload_n (pc := 130) X (j := 3) dX9_whole_130 rfl rfl ?_
      obtain ⟨r13, σ14, h12, hF⟩ := bd2_some hF
      refine ww_callVi (pc := 131) X (As := [.int (32 + a2), .int a3]) (rest := []) dX9_whole_131 (kX4_solveFor (mL M) G hZ X.2.2.2.2.2.2.1 X.2.2.2.2.2.2.2.1 σ (32 + a2) a3 (r13, σ14) h12) rfl shzC_96 clzC_4 gX9_whole_X4_solveFor hyX4_solveFor ⟨rfl, rfl⟩ ⟨Nat.le_of_ble_eq_true rfl, Nat.le_of_ble_eq_true rfl⟩ rfl rfl (Nat.le_of_ble_eq_true rfl) ?_
      exact ww_iret (pc := 134) X dX9_whole_134 (fst_of hF) (snd_of hF)
set_option maxRecDepth 100000 in
set_option maxHeartbeats 4000000 in
theorem wjX9_whole_44 {M : gM} {G : gG} {out : Int32 × gS} (X : gX M G zC cX9_whole RX9 4 wsX9_whole rmX9_whole (some .int)) {ex : gEx} (hZ : ∀ s : State, G.2.2.2 s → kC ex (gA G zC.1) s) (σ : gS) (a1 : Int32) (a2 : Int32) (a3 : Int32) (hF : jX9_whole_44 σ a1 a2 a3 = some out) : WW M (gQi M G zC out.1 out.2) G zC 4 σ 44 [(0, .ref (G.2.1 0)), (1, .int a1), (2, .int a2), (3, .int a3)] [] := by
  unfold jX9_whole_44 at hF
  refine ww_iload_n (pc := 44) X (j := 1) dX9_whole_44 rfl rfl ?_
  refine ww_iconst (pc := 45) X (v := 1) dX9_whole_45 (by decide) ?_
  refine ww_icmp_ne (pc := 46) (tgt := 105) X dX9_whole_46 (by decide) hF (fun h7 hF => ?_) (fun h7 hF => ?_)
  · exact ww_sub [0, 1, 2, 3] rfl (wjX9_whole_105 X hZ σ a1 a2 a3 hF)
  · refine ww_aload_n (pc := 49) X (j := 0) dX9_whole_49 rfl rfl ?_
    refine ww_get (pc := 50) X (ref := "PictureBlock") (T := TX9) (j := 2) dX9_whole_50 inX9_whole_RX9 shzC_0 clzC_9 (by decide) rfl (List.mem_of_getElem? (i := 1) rfl) rfl ?_
    refine ww_iconst (pc := 53) X (v := 2) dX9_whole_53 (by decide) ?_
    refine ww_iload_n (pc := 54) X (j := 2) dX9_whole_54 rfl rfl ?_
    obtain ⟨r16, h15, hF⟩ := bd_some hF
    refine ww_callVi (pc := 55) X (As := [.int 2, .int a2]) (rest := []) dX9_whole_55 (kX8_exists_2 (mL M) G hZ X.2.2.2.2.2.2.1 X.2.2.2.2.2.2.2.1 σ 2 a2 r16 h15) rfl shzC_2 clzC_8 gX9_whole_X8_exists hyX8_exists ⟨rfl, rfl⟩ ⟨Nat.le_of_ble_eq_true rfl, Nat.le_of_ble_eq_true rfl⟩ rfl rfl (Nat.le_of_ble_eq_true rfl) ?_
    refine ww_if_eq (pc := 58) (tgt := 105) X dX9_whole_58 (by decide) hF (fun h17 hF => ?_) (fun h17 hF => ?_)
    · exact ww_sub [0, 1, 2, 3] rfl (wjX9_whole_105 X hZ σ a1 a2 a3 hF)
    · refine ww_aload_n (pc := 61) X (j := 0) dX9_whole_61 rfl rfl ?_
      refine ww_get (pc := 62) X (ref := "PictureBlock") (T := TX9) (j := 5) dX9_whole_62 inX9_whole_RX9 shzC_0 clzC_9 (by decide) rfl (List.mem_of_getElem? (i := 3) rfl) rfl ?_
      refine ww_iload_n (pc := 65) X (j := 2) dX9_whole_65 rfl rfl ?_
      obtain ⟨r19, h18, hF⟩ := bd_some hF
      refine ww_callVi (pc := 66) X (As := [.int a2]) (rest := []) dX9_whole_66 (kX5_isFixed_47 (mL M) G hZ X.2.2.2.2.2.2.1 X.2.2.2.2.2.2.2.1 σ a2 r19 h18) rfl shzC_47 clzC_5 gX9_whole_X5_isFixed hyX5_isFixed ⟨rfl, rfl⟩ ⟨Nat.le_of_ble_eq_true rfl, Nat.le_of_ble_eq_true rfl⟩ rfl rfl (Nat.le_of_ble_eq_true rfl) ?_
      refine ww_if_eq (pc := 69) (tgt := 92) X dX9_whole_69 (by decide) hF (fun h20 hF => ?_) (fun h20 hF => ?_)
      · refine ww_aload_n (pc := 92) X (j := 0) dX9_whole_92 rfl rfl ?_
        refine ww_get (pc := 93) X (ref := "PictureBlock") (T := TX9) (j := 10) dX9_whole_93 inX9_whole_RX9 shzC_0 clzC_9 (by decide) rfl (List.mem_of_getElem? (i := 2) rfl) rfl ?_
        refine ww_bipush (pc := 96) X (v := 12) dX9_whole_96 (by decide) ?_
        refine ww_iload_n (pc := 98) X (j := 2) dX9_whole_98 rfl rfl ?_
        refine ww_iadd (pc := 99) X dX9_whole_99 ?_
        refine ww_iload_n (pc := 100) X (j := 3) dX9_whole_100 rfl rfl ?_
        obtain ⟨r22, σ23, h21, hF⟩ := bd2_some hF
        refine ww_callVi (pc := 101) X (As := [.int (12 + a2), .int a3]) (rest := []) dX9_whole_101 (kX4_solveFor (mL M) G hZ X.2.2.2.2.2.2.1 X.2.2.2.2.2.2.2.1 σ (12 + a2) a3 (r22, σ23) h21) rfl shzC_96 clzC_4 gX9_whole_X4_solveFor hyX4_solveFor ⟨rfl, rfl⟩ ⟨Nat.le_of_ble_eq_true rfl, Nat.le_of_ble_eq_true rfl⟩ rfl rfl (Nat.le_of_ble_eq_true rfl) ?_
        exact ww_iret (pc := 104) X dX9_whole_104 (fst_of hF) (snd_of hF)
      · refine ww_aload_n (pc := 72) X (j := 0) dX9_whole_72 rfl rfl ?_
        refine ww_get (pc := 73) X (ref := "PictureBlock") (T := TX9) (j := 5) dX9_whole_73 inX9_whole_RX9 shzC_0 clzC_9 (by decide) rfl (List.mem_of_getElem? (i := 3) rfl) rfl ?_
        refine ww_get (pc := 76) X (ref := "PictureBlock$Stand") (T := TX5) (j := 4) dX9_whole_76 inX9_whole_RX5 shzC_47 clzC_5 (by decide) rfl (List.mem_of_getElem? (i := 4) rfl) rfl ?_
        refine ww_iload_n (pc := 79) X (j := 3) dX9_whole_79 rfl rfl ?_
        refine ww_aald (pc := 80) X dX9_whole_80 shzC_52 rfl hF (fun h24 hF => ?_)
        refine ww_iload_n (pc := 81) X (j := 2) dX9_whole_81 rfl rfl ?_
        refine ww_iald (pc := 82) X dX9_whole_82 (rwzC_52 _ (gb_lt h24)) rfl hF (fun v25 ev25 bv25 hF => ?_)
        refine ww_i2l (pc := 83) X dX9_whole_83 ?_
        refine ww_ldc2 (pc := 84) X (v := 1000003) (List.mem_of_getElem? (i := 5) rfl) dX9_whole_84 ?_
        obtain ⟨r27, h26, hF⟩ := bd_some hF
        refine ww_callSl (pc := 87) X (As := [.long v25.toInt64, .long 1000003]) (rest := []) dX9_whole_87 (kJ9_floorMod_f86c9 (mL M) G hZ X.2.2.2.2.2.2.1 X.2.2.2.2.2.2.2.1 σ v25.toInt64 1000003 r27 h26) rfl gX9_whole_J9_floorMod_f86c9 hyJ9_floorMod_f86c9 ⟨rfl, rfl⟩ ⟨Nat.le_of_ble_eq_true rfl, Nat.le_of_ble_eq_true rfl⟩ rfl rfl (Nat.le_of_ble_eq_true rfl) ?_
        refine ww_l2i (pc := 90) X dX9_whole_90 ?_
        exact ww_iret (pc := 91) X dX9_whole_91 (fst_of hF) (snd_of hF)
set_option maxRecDepth 100000 in
set_option maxHeartbeats 4000000 in
theorem wX9_whole {M : gM} {G : gG} {out : Int32 × gS} (X : gX M G zC cX9_whole RX9 4 wsX9_whole rmX9_whole (some .int)) {ex : gEx} (hZ : ∀ s : State, G.2.2.2 s → kC ex (gA G zC.1) s) (σ : gS) (p1 : Int32) (p2 : Int32) (p3 : Int32) (hF : fX9_whole σ p1 p2 p3 = some out) : WW M (gQi M G zC out.1 out.2) G zC 4 σ 0 [(0, .ref (G.2.1 0)), (1, .int p1), (2, .int p2), (3, .int p3)] [] := by
  unfold fX9_whole at hF
  refine ww_iload_n (pc := 0) X (j := 1) dX9_whole_0 rfl rfl ?_
  refine ww_if_lt (pc := 1) (tgt := 16) X dX9_whole_1 (by decide) hF (fun h1 hF => ?_) (fun h1 hF => ?_)
  · refine ww_iconst (pc := 16) X (v := (-1)) dX9_whole_16 (by decide) ?_
    exact ww_iret (pc := 17) X dX9_whole_17 (fst_of hF) (snd_of hF)
  · refine ww_iload_n (pc := 4) X (j := 1) dX9_whole_4 rfl rfl ?_
    refine ww_iconst (pc := 5) X (v := 2) dX9_whole_5 (by decide) ?_
    refine ww_icmp_gt (pc := 6) (tgt := 16) X dX9_whole_6 (by decide) hF (fun h2 hF => ?_) (fun h2 hF => ?_)
    · refine ww_iconst (pc := 16) X (v := (-1)) dX9_whole_16 (by decide) ?_
      exact ww_iret (pc := 17) X dX9_whole_17 (fst_of hF) (snd_of hF)
    · refine ww_iload_n (pc := 9) X (j := 3) dX9_whole_9 rfl rfl ?_
      obtain ⟨r4, h3, hF⟩ := bd_some hF
      refine ww_callSi (pc := 10) X (As := [.int p3]) (rest := []) dX9_whole_10 (kX9_isAxis (mL M) G hZ X.2.2.2.2.2.2.1 X.2.2.2.2.2.2.2.1 σ p3 r4 h3) rfl gX9_whole_X9_isAxis hyX9_isAxis ⟨rfl, rfl⟩ ⟨Nat.le_of_ble_eq_true rfl, Nat.le_of_ble_eq_true rfl⟩ rfl rfl (Nat.le_of_ble_eq_true rfl) ?_
      refine ww_if_ne (pc := 13) (tgt := 18) X dX9_whole_13 (by decide) hF (fun h5 hF => ?_) (fun h5 hF => ?_)
      · refine ww_iload_n (pc := 18) X (j := 1) dX9_whole_18 rfl rfl ?_
        refine ww_if_ne (pc := 19) (tgt := 44) X dX9_whole_19 (by decide) hF (fun h6 hF => ?_) (fun h6 hF => ?_)
        · exact ww_sub [0, 1, 2, 3] rfl (wjX9_whole_44 X hZ σ p1 p2 p3 hF)
        · refine ww_aload_n (pc := 22) X (j := 0) dX9_whole_22 rfl rfl ?_
          refine ww_get (pc := 23) X (ref := "PictureBlock") (T := TX9) (j := 2) dX9_whole_23 inX9_whole_RX9 shzC_0 clzC_9 (by decide) rfl (List.mem_of_getElem? (i := 1) rfl) rfl ?_
          refine ww_iconst (pc := 26) X (v := 1) dX9_whole_26 (by decide) ?_
          refine ww_iload_n (pc := 27) X (j := 2) dX9_whole_27 rfl rfl ?_
          obtain ⟨r29, h28, hF⟩ := bd_some hF
          refine ww_callVi (pc := 28) X (As := [.int 1, .int p2]) (rest := []) dX9_whole_28 (kX8_exists_2 (mL M) G hZ X.2.2.2.2.2.2.1 X.2.2.2.2.2.2.2.1 σ 1 p2 r29 h28) rfl shzC_2 clzC_8 gX9_whole_X8_exists hyX8_exists ⟨rfl, rfl⟩ ⟨Nat.le_of_ble_eq_true rfl, Nat.le_of_ble_eq_true rfl⟩ rfl rfl (Nat.le_of_ble_eq_true rfl) ?_
          refine ww_if_eq (pc := 31) (tgt := 44) X dX9_whole_31 (by decide) hF (fun h30 hF => ?_) (fun h30 hF => ?_)
          · exact ww_sub [0, 1, 2, 3] rfl (wjX9_whole_44 X hZ σ p1 p2 p3 hF)
          · refine ww_aload_n (pc := 34) X (j := 0) dX9_whole_34 rfl rfl ?_
            refine ww_get (pc := 35) X (ref := "PictureBlock") (T := TX9) (j := 10) dX9_whole_35 inX9_whole_RX9 shzC_0 clzC_9 (by decide) rfl (List.mem_of_getElem? (i := 2) rfl) rfl ?_
            refine ww_iload_n (pc := 38) X (j := 2) dX9_whole_38 rfl rfl ?_
            refine ww_iload_n (pc := 39) X (j := 3) dX9_whole_39 rfl rfl ?_
            obtain ⟨r32, σ33, h31, hF⟩ := bd2_some hF
            refine ww_callVi (pc := 40) X (As := [.int p2, .int p3]) (rest := []) dX9_whole_40 (kX4_solveFor (mL M) G hZ X.2.2.2.2.2.2.1 X.2.2.2.2.2.2.2.1 σ p2 p3 (r32, σ33) h31) rfl shzC_96 clzC_4 gX9_whole_X4_solveFor hyX4_solveFor ⟨rfl, rfl⟩ ⟨Nat.le_of_ble_eq_true rfl, Nat.le_of_ble_eq_true rfl⟩ rfl rfl (Nat.le_of_ble_eq_true rfl) ?_
            exact ww_iret (pc := 43) X dX9_whole_43 (fst_of hF) (snd_of hF)
      · refine ww_iconst (pc := 16) X (v := (-1)) dX9_whole_16 (by decide) ?_
        exact ww_iret (pc := 17) X dX9_whole_17 (fst_of hF) (snd_of hF)
set_option maxRecDepth 100000 in
set_option maxHeartbeats 4000000 in
theorem kX9_whole (l : Launch) (G : gG) {ex : gEx} (hZ : ∀ s : State, G.2.2.2 s → kC ex (gA G zC.1) s) (hG : gOK G zC.1) (hT : G.2.2.1.map (fun q => q.2) = zC.2.1) (σ : gS) (p1 : Int32) (p2 : Int32) (p3 : Int32) (out : Int32 × gS) (hF : fX9_whole σ p1 p2 p3 = some out) : gCi l yX9_whole wsX9_whole rmX9_whole G zC [.ref (G.2.1 0), .int p1, .int p2, .int p3] σ out.1 out.2 :=
  gEnter (by decide) rfl ⟨rfl, rfl⟩ hG hT (Nat.le_of_ble_eq_true rfl) rfl (fun M X hl => wX9_whole X hZ σ p1 p2 p3 hF)
noncomputable def fX9_sets (σ : gS) (p1 : Int32) : Option (Int32 × gS) :=
  if p1 < 0 then some ((-1), σ) else if p1 ≤ 3 then nm (gsI σ 47 1 p1) fun σ3 => bd (fX5_placeFixed_47 σ3) fun σ5 => bd (fX5_countFixed_47 σ5) fun r7 => some (r7, σ5) else some ((-1), σ)
noncomputable abbrev rmX9_sets : Room := { frames := 2, cells := 0, slots := 0, locals := 43 }
set_option maxRecDepth 100000 in
set_option maxHeartbeats 4000000 in
theorem wX9_sets {M : gM} {G : gG} {out : Int32 × gS} (X : gX M G zC cX9_sets RX9 2 wsX9_sets rmX9_sets (some .int)) {ex : gEx} (hZ : ∀ s : State, G.2.2.2 s → kC ex (gA G zC.1) s) (σ : gS) (p1 : Int32) (hF : fX9_sets σ p1 = some out) : WW M (gQi M G zC out.1 out.2) G zC 2 σ 0 [(0, .ref (G.2.1 0)), (1, .int p1)] [] := by
  unfold fX9_sets at hF
  refine ww_iload_n (pc := 0) X (j := 1) dX9_sets_0 rfl rfl ?_
  refine ww_if_lt (pc := 1) (tgt := 9) X dX9_sets_1 (by decide) hF (fun h1 hF => ?_) (fun h1 hF => ?_)
  · refine ww_iconst (pc := 9) X (v := (-1)) dX9_sets_9 (by decide) ?_
    exact ww_iret (pc := 10) X dX9_sets_10 (fst_of hF) (snd_of hF)
  · refine ww_iload_n (pc := 4) X (j := 1) dX9_sets_4 rfl rfl ?_
    refine ww_iconst (pc := 5) X (v := 3) dX9_sets_5 (by decide) ?_
    refine ww_icmp_le (pc := 6) (tgt := 11) X dX9_sets_6 (by decide) hF (fun h2 hF => ?_) (fun h2 hF => ?_)
    · refine ww_aload_n (pc := 11) X (j := 0) dX9_sets_11 rfl rfl ?_
      refine ww_get (pc := 12) X (ref := "PictureBlock") (T := TX9) (j := 5) dX9_sets_12 inX9_sets_RX9 shzC_0 clzC_9 (by decide) rfl (List.mem_of_getElem? (i := 1) rfl) rfl ?_
      refine ww_iload_n (pc := 15) X (j := 1) dX9_sets_15 rfl rfl ?_
      refine ww_putI (pc := 16) X (ref := "PictureBlock$Stand") (T := TX5) (j := 1) dX9_sets_16 inX9_sets_RX5 tyX5 tyX5_ok nmX5 shzC_47 clzC_5 (by decide) rfl (List.mem_of_getElem? (i := 2) rfl) rfl rfl (by decide +kernel) hF (fun σ3 eσ3 hF => ?_)
      refine ww_aload_n (pc := 19) X (j := 0) dX9_sets_19 rfl rfl ?_
      refine ww_get (pc := 20) X (ref := "PictureBlock") (T := TX9) (j := 5) dX9_sets_20 inX9_sets_RX9 shzC_0 clzC_9 (by decide) rfl (List.mem_of_getElem? (i := 1) rfl) rfl ?_
      obtain ⟨σ5, h4, hF⟩ := bd_some hF
      refine ww_callVv (pc := 23) X (As := []) (rest := []) dX9_sets_23 (kX5_placeFixed_47 (mL M) G hZ X.2.2.2.2.2.2.1 X.2.2.2.2.2.2.2.1 σ3 σ5 h4) rfl shzC_47 clzC_5 gX9_sets_X5_placeFixed hyX5_placeFixed ⟨rfl, rfl⟩ ⟨Nat.le_of_ble_eq_true rfl, Nat.le_of_ble_eq_true rfl⟩ rfl rfl (Nat.le_of_ble_eq_true rfl) ?_
      refine ww_aload_n (pc := 26) X (j := 0) dX9_sets_26 rfl rfl ?_
      refine ww_get (pc := 27) X (ref := "PictureBlock") (T := TX9) (j := 5) dX9_sets_27 inX9_sets_RX9 shzC_0 clzC_9 (by decide) rfl (List.mem_of_getElem? (i := 1) rfl) rfl ?_
      obtain ⟨r7, h6, hF⟩ := bd_some hF
      refine ww_callVi (pc := 30) X (As := []) (rest := []) dX9_sets_30 (kX5_countFixed_47 (mL M) G hZ X.2.2.2.2.2.2.1 X.2.2.2.2.2.2.2.1 σ5 r7 h6) rfl shzC_47 clzC_5 gX9_sets_X5_countFixed hyX5_countFixed ⟨rfl, rfl⟩ ⟨Nat.le_of_ble_eq_true rfl, Nat.le_of_ble_eq_true rfl⟩ rfl rfl (Nat.le_of_ble_eq_true rfl) ?_
      exact ww_iret (pc := 33) X dX9_sets_33 (fst_of hF) (snd_of hF)
    · refine ww_iconst (pc := 9) X (v := (-1)) dX9_sets_9 (by decide) ?_
      exact ww_iret (pc := 10) X dX9_sets_10 (fst_of hF) (snd_of hF)
set_option maxRecDepth 100000 in
set_option maxHeartbeats 4000000 in
theorem kX9_sets (l : Launch) (G : gG) {ex : gEx} (hZ : ∀ s : State, G.2.2.2 s → kC ex (gA G zC.1) s) (hG : gOK G zC.1) (hT : G.2.2.1.map (fun q => q.2) = zC.2.1) (σ : gS) (p1 : Int32) (out : Int32 × gS) (hF : fX9_sets σ p1 = some out) : gCi l yX9_sets wsX9_sets rmX9_sets G zC [.ref (G.2.1 0), .int p1] σ out.1 out.2 :=
  gEnter (by decide) rfl ⟨rfl, rfl⟩ hG hT (Nat.le_of_ble_eq_true rfl) rfl (fun M X hl => wX9_sets X hZ σ p1 hF)
noncomputable def bX2_countParts_27 (σ : gS) (c27_1 : Int32) (c27_2 : Int32) (rec9 : Int32 → Int32 → Option (Int32 × gS)) (rec27 : Int32 → Int32 → Option (Int32 × gS)) (a3 : Int32) (a4 : Int32) : Option (Int32 × gS) :=
  if c27_2 ≤ a4 then if a3 = 0 then nm (c27_2 + 1 : Int32) fun x11 => rec9 c27_1 x11 else nm (c27_1 + 1 : Int32) fun x12 => nm (c27_2 + 1 : Int32) fun x13 => rec9 x12 x13 else gd (gb a4 32) <| nm (σ.1 138 a4.toNatClampNeg) fun v14 => gd (gb c27_2 32) <| nm (σ.1 138 c27_2.toNatClampNeg) fun v15 => (if v14 = v15 then nm (0 : Int32) fun x18 => nm (a4 + 1 : Int32) fun x19 => rec27 x18 x19 else nm (a4 + 1 : Int32) fun x17 => rec27 a3 x17)
noncomputable def bX2_countParts_9 (σ : gS) (rec9 : Int32 → Int32 → Option (Int32 × gS)) (a1 : Int32) (a2 : Int32) : Option (Int32 × gS) :=
  gd (gb 1 6) <| nm (σ.1 3 ((1 : Int32).toNatClampNeg)) fun v5 => (if v5 ≤ a2 then some (a1, σ) else nm (1 : Int32) fun x7 => nm (0 : Int32) fun x8 => lpc (S := Int32 × Int32) K9 (fun rec s => bX2_countParts_27 σ a1 a2 rec9 (fun a3 a4 => rec (a3, a4)) s.1 s.2) (x7, x8))
noncomputable def fX2_countParts (σ : gS) : Option (Int32 × gS) :=
  bd (fX2_joinAll σ ((-1))) fun σ2 => nm (0 : Int32) fun x3 => nm (0 : Int32) fun x4 => lpc (S := Int32 × Int32) K9 (fun rec s => bX2_countParts_9 σ2 (fun a1 a2 => rec (a1, a2)) s.1 s.2) (x3, x4)
noncomputable abbrev rmX2_countParts : Room := { frames := 2, cells := 0, slots := 0, locals := 46 }
set_option maxRecDepth 100000 in
set_option maxHeartbeats 4000000 in
theorem wbX2_countParts_27 {M : gM} {G : gG} {out : Int32 × gS} (X : gX M G zC cX2_countParts RX2 5 wsX2_countParts rmX2_countParts (some .int)) {ex : gEx} (hZ : ∀ s : State, G.2.2.2 s → kC ex (gA G zC.1) s) (σ : gS) (c27_1 : Int32) (c27_2 : Int32) (rec9 : Int32 → Int32 → Option (Int32 × gS)) (ih9 : ∀ (a1 : Int32) (a2 : Int32), rec9 a1 a2 = some out → WW M (gQi M G zC out.1 out.2) G zC 5 σ 9 [(0, .ref (G.2.1 137)), (1, .int a1), (2, .int a2)] []) (rec27 : Int32 → Int32 → Option (Int32 × gS)) (ih27 : ∀ (a3 : Int32) (a4 : Int32), rec27 a3 a4 = some out → WW M (gQi M G zC out.1 out.2) G zC 5 σ 27 [(0, .ref (G.2.1 137)), (1, .int c27_1), (2, .int c27_2), (3, .int a3), (4, .int a4)] []) (a3 : Int32) (a4 : Int32) (hF : bX2_countParts_27 σ c27_1 c27_2 rec9 rec27 a3 a4 = some out) : WW M (gQi M G zC out.1 out.2) G zC 5 σ 27 [(0, .ref (G.2.1 137)), (1, .int c27_1), (2, .int c27_2), (3, .int a3), (4, .int a4)] [] := by
  unfold bX2_countParts_27 at hF
  refine ww_iload (pc := 27) X (j := 4) dX2_countParts_27 rfl ?_
  refine ww_iload_n (pc := 29) X (j := 2) dX2_countParts_29 rfl rfl ?_
  refine ww_icmp_ge (pc := 30) (tgt := 57) X dX2_countParts_30 (by decide) hF (fun h9 hF => ?_) (fun h9 hF => ?_)
  · refine ww_iload_n (pc := 57) X (j := 3) dX2_countParts_57 rfl rfl ?_
    refine ww_if_eq (pc := 58) (tgt := 64) X dX2_countParts_58 (by decide) hF (fun h10 hF => ?_) (fun h10 hF => ?_)
    · refine ww_iinc (pc := 64) X (j := 2) (v := 1) (lv' := [(0, .ref (G.2.1 137)), (1, .int c27_1), (3, .int a3), (4, .int a4)]) dX2_countParts_64 rfl rfl (by decide) rfl hF (fun x11 ex11 hF => ?_)
      refine ww_goto (pc := 67) X (tgt := 9) dX2_countParts_67 (by decide) ?_
      exact ww_sub [1, 2, 0] rfl (ih9 c27_1 x11 hF)
    · refine ww_iinc (pc := 61) X (j := 1) (v := 1) (lv' := [(0, .ref (G.2.1 137)), (2, .int c27_2), (3, .int a3), (4, .int a4)]) dX2_countParts_61 rfl rfl (by decide) rfl hF (fun x12 ex12 hF => ?_)
      refine ww_iinc (pc := 64) X (j := 2) (v := 1) (lv' := [(1, .int x12), (0, .ref (G.2.1 137)), (3, .int a3), (4, .int a4)]) dX2_countParts_64 rfl rfl (by decide) rfl hF (fun x13 ex13 hF => ?_)
      refine ww_goto (pc := 67) X (tgt := 9) dX2_countParts_67 (by decide) ?_
      exact ww_sub [2, 1, 0] rfl (ih9 x12 x13 hF)
  · refine ww_aload_n (pc := 33) X (j := 0) dX2_countParts_33 rfl rfl ?_
    refine ww_get (pc := 34) X (ref := "PictureBlock$Net") (T := TX2) (j := 2) dX2_countParts_34 inX2_countParts_RX2 shzC_137 clzC_2 (by decide) rfl (List.mem_of_getElem? (i := 3) rfl) rfl ?_
    refine ww_iload (pc := 37) X (j := 4) dX2_countParts_37 rfl ?_
    refine ww_iald (pc := 39) X dX2_countParts_39 shzC_138 rfl hF (fun v14 ev14 bv14 hF => ?_)
    refine ww_aload_n (pc := 40) X (j := 0) dX2_countParts_40 rfl rfl ?_
    refine ww_get (pc := 41) X (ref := "PictureBlock$Net") (T := TX2) (j := 2) dX2_countParts_41 inX2_countParts_RX2 shzC_137 clzC_2 (by decide) rfl (List.mem_of_getElem? (i := 3) rfl) rfl ?_
    refine ww_iload_n (pc := 44) X (j := 2) dX2_countParts_44 rfl rfl ?_
    refine ww_iald (pc := 45) X dX2_countParts_45 shzC_138 rfl hF (fun v15 ev15 bv15 hF => ?_)
    refine ww_icmp_ne (pc := 46) (tgt := 51) X dX2_countParts_46 (by decide) hF (fun h16 hF => ?_) (fun h16 hF => ?_)
    · refine ww_iinc (pc := 51) X (j := 4) (v := 1) (lv' := [(0, .ref (G.2.1 137)), (1, .int c27_1), (2, .int c27_2), (3, .int a3)]) dX2_countParts_51 rfl rfl (by decide) rfl hF (fun x17 ex17 hF => ?_)
      refine ww_goto (pc := 54) X (tgt := 27) dX2_countParts_54 (by decide) ?_
      exact ww_sub [1, 2, 3, 4, 0] rfl (ih27 a3 x17 hF)
    · refine ww_iconst (pc := 49) X (v := 0) dX2_countParts_49 (by decide) ?_
      refine ww_istore_n (pc := 50) X (lv' := [(0, .ref (G.2.1 137)), (1, .int c27_1), (2, .int c27_2), (4, .int a4)]) dX2_countParts_50 rfl (by decide) rfl hF (fun x18 ex18 hF => ?_)
      refine ww_iinc (pc := 51) X (j := 4) (v := 1) (lv' := [(3, .int x18), (0, .ref (G.2.1 137)), (1, .int c27_1), (2, .int c27_2)]) dX2_countParts_51 rfl rfl (by decide) rfl hF (fun x19 ex19 hF => ?_)
      refine ww_goto (pc := 54) X (tgt := 27) dX2_countParts_54 (by decide) ?_
      exact ww_sub [2, 3, 4, 1, 0] rfl (ih27 x18 x19 hF)
set_option maxRecDepth 100000 in
set_option maxHeartbeats 4000000 in
theorem wbX2_countParts_9 {M : gM} {G : gG} {out : Int32 × gS} (X : gX M G zC cX2_countParts RX2 5 wsX2_countParts rmX2_countParts (some .int)) {ex : gEx} (hZ : ∀ s : State, G.2.2.2 s → kC ex (gA G zC.1) s) (σ : gS) (rec9 : Int32 → Int32 → Option (Int32 × gS)) (ih9 : ∀ (a1 : Int32) (a2 : Int32), rec9 a1 a2 = some out → WW M (gQi M G zC out.1 out.2) G zC 5 σ 9 [(0, .ref (G.2.1 137)), (1, .int a1), (2, .int a2)] []) (a1 : Int32) (a2 : Int32) (hF : bX2_countParts_9 σ rec9 a1 a2 = some out) : WW M (gQi M G zC out.1 out.2) G zC 5 σ 9 [(0, .ref (G.2.1 137)), (1, .int a1), (2, .int a2)] [] := by
  unfold bX2_countParts_9 at hF
  refine ww_iload_n (pc := 9) X (j := 2) dX2_countParts_9 rfl rfl ?_
  refine ww_aload_n (pc := 10) X (j := 0) dX2_countParts_10 rfl rfl ?_
  refine ww_get (pc := 11) X (ref := "PictureBlock$Net") (T := TX2) (j := 0) dX2_countParts_11 inX2_countParts_RX2 shzC_137 clzC_2 (by decide) rfl (List.mem_of_getElem? (i := 1) rfl) rfl ?_
  refine ww_get (pc := 14) X (ref := "PictureBlock$Told") (T := TX8) (j := 0) dX2_countParts_14 inX2_countParts_RX8 shzC_2 clzC_8 (by decide) rfl (List.mem_of_getElem? (i := 2) rfl) rfl ?_
  refine ww_iconst (pc := 17) X (v := 1) dX2_countParts_17 (by decide) ?_
  refine ww_iald (pc := 18) X dX2_countParts_18 shzC_3 rfl hF (fun v5 ev5 bv5 hF => ?_)
  refine ww_icmp_ge (pc := 19) (tgt := 70) X dX2_countParts_19 (by decide) hF (fun h6 hF => ?_) (fun h6 hF => ?_)
  · refine ww_iload_n (pc := 70) X (j := 1) dX2_countParts_70 rfl rfl ?_
    exact ww_iret (pc := 71) X dX2_countParts_71 (fst_of hF) (snd_of hF)
  · refine ww_iconst (pc := 22) X (v := 1) dX2_countParts_22 (by decide) ?_
    refine ww_istore_n (pc := 23) X (lv' := [(0, .ref (G.2.1 137)), (1, .int a1), (2, .int a2)]) dX2_countParts_23 rfl (by decide) rfl hF (fun x7 ex7 hF => ?_)
    refine ww_iconst (pc := 24) X (v := 0) dX2_countParts_24 (by decide) ?_
    refine ww_istore (pc := 25) X (lv' := [(3, .int x7), (0, .ref (G.2.1 137)), (1, .int a1), (2, .int a2)]) dX2_countParts_25 (by decide) rfl hF (fun x8 ex8 hF => ?_)
    exact ww_sub [2, 3, 4, 1, 0] rfl (lpc_ind (P := (fun (s : Int32 × Int32) => WW M (gQi M G zC out.1 out.2) G zC 5 σ 27 [(0, .ref (G.2.1 137)), (1, .int a1), (2, .int a2), (3, .int s.1), (4, .int s.2)] [])) (fun rec s ih hF => wbX2_countParts_27 X hZ σ a1 a2 rec9  ih9 (fun a3 a4 => rec (a3, a4)) (fun a3 a4 h => ih (a3, a4) h) s.1 s.2 hF) K9 (x7, x8) hF)
set_option maxRecDepth 100000 in
set_option maxHeartbeats 4000000 in
theorem wX2_countParts {M : gM} {G : gG} {out : Int32 × gS} (X : gX M G zC cX2_countParts RX2 5 wsX2_countParts rmX2_countParts (some .int)) {ex : gEx} (hZ : ∀ s : State, G.2.2.2 s → kC ex (gA G zC.1) s) (σ : gS) (hF : fX2_countParts σ = some out) : WW M (gQi M G zC out.1 out.2) G zC 5 σ 0 [(0, .ref (G.2.1 137))] [] := by
  unfold fX2_countParts at hF
  refine ww_aload_n (pc := 0) X (j := 0) dX2_countParts_0 rfl rfl ?_
  refine ww_iconst (pc := 1) X (v := (-1)) dX2_countParts_1 (by decide) ?_
  obtain ⟨σ2, h1, hF⟩ := bd_some hF
  refine ww_callVv (pc := 2) X (As := [.int ((-1))]) (rest := []) dX2_countParts_2 (kX2_joinAll (mL M) G hZ X.2.2.2.2.2.2.1 X.2.2.2.2.2.2.2.1 σ ((-1)) σ2 h1) rfl shzC_137 clzC_2 gX2_countParts_X2_joinAll hyX2_joinAll ⟨rfl, rfl⟩ ⟨Nat.le_of_ble_eq_true rfl, Nat.le_of_ble_eq_true rfl⟩ rfl rfl (Nat.le_of_ble_eq_true rfl) ?_
  refine ww_iconst (pc := 5) X (v := 0) dX2_countParts_5 (by decide) ?_
  refine ww_istore_n (pc := 6) X (lv' := [(0, .ref (G.2.1 137))]) dX2_countParts_6 rfl (by decide) rfl hF (fun x3 ex3 hF => ?_)
  refine ww_iconst (pc := 7) X (v := 0) dX2_countParts_7 (by decide) ?_
  refine ww_istore_n (pc := 8) X (lv' := [(1, .int x3), (0, .ref (G.2.1 137))]) dX2_countParts_8 rfl (by decide) rfl hF (fun x4 ex4 hF => ?_)
  exact ww_sub [2, 1, 0] rfl (lpc_ind (P := (fun (s : Int32 × Int32) => WW M (gQi M G zC out.1 out.2) G zC 5 σ2 9 [(0, .ref (G.2.1 137)), (1, .int s.1), (2, .int s.2)] [])) (fun rec s ih hF => wbX2_countParts_9 X hZ σ2 (fun a1 a2 => rec (a1, a2)) (fun a1 a2 h => ih (a1, a2) h) s.1 s.2 hF) K9 (x3, x4) hF)
set_option maxRecDepth 100000 in
set_option maxHeartbeats 4000000 in
theorem kX2_countParts (l : Launch) (G : gG) {ex : gEx} (hZ : ∀ s : State, G.2.2.2 s → kC ex (gA G zC.1) s) (hG : gOK G zC.1) (hT : G.2.2.1.map (fun q => q.2) = zC.2.1) (σ : gS) (out : Int32 × gS) (hF : fX2_countParts σ = some out) : gCi l yX2_countParts wsX2_countParts rmX2_countParts G zC [.ref (G.2.1 137)] σ out.1 out.2 :=
  gEnter (by decide) rfl ⟨rfl, rfl⟩ hG hT (Nat.le_of_ble_eq_true rfl) rfl (fun M X hl => wX2_countParts X hZ σ hF)
noncomputable def fX9_parts (σ : gS) : Option (Int32 × gS) :=
  bd2 (fX2_countParts σ) fun r2 σ3 => some (r2, σ3)
noncomputable abbrev rmX9_parts : Room := { frames := 3, cells := 0, slots := 0, locals := 70 }
set_option maxRecDepth 100000 in
set_option maxHeartbeats 4000000 in
theorem wX9_parts {M : gM} {G : gG} {out : Int32 × gS} (X : gX M G zC cX9_parts RX9 1 wsX9_parts rmX9_parts (some .int)) {ex : gEx} (hZ : ∀ s : State, G.2.2.2 s → kC ex (gA G zC.1) s) (σ : gS) (hF : fX9_parts σ = some out) : WW M (gQi M G zC out.1 out.2) G zC 1 σ 0 [(0, .ref (G.2.1 0))] [] := by
  unfold fX9_parts at hF
  refine ww_aload_n (pc := 0) X (j := 0) dX9_parts_0 rfl rfl ?_
  refine ww_get (pc := 1) X (ref := "PictureBlock") (T := TX9) (j := 11) dX9_parts_1 inX9_parts_RX9 shzC_0 clzC_9 (by decide) rfl (List.mem_of_getElem? (i := 1) rfl) rfl ?_
  obtain ⟨r2, σ3, h1, hF⟩ := bd2_some hF
  refine ww_callVi (pc := 4) X (As := []) (rest := []) dX9_parts_4 (kX2_countParts (mL M) G hZ X.2.2.2.2.2.2.1 X.2.2.2.2.2.2.2.1 σ (r2, σ3) h1) rfl shzC_137 clzC_2 gX9_parts_X2_countParts hyX2_countParts ⟨rfl, rfl⟩ ⟨Nat.le_of_ble_eq_true rfl, Nat.le_of_ble_eq_true rfl⟩ rfl rfl (Nat.le_of_ble_eq_true rfl) ?_
  exact ww_iret (pc := 7) X dX9_parts_7 (fst_of hF) (snd_of hF)
set_option maxRecDepth 100000 in
set_option maxHeartbeats 4000000 in
theorem kX9_parts (l : Launch) (G : gG) {ex : gEx} (hZ : ∀ s : State, G.2.2.2 s → kC ex (gA G zC.1) s) (hG : gOK G zC.1) (hT : G.2.2.1.map (fun q => q.2) = zC.2.1) (σ : gS) (out : Int32 × gS) (hF : fX9_parts σ = some out) : gCi l yX9_parts wsX9_parts rmX9_parts G zC [.ref (G.2.1 0)] σ out.1 out.2 :=
  gEnter (by decide) rfl ⟨rfl, rfl⟩ hG hT (Nat.le_of_ble_eq_true rfl) rfl (fun M X hl => wX9_parts X hZ σ hF)
noncomputable def fX2_isJoined (σ : gS) (p1 : Int32) (p2 : Int32) : Option (Int32 × gS) :=
  bd (fX2_joinAll σ ((-1))) fun σ2 => gd (gb p1 32) <| nm (σ2.1 138 p1.toNatClampNeg) fun v3 => gd (gb p2 32) <| nm (σ2.1 138 p2.toNatClampNeg) fun v4 => (if v3 = v4 then some (1, σ2) else some (0, σ2))
noncomputable abbrev rmX2_isJoined : Room := { frames := 2, cells := 0, slots := 0, locals := 46 }
set_option maxRecDepth 100000 in
set_option maxHeartbeats 4000000 in
theorem wX2_isJoined {M : gM} {G : gG} {out : Int32 × gS} (X : gX M G zC cX2_isJoined RX2 3 wsX2_isJoined rmX2_isJoined (some .boolean)) {ex : gEx} (hZ : ∀ s : State, G.2.2.2 s → kC ex (gA G zC.1) s) (σ : gS) (p1 : Int32) (p2 : Int32) (hF : fX2_isJoined σ p1 p2 = some out) : WW M (gQi M G zC out.1 out.2) G zC 3 σ 0 [(0, .ref (G.2.1 137)), (1, .int p1), (2, .int p2)] [] := by
  unfold fX2_isJoined at hF
  refine ww_aload_n (pc := 0) X (j := 0) dX2_isJoined_0 rfl rfl ?_
  refine ww_iconst (pc := 1) X (v := (-1)) dX2_isJoined_1 (by decide) ?_
  obtain ⟨σ2, h1, hF⟩ := bd_some hF
  refine ww_callVv (pc := 2) X (As := [.int ((-1))]) (rest := []) dX2_isJoined_2 (kX2_joinAll (mL M) G hZ X.2.2.2.2.2.2.1 X.2.2.2.2.2.2.2.1 σ ((-1)) σ2 h1) rfl shzC_137 clzC_2 gX2_isJoined_X2_joinAll hyX2_joinAll ⟨rfl, rfl⟩ ⟨Nat.le_of_ble_eq_true rfl, Nat.le_of_ble_eq_true rfl⟩ rfl rfl (Nat.le_of_ble_eq_true rfl) ?_
  refine ww_aload_n (pc := 5) X (j := 0) dX2_isJoined_5 rfl rfl ?_
  refine ww_get (pc := 6) X (ref := "PictureBlock$Net") (T := TX2) (j := 2) dX2_isJoined_6 inX2_isJoined_RX2 shzC_137 clzC_2 (by decide) rfl (List.mem_of_getElem? (i := 1) rfl) rfl ?_
  refine ww_iload_n (pc := 9) X (j := 1) dX2_isJoined_9 rfl rfl ?_
  refine ww_iald (pc := 10) X dX2_isJoined_10 shzC_138 rfl hF (fun v3 ev3 bv3 hF => ?_)
  refine ww_aload_n (pc := 11) X (j := 0) dX2_isJoined_11 rfl rfl ?_
  refine ww_get (pc := 12) X (ref := "PictureBlock$Net") (T := TX2) (j := 2) dX2_isJoined_12 inX2_isJoined_RX2 shzC_137 clzC_2 (by decide) rfl (List.mem_of_getElem? (i := 1) rfl) rfl ?_
  refine ww_iload_n (pc := 15) X (j := 2) dX2_isJoined_15 rfl rfl ?_
  refine ww_iald (pc := 16) X dX2_isJoined_16 shzC_138 rfl hF (fun v4 ev4 bv4 hF => ?_)
  refine ww_icmp_ne (pc := 17) (tgt := 24) X dX2_isJoined_17 (by decide) hF (fun h5 hF => ?_) (fun h5 hF => ?_)
  · refine ww_iconst (pc := 24) X (v := 0) dX2_isJoined_24 (by decide) ?_
    exact ww_zret (pc := 25) X dX2_isJoined_25 (by cases hF; rfl) (by cases hF; rfl)
  · refine ww_iconst (pc := 20) X (v := 1) dX2_isJoined_20 (by decide) ?_
    refine ww_goto (pc := 21) X (tgt := 25) dX2_isJoined_21 (by decide) ?_
    exact ww_zret (pc := 25) X dX2_isJoined_25 (by cases hF; rfl) (by cases hF; rfl)
set_option maxRecDepth 100000 in
set_option maxHeartbeats 4000000 in
theorem kX2_isJoined (l : Launch) (G : gG) {ex : gEx} (hZ : ∀ s : State, G.2.2.2 s → kC ex (gA G zC.1) s) (hG : gOK G zC.1) (hT : G.2.2.1.map (fun q => q.2) = zC.2.1) (σ : gS) (p1 : Int32) (p2 : Int32) (out : Int32 × gS) (hF : fX2_isJoined σ p1 p2 = some out) : gCi l yX2_isJoined wsX2_isJoined rmX2_isJoined G zC [.ref (G.2.1 137), .int p1, .int p2] σ out.1 out.2 :=
  gEnter (by decide) rfl ⟨rfl, rfl⟩ hG hT (Nat.le_of_ble_eq_true rfl) rfl (fun M X hl => wX2_isJoined X hZ σ p1 p2 hF)
noncomputable def fX9_hang (σ : gS) (p1 : Int32) (p2 : Int32) : Option (Int32 × gS) :=
  bd (fX8_exists_2 σ 1 p1) fun r2 => (if r2 = 0 then some ((-1), σ) else bd (fX8_exists_2 σ 1 p2) fun r5 => (if r5 = 0 then some ((-1), σ) else bd2 (fX2_isJoined σ p1 p2) fun r8 σ9 => (if r8 = 0 then some (0, σ9) else some (1, σ9))))
noncomputable abbrev rmX9_hang : Room := { frames := 3, cells := 0, slots := 0, locals := 68 }
set_option maxRecDepth 100000 in
set_option maxHeartbeats 4000000 in
theorem wX9_hang {M : gM} {G : gG} {out : Int32 × gS} (X : gX M G zC cX9_hang RX9 3 wsX9_hang rmX9_hang (some .int)) {ex : gEx} (hZ : ∀ s : State, G.2.2.2 s → kC ex (gA G zC.1) s) (σ : gS) (p1 : Int32) (p2 : Int32) (hF : fX9_hang σ p1 p2 = some out) : WW M (gQi M G zC out.1 out.2) G zC 3 σ 0 [(0, .ref (G.2.1 0)), (1, .int p1), (2, .int p2)] [] := by
  unfold fX9_hang at hF
  refine ww_aload_n (pc := 0) X (j := 0) dX9_hang_0 rfl rfl ?_
  refine ww_get (pc := 1) X (ref := "PictureBlock") (T := TX9) (j := 2) dX9_hang_1 inX9_hang_RX9 shzC_0 clzC_9 (by decide) rfl (List.mem_of_getElem? (i := 1) rfl) rfl ?_
  refine ww_iconst (pc := 4) X (v := 1) dX9_hang_4 (by decide) ?_
  refine ww_iload_n (pc := 5) X (j := 1) dX9_hang_5 rfl rfl ?_
  obtain ⟨r2, h1, hF⟩ := bd_some hF
  refine ww_callVi (pc := 6) X (As := [.int 1, .int p1]) (rest := []) dX9_hang_6 (kX8_exists_2 (mL M) G hZ X.2.2.2.2.2.2.1 X.2.2.2.2.2.2.2.1 σ 1 p1 r2 h1) rfl shzC_2 clzC_8 gX9_hang_X8_exists hyX8_exists ⟨rfl, rfl⟩ ⟨Nat.le_of_ble_eq_true rfl, Nat.le_of_ble_eq_true rfl⟩ rfl rfl (Nat.le_of_ble_eq_true rfl) ?_
  refine ww_if_eq (pc := 9) (tgt := 24) X dX9_hang_9 (by decide) hF (fun h3 hF => ?_) (fun h3 hF => ?_)
  · refine ww_iconst (pc := 24) X (v := (-1)) dX9_hang_24 (by decide) ?_
    exact ww_iret (pc := 25) X dX9_hang_25 (fst_of hF) (snd_of hF)
  · refine ww_aload_n (pc := 12) X (j := 0) dX9_hang_12 rfl rfl ?_
    refine ww_get (pc := 13) X (ref := "PictureBlock") (T := TX9) (j := 2) dX9_hang_13 inX9_hang_RX9 shzC_0 clzC_9 (by decide) rfl (List.mem_of_getElem? (i := 1) rfl) rfl ?_
    refine ww_iconst (pc := 16) X (v := 1) dX9_hang_16 (by decide) ?_
    refine ww_iload_n (pc := 17) X (j := 2) dX9_hang_17 rfl rfl ?_
    obtain ⟨r5, h4, hF⟩ := bd_some hF
    refine ww_callVi (pc := 18) X (As := [.int 1, .int p2]) (rest := []) dX9_hang_18 (kX8_exists_2 (mL M) G hZ X.2.2.2.2.2.2.1 X.2.2.2.2.2.2.2.1 σ 1 p2 r5 h4) rfl shzC_2 clzC_8 gX9_hang_X8_exists hyX8_exists ⟨rfl, rfl⟩ ⟨Nat.le_of_ble_eq_true rfl, Nat.le_of_ble_eq_true rfl⟩ rfl rfl (Nat.le_of_ble_eq_true rfl) ?_
    refine ww_if_ne (pc := 21) (tgt := 26) X dX9_hang_21 (by decide) hF (fun h6 hF => ?_) (fun h6 hF => ?_)
    · refine ww_aload_n (pc := 26) X (j := 0) dX9_hang_26 rfl rfl ?_
      refine ww_get (pc := 27) X (ref := "PictureBlock") (T := TX9) (j := 11) dX9_hang_27 inX9_hang_RX9 shzC_0 clzC_9 (by decide) rfl (List.mem_of_getElem? (i := 2) rfl) rfl ?_
      refine ww_iload_n (pc := 30) X (j := 1) dX9_hang_30 rfl rfl ?_
      refine ww_iload_n (pc := 31) X (j := 2) dX9_hang_31 rfl rfl ?_
      obtain ⟨r8, σ9, h7, hF⟩ := bd2_some hF
      refine ww_callVi (pc := 32) X (As := [.int p1, .int p2]) (rest := []) dX9_hang_32 (kX2_isJoined (mL M) G hZ X.2.2.2.2.2.2.1 X.2.2.2.2.2.2.2.1 σ p1 p2 (r8, σ9) h7) rfl shzC_137 clzC_2 gX9_hang_X2_isJoined hyX2_isJoined ⟨rfl, rfl⟩ ⟨Nat.le_of_ble_eq_true rfl, Nat.le_of_ble_eq_true rfl⟩ rfl rfl (Nat.le_of_ble_eq_true rfl) ?_
      refine ww_if_eq (pc := 35) (tgt := 42) X dX9_hang_35 (by decide) hF (fun h10 hF => ?_) (fun h10 hF => ?_)
      · refine ww_iconst (pc := 42) X (v := 0) dX9_hang_42 (by decide) ?_
        exact ww_iret (pc := 43) X dX9_hang_43 (fst_of hF) (snd_of hF)
      · refine ww_iconst (pc := 38) X (v := 1) dX9_hang_38 (by decide) ?_
        refine ww_goto (pc := 39) X (tgt := 43) dX9_hang_39 (by decide) ?_
        exact ww_iret (pc := 43) X dX9_hang_43 (fst_of hF) (snd_of hF)
    · refine ww_iconst (pc := 24) X (v := (-1)) dX9_hang_24 (by decide) ?_
      exact ww_iret (pc := 25) X dX9_hang_25 (fst_of hF) (snd_of hF)
set_option maxRecDepth 100000 in
set_option maxHeartbeats 4000000 in
theorem kX9_hang (l : Launch) (G : gG) {ex : gEx} (hZ : ∀ s : State, G.2.2.2 s → kC ex (gA G zC.1) s) (hG : gOK G zC.1) (hT : G.2.2.1.map (fun q => q.2) = zC.2.1) (σ : gS) (p1 : Int32) (p2 : Int32) (out : Int32 × gS) (hF : fX9_hang σ p1 p2 = some out) : gCi l yX9_hang wsX9_hang rmX9_hang G zC [.ref (G.2.1 0), .int p1, .int p2] σ out.1 out.2 :=
  gEnter (by decide) rfl ⟨rfl, rfl⟩ hG hT (Nat.le_of_ble_eq_true rfl) rfl (fun M X hl => wX9_hang X hZ σ p1 p2 hF)
noncomputable def bX9_blind_4 (σ : gS) (rec4 : Int32 → Int32 → gS → Option (Int32 × gS)) (a1 : Int32) (a2 : Int32) (σ1 : gS) : Option (Int32 × gS) :=
  gd (gb 3 6) <| nm (σ1.1 3 ((3 : Int32).toNatClampNeg)) fun v3 => (if v3 ≤ a2 then some (a1, σ1) else bd (fX5_uses_47 σ1 a2) fun r6 => (if r6 = 0 then nm (a2 + 1 : Int32) fun x8 => rec4 a1 x8 σ1 else bd2 (fX2_canShow σ1 a2) fun r10 σ11 => (if r10 = 0 then nm (a1 + 1 : Int32) fun x14 => nm (a2 + 1 : Int32) fun x15 => rec4 x14 x15 σ11 else nm (a2 + 1 : Int32) fun x13 => rec4 a1 x13 σ11)))
noncomputable def fX9_blind (σ : gS) : Option (Int32 × gS) :=
  nm (0 : Int32) fun x1 => nm (0 : Int32) fun x2 => lpc (S := Int32 × Int32 × gS) K9 (fun rec s => bX9_blind_4 σ (fun a1 a2 σ1 => rec (a1, a2, σ1)) s.1 s.2.1 s.2.2) (x1, x2, σ)
noncomputable abbrev rmX9_blind : Room := { frames := 3, cells := 0, slots := 0, locals := 69 }
set_option maxRecDepth 100000 in
set_option maxHeartbeats 4000000 in
theorem wbX9_blind_4 {M : gM} {G : gG} {out : Int32 × gS} (X : gX M G zC cX9_blind RX9 3 wsX9_blind rmX9_blind (some .int)) {ex : gEx} (hZ : ∀ s : State, G.2.2.2 s → kC ex (gA G zC.1) s) (σ : gS) (rec4 : Int32 → Int32 → gS → Option (Int32 × gS)) (ih4 : ∀ (a1 : Int32) (a2 : Int32) (σ1 : gS), rec4 a1 a2 σ1 = some out → WW M (gQi M G zC out.1 out.2) G zC 3 σ1 4 [(0, .ref (G.2.1 0)), (1, .int a1), (2, .int a2)] []) (a1 : Int32) (a2 : Int32) (σ1 : gS) (hF : bX9_blind_4 σ rec4 a1 a2 σ1 = some out) : WW M (gQi M G zC out.1 out.2) G zC 3 σ1 4 [(0, .ref (G.2.1 0)), (1, .int a1), (2, .int a2)] [] := by
  unfold bX9_blind_4 at hF
  refine ww_iload_n (pc := 4) X (j := 2) dX9_blind_4 rfl rfl ?_
  refine ww_aload_n (pc := 5) X (j := 0) dX9_blind_5 rfl rfl ?_
  refine ww_get (pc := 6) X (ref := "PictureBlock") (T := TX9) (j := 2) dX9_blind_6 inX9_blind_RX9 shzC_0 clzC_9 (by decide) rfl (List.mem_of_getElem? (i := 1) rfl) rfl ?_
  refine ww_get (pc := 9) X (ref := "PictureBlock$Told") (T := TX8) (j := 0) dX9_blind_9 inX9_blind_RX8 shzC_2 clzC_8 (by decide) rfl (List.mem_of_getElem? (i := 2) rfl) rfl ?_
  refine ww_iconst (pc := 12) X (v := 3) dX9_blind_12 (by decide) ?_
  refine ww_iald (pc := 13) X dX9_blind_13 shzC_3 rfl hF (fun v3 ev3 bv3 hF => ?_)
  refine ww_icmp_ge (pc := 14) (tgt := 48) X dX9_blind_14 (by decide) hF (fun h4 hF => ?_) (fun h4 hF => ?_)
  · refine ww_iload_n (pc := 48) X (j := 1) dX9_blind_48 rfl rfl ?_
    exact ww_iret (pc := 49) X dX9_blind_49 (fst_of hF) (snd_of hF)
  · refine ww_aload_n (pc := 17) X (j := 0) dX9_blind_17 rfl rfl ?_
    refine ww_get (pc := 18) X (ref := "PictureBlock") (T := TX9) (j := 5) dX9_blind_18 inX9_blind_RX9 shzC_0 clzC_9 (by decide) rfl (List.mem_of_getElem? (i := 3) rfl) rfl ?_
    refine ww_iload_n (pc := 21) X (j := 2) dX9_blind_21 rfl rfl ?_
    obtain ⟨r6, h5, hF⟩ := bd_some hF
    refine ww_callVi (pc := 22) X (As := [.int a2]) (rest := []) dX9_blind_22 (kX5_uses_47 (mL M) G hZ X.2.2.2.2.2.2.1 X.2.2.2.2.2.2.2.1 σ1 a2 r6 h5) rfl shzC_47 clzC_5 gX9_blind_X5_uses hyX5_uses ⟨rfl, rfl⟩ ⟨Nat.le_of_ble_eq_true rfl, Nat.le_of_ble_eq_true rfl⟩ rfl rfl (Nat.le_of_ble_eq_true rfl) ?_
    refine ww_if_eq (pc := 25) (tgt := 42) X dX9_blind_25 (by decide) hF (fun h7 hF => ?_) (fun h7 hF => ?_)
    · refine ww_iinc (pc := 42) X (j := 2) (v := 1) (lv' := [(0, .ref (G.2.1 0)), (1, .int a1)]) dX9_blind_42 rfl rfl (by decide) rfl hF (fun x8 ex8 hF => ?_)
      refine ww_goto (pc := 45) X (tgt := 4) dX9_blind_45 (by decide) ?_
      exact ww_sub [1, 2, 0] rfl (ih4 a1 x8 σ1 hF)
    · refine ww_aload_n (pc := 28) X (j := 0) dX9_blind_28 rfl rfl ?_
      refine ww_get (pc := 29) X (ref := "PictureBlock") (T := TX9) (j := 11) dX9_blind_29 inX9_blind_RX9 shzC_0 clzC_9 (by decide) rfl (List.mem_of_getElem? (i := 4) rfl) rfl ?_
      refine ww_iload_n (pc := 32) X (j := 2) dX9_blind_32 rfl rfl ?_
      obtain ⟨r10, σ11, h9, hF⟩ := bd2_some hF
      refine ww_callVi (pc := 33) X (As := [.int a2]) (rest := []) dX9_blind_33 (kX2_canShow (mL M) G hZ X.2.2.2.2.2.2.1 X.2.2.2.2.2.2.2.1 σ1 a2 (r10, σ11) h9) rfl shzC_137 clzC_2 gX9_blind_X2_canShow hyX2_canShow ⟨rfl, rfl⟩ ⟨Nat.le_of_ble_eq_true rfl, Nat.le_of_ble_eq_true rfl⟩ rfl rfl (Nat.le_of_ble_eq_true rfl) ?_
      refine ww_if_ne (pc := 36) (tgt := 42) X dX9_blind_36 (by decide) hF (fun h12 hF => ?_) (fun h12 hF => ?_)
      · refine ww_iinc (pc := 42) X (j := 2) (v := 1) (lv' := [(0, .ref (G.2.1 0)), (1, .int a1)]) dX9_blind_42 rfl rfl (by decide) rfl hF (fun x13 ex13 hF => ?_)
        refine ww_goto (pc := 45) X (tgt := 4) dX9_blind_45 (by decide) ?_
        exact ww_sub [1, 2, 0] rfl (ih4 a1 x13 σ11 hF)
      · refine ww_iinc (pc := 39) X (j := 1) (v := 1) (lv' := [(0, .ref (G.2.1 0)), (2, .int a2)]) dX9_blind_39 rfl rfl (by decide) rfl hF (fun x14 ex14 hF => ?_)
        refine ww_iinc (pc := 42) X (j := 2) (v := 1) (lv' := [(1, .int x14), (0, .ref (G.2.1 0))]) dX9_blind_42 rfl rfl (by decide) rfl hF (fun x15 ex15 hF => ?_)
        refine ww_goto (pc := 45) X (tgt := 4) dX9_blind_45 (by decide) ?_
        exact ww_sub [2, 1, 0] rfl (ih4 x14 x15 σ11 hF)
set_option maxRecDepth 100000 in
set_option maxHeartbeats 4000000 in
theorem wX9_blind {M : gM} {G : gG} {out : Int32 × gS} (X : gX M G zC cX9_blind RX9 3 wsX9_blind rmX9_blind (some .int)) {ex : gEx} (hZ : ∀ s : State, G.2.2.2 s → kC ex (gA G zC.1) s) (σ : gS) (hF : fX9_blind σ = some out) : WW M (gQi M G zC out.1 out.2) G zC 3 σ 0 [(0, .ref (G.2.1 0))] [] := by
  unfold fX9_blind at hF
  refine ww_iconst (pc := 0) X (v := 0) dX9_blind_0 (by decide) ?_
  refine ww_istore_n (pc := 1) X (lv' := [(0, .ref (G.2.1 0))]) dX9_blind_1 rfl (by decide) rfl hF (fun x1 ex1 hF => ?_)
  refine ww_iconst (pc := 2) X (v := 0) dX9_blind_2 (by decide) ?_
  refine ww_istore_n (pc := 3) X (lv' := [(1, .int x1), (0, .ref (G.2.1 0))]) dX9_blind_3 rfl (by decide) rfl hF (fun x2 ex2 hF => ?_)
  exact ww_sub [2, 1, 0] rfl (lpc_ind (P := (fun (s : Int32 × Int32 × gS) => WW M (gQi M G zC out.1 out.2) G zC 3 s.2.2 4 [(0, .ref (G.2.1 0)), (1, .int s.1), (2, .int s.2.1)] [])) (fun rec s ih hF => wbX9_blind_4 X hZ σ (fun a1 a2 σ1 => rec (a1, a2, σ1)) (fun a1 a2 σ1 h => ih (a1, a2, σ1) h) s.1 s.2.1 s.2.2 hF) K9 (x1, x2, σ) hF)
set_option maxRecDepth 100000 in
set_option maxHeartbeats 4000000 in
theorem kX9_blind (l : Launch) (G : gG) {ex : gEx} (hZ : ∀ s : State, G.2.2.2 s → kC ex (gA G zC.1) s) (hG : gOK G zC.1) (hT : G.2.2.1.map (fun q => q.2) = zC.2.1) (σ : gS) (out : Int32 × gS) (hF : fX9_blind σ = some out) : gCi l yX9_blind wsX9_blind rmX9_blind G zC [.ref (G.2.1 0)] σ out.1 out.2 :=
  gEnter (by decide) rfl ⟨rfl, rfl⟩ hG hT (Nat.le_of_ble_eq_true rfl) rfl (fun M X hl => wX9_blind X hZ σ hF)
noncomputable def bX2_countLoose_9 (σ : gS) (rec9 : Int32 → Int32 → Option (Int32 × gS)) (a2 : Int32) (a3 : Int32) : Option (Int32 × gS) :=
  gd (gb 1 6) <| nm (σ.1 3 ((1 : Int32).toNatClampNeg)) fun v5 => (if v5 ≤ a3 then some (a2, σ) else bd (fX2_isLoose σ a3) fun r8 => (if r8 = 0 then nm (a3 + 1 : Int32) fun x10 => rec9 a2 x10 else nm (a2 + 1 : Int32) fun x11 => nm (a3 + 1 : Int32) fun x12 => rec9 x11 x12))
noncomputable def fX2_countLoose (σ : gS) (p1 : Int32) : Option (Int32 × gS) :=
  bd (fX2_joinAll σ p1) fun σ2 => nm (0 : Int32) fun x3 => nm (0 : Int32) fun x4 => lpc (S := Int32 × Int32) K9 (fun rec s => bX2_countLoose_9 σ2 (fun a2 a3 => rec (a2, a3)) s.1 s.2) (x3, x4)
noncomputable abbrev rmX2_countLoose : Room := { frames := 2, cells := 0, slots := 0, locals := 46 }
set_option maxRecDepth 100000 in
set_option maxHeartbeats 4000000 in
theorem wbX2_countLoose_9 {M : gM} {G : gG} {out : Int32 × gS} (X : gX M G zC cX2_countLoose RX2 4 wsX2_countLoose rmX2_countLoose (some .int)) {ex : gEx} (hZ : ∀ s : State, G.2.2.2 s → kC ex (gA G zC.1) s) (σ : gS) (rec9 : Int32 → Int32 → Option (Int32 × gS)) (ih9 : ∀ (a2 : Int32) (a3 : Int32), rec9 a2 a3 = some out → WW M (gQi M G zC out.1 out.2) G zC 4 σ 9 [(0, .ref (G.2.1 137)), (2, .int a2), (3, .int a3)] []) (a2 : Int32) (a3 : Int32) (hF : bX2_countLoose_9 σ rec9 a2 a3 = some out) : WW M (gQi M G zC out.1 out.2) G zC 4 σ 9 [(0, .ref (G.2.1 137)), (2, .int a2), (3, .int a3)] [] := by
  unfold bX2_countLoose_9 at hF
  refine ww_iload_n (pc := 9) X (j := 2) dX2_countLoose_9 rfl rfl ?_
  refine ww_aload_n (pc := 10) X (j := 0) dX2_countLoose_10 rfl rfl ?_
  refine ww_get (pc := 11) X (ref := "PictureBlock$Net") (T := TX2) (j := 0) dX2_countLoose_11 inX2_countLoose_RX2 shzC_137 clzC_2 (by decide) rfl (List.mem_of_getElem? (i := 1) rfl) rfl ?_
  refine ww_get (pc := 14) X (ref := "PictureBlock$Told") (T := TX8) (j := 0) dX2_countLoose_14 inX2_countLoose_RX8 shzC_2 clzC_8 (by decide) rfl (List.mem_of_getElem? (i := 2) rfl) rfl ?_
  refine ww_iconst (pc := 17) X (v := 1) dX2_countLoose_17 (by decide) ?_
  refine ww_iald (pc := 18) X dX2_countLoose_18 shzC_3 rfl hF (fun v5 ev5 bv5 hF => ?_)
  refine ww_icmp_ge (pc := 19) (tgt := 39) X dX2_countLoose_19 (by decide) hF (fun h6 hF => ?_) (fun h6 hF => ?_)
  · refine ww_iload_n (pc := 39) X (j := 1) dX2_countLoose_39 rfl rfl ?_
    exact ww_iret (pc := 40) X dX2_countLoose_40 (fst_of hF) (snd_of hF)
  · refine ww_aload_n (pc := 22) X (j := 0) dX2_countLoose_22 rfl rfl ?_
    refine ww_iload_n (pc := 23) X (j := 2) dX2_countLoose_23 rfl rfl ?_
    obtain ⟨r8, h7, hF⟩ := bd_some hF
    refine ww_callVi (pc := 24) X (As := [.int a3]) (rest := []) dX2_countLoose_24 (kX2_isLoose (mL M) G hZ X.2.2.2.2.2.2.1 X.2.2.2.2.2.2.2.1 σ a3 r8 h7) rfl shzC_137 clzC_2 gX2_countLoose_X2_isLoose hyX2_isLoose ⟨rfl, rfl⟩ ⟨Nat.le_of_ble_eq_true rfl, Nat.le_of_ble_eq_true rfl⟩ rfl rfl (Nat.le_of_ble_eq_true rfl) ?_
    refine ww_if_eq (pc := 27) (tgt := 33) X dX2_countLoose_27 (by decide) hF (fun h9 hF => ?_) (fun h9 hF => ?_)
    · refine ww_iinc (pc := 33) X (j := 2) (v := 1) (lv' := [(0, .ref (G.2.1 137)), (2, .int a2)]) dX2_countLoose_33 rfl rfl (by decide) rfl hF (fun x10 ex10 hF => ?_)
      refine ww_goto (pc := 36) X (tgt := 9) dX2_countLoose_36 (by decide) ?_
      exact ww_sub [1, 2, 0] rfl (ih9 a2 x10 hF)
    · refine ww_iinc (pc := 30) X (j := 1) (v := 1) (lv' := [(0, .ref (G.2.1 137)), (3, .int a3)]) dX2_countLoose_30 rfl rfl (by decide) rfl hF (fun x11 ex11 hF => ?_)
      refine ww_iinc (pc := 33) X (j := 2) (v := 1) (lv' := [(2, .int x11), (0, .ref (G.2.1 137))]) dX2_countLoose_33 rfl rfl (by decide) rfl hF (fun x12 ex12 hF => ?_)
      refine ww_goto (pc := 36) X (tgt := 9) dX2_countLoose_36 (by decide) ?_
      exact ww_sub [2, 1, 0] rfl (ih9 x11 x12 hF)
set_option maxRecDepth 100000 in
set_option maxHeartbeats 4000000 in
theorem wX2_countLoose {M : gM} {G : gG} {out : Int32 × gS} (X : gX M G zC cX2_countLoose RX2 4 wsX2_countLoose rmX2_countLoose (some .int)) {ex : gEx} (hZ : ∀ s : State, G.2.2.2 s → kC ex (gA G zC.1) s) (σ : gS) (p1 : Int32) (hF : fX2_countLoose σ p1 = some out) : WW M (gQi M G zC out.1 out.2) G zC 4 σ 0 [(0, .ref (G.2.1 137)), (1, .int p1)] [] := by
  unfold fX2_countLoose at hF
  refine ww_aload_n (pc := 0) X (j := 0) dX2_countLoose_0 rfl rfl ?_
  refine ww_iload_n (pc := 1) X (j := 1) dX2_countLoose_1 rfl rfl ?_
  obtain ⟨σ2, h1, hF⟩ := bd_some hF
  refine ww_callVv (pc := 2) X (As := [.int p1]) (rest := []) dX2_countLoose_2 (kX2_joinAll (mL M) G hZ X.2.2.2.2.2.2.1 X.2.2.2.2.2.2.2.1 σ p1 σ2 h1) rfl shzC_137 clzC_2 gX2_countLoose_X2_joinAll hyX2_joinAll ⟨rfl, rfl⟩ ⟨Nat.le_of_ble_eq_true rfl, Nat.le_of_ble_eq_true rfl⟩ rfl rfl (Nat.le_of_ble_eq_true rfl) ?_
  refine ww_iconst (pc := 5) X (v := 0) dX2_countLoose_5 (by decide) ?_
  refine ww_istore_n (pc := 6) X (lv' := [(0, .ref (G.2.1 137)), (1, .int p1)]) dX2_countLoose_6 rfl (by decide) rfl hF (fun x3 ex3 hF => ?_)
  refine ww_iconst (pc := 7) X (v := 0) dX2_countLoose_7 (by decide) ?_
  refine ww_istore_n (pc := 8) X (lv' := [(2, .int x3), (0, .ref (G.2.1 137)), (1, .int p1)]) dX2_countLoose_8 rfl (by decide) rfl hF (fun x4 ex4 hF => ?_)
  exact ww_sub [2, 1, 0] rfl (lpc_ind (P := (fun (s : Int32 × Int32) => WW M (gQi M G zC out.1 out.2) G zC 4 σ2 9 [(0, .ref (G.2.1 137)), (2, .int s.1), (3, .int s.2)] [])) (fun rec s ih hF => wbX2_countLoose_9 X hZ σ2 (fun a2 a3 => rec (a2, a3)) (fun a2 a3 h => ih (a2, a3) h) s.1 s.2 hF) K9 (x3, x4) hF)
set_option maxRecDepth 100000 in
set_option maxHeartbeats 4000000 in
theorem kX2_countLoose (l : Launch) (G : gG) {ex : gEx} (hZ : ∀ s : State, G.2.2.2 s → kC ex (gA G zC.1) s) (hG : gOK G zC.1) (hT : G.2.2.1.map (fun q => q.2) = zC.2.1) (σ : gS) (p1 : Int32) (out : Int32 × gS) (hF : fX2_countLoose σ p1 = some out) : gCi l yX2_countLoose wsX2_countLoose rmX2_countLoose G zC [.ref (G.2.1 137), .int p1] σ out.1 out.2 :=
  gEnter (by decide) rfl ⟨rfl, rfl⟩ hG hT (Nat.le_of_ble_eq_true rfl) rfl (fun M X hl => wX2_countLoose X hZ σ p1 hF)
