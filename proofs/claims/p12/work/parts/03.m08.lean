noncomputable def bX10_swaps_2 (σ : gS) (c2_1 : Int32) (c2_2 : Int32) (rec2 : Int32 → gS → Option (gS)) (a3 : Int32) (σ1 : gS) : Option (gS) :=
  if 40 ≤ a3 then some σ1 else gd (gb ((40 * c2_1) + a3) 1520) <| nm (σ1.2 31 ((40 * c2_1) + a3).toNatClampNeg) fun v3 => nm (v3 : Int64) fun x4 => gd (gb ((40 * c2_2) + a3) 1520) <| nm (σ1.2 31 ((40 * c2_2) + a3).toNatClampNeg) fun v5 => gd (gb ((40 * c2_1) + a3) 1520) <| nm (gsL σ1 31 ((40 * c2_1) + a3).toNatClampNeg v5) fun σ6 => gd (gb ((40 * c2_2) + a3) 1520) <| nm (gsL σ6 31 ((40 * c2_2) + a3).toNatClampNeg x4) fun σ7 => nm (a3 + 1 : Int32) fun x8 => rec2 x8 σ7
noncomputable def fX10_swaps (σ : gS) (p1 : Int32) (p2 : Int32) : Option (gS) :=
  nm (0 : Int32) fun x1 => lpc (S := Int32 × gS) K9 (fun rec s => bX10_swaps_2 σ p1 p2 (fun a3 σ1 => rec (a3, σ1)) s.1 s.2) (x1, σ)
noncomputable abbrev rmX10_swaps : Room := { frames := 0, cells := 0, slots := 0, locals := 0 }
set_option maxRecDepth 100000 in
set_option maxHeartbeats 4000000 in
theorem wbX10_swaps_2 {M : gM} {G : gG} {out : gS} (X : gX M G zM cX10_swaps RX10 6 wsX10_swaps rmX10_swaps none) (σ : gS) (c2_1 : Int32) (c2_2 : Int32) (rec2 : Int32 → gS → Option (gS)) (ih2 : ∀ (a3 : Int32) (σ1 : gS), rec2 a3 σ1 = some out → WW M (gQv M G zM out) G zM 6 σ1 2 [(0, .ref (G.2.1 0)), (1, .int c2_1), (2, .int c2_2), (3, .int a3)] []) (a3 : Int32) (σ1 : gS) (hF : bX10_swaps_2 σ c2_1 c2_2 rec2 a3 σ1 = some out) : WW M (gQv M G zM out) G zM 6 σ1 2 [(0, .ref (G.2.1 0)), (1, .int c2_1), (2, .int c2_2), (3, .int a3)] [] := by
  unfold bX10_swaps_2 at hF
  refine ww_iload_n (pc := 2) X (j := 3) dX10_swaps_2 rfl rfl ?_
  refine ww_bipush (pc := 3) X (v := 40) dX10_swaps_3 (by decide) ?_
  refine ww_icmp_ge (pc := 5) (tgt := 62) X dX10_swaps_5 (by decide) hF (fun h2 hF => ?_) (fun h2 hF => ?_)
  · exact ww_vret (pc := 62) X dX10_swaps_62 (by cases hF; rfl)
  · refine ww_aload_n (pc := 8) X (j := 0) dX10_swaps_8 rfl rfl ?_
    refine ww_get (pc := 9) X (ref := "PictureBlockModel") (T := TX10) (j := 44) dX10_swaps_9 inX10_swaps_RX10 shzM_0 clzM_10 (by decide) rfl (List.mem_of_getElem? (i := 1) rfl) rfl ?_
    refine ww_bipush (pc := 12) X (v := 40) dX10_swaps_12 (by decide) ?_
    refine ww_iload_n (pc := 14) X (j := 1) dX10_swaps_14 rfl rfl ?_
    refine ww_imul (pc := 15) X dX10_swaps_15 ?_
    refine ww_iload_n (pc := 16) X (j := 3) dX10_swaps_16 rfl rfl ?_
    refine ww_iadd (pc := 17) X dX10_swaps_17 ?_
    refine ww_lald (pc := 18) X dX10_swaps_18 shzM_31 rfl hF (fun v3 ev3 bv3 hF => ?_)
    refine ww_lstore (pc := 19) X (lv' := [(0, .ref (G.2.1 0)), (1, .int c2_1), (2, .int c2_2), (3, .int a3)]) dX10_swaps_19 (by decide) rfl hF (fun x4 ex4 hF => ?_)
    refine ww_aload_n (pc := 21) X (j := 1) dX10_swaps_21 rfl rfl ?_
    refine ww_get (pc := 22) X (ref := "PictureBlockModel") (T := TX10) (j := 44) dX10_swaps_22 inX10_swaps_RX10 shzM_0 clzM_10 (by decide) rfl (List.mem_of_getElem? (i := 1) rfl) rfl ?_
    refine ww_bipush (pc := 25) X (v := 40) dX10_swaps_25 (by decide) ?_
    refine ww_iload_n (pc := 27) X (j := 2) dX10_swaps_27 rfl rfl ?_
    refine ww_imul (pc := 28) X dX10_swaps_28 ?_
    refine ww_iload_n (pc := 29) X (j := 4) dX10_swaps_29 rfl rfl ?_
    refine ww_iadd (pc := 30) X dX10_swaps_30 ?_
    refine ww_aload_n (pc := 31) X (j := 1) dX10_swaps_31 rfl rfl ?_
    refine ww_get (pc := 32) X (ref := "PictureBlockModel") (T := TX10) (j := 44) dX10_swaps_32 inX10_swaps_RX10 shzM_0 clzM_10 (by decide) rfl (List.mem_of_getElem? (i := 1) rfl) rfl ?_
    refine ww_bipush (pc := 35) X (v := 40) dX10_swaps_35 (by decide) ?_
    refine ww_iload_n (pc := 37) X (j := 3) dX10_swaps_37 rfl rfl ?_
    refine ww_imul (pc := 38) X dX10_swaps_38 ?_
    refine ww_iload_n (pc := 39) X (j := 4) dX10_swaps_39 rfl rfl ?_
    refine ww_iadd (pc := 40) X dX10_swaps_40 ?_
    refine ww_lald (pc := 41) X dX10_swaps_41 shzM_31 rfl hF (fun v5 ev5 bv5 hF => ?_)
    refine ww_last (pc := 42) X dX10_swaps_42 shzM_31 rfl hF (fun σ6 eσ6 bσ6 hF => ?_)
    refine ww_aload_n (pc := 43) X (j := 1) dX10_swaps_43 rfl rfl ?_
    refine ww_get (pc := 44) X (ref := "PictureBlockModel") (T := TX10) (j := 44) dX10_swaps_44 inX10_swaps_RX10 shzM_0 clzM_10 (by decide) rfl (List.mem_of_getElem? (i := 1) rfl) rfl ?_
    refine ww_bipush (pc := 47) X (v := 40) dX10_swaps_47 (by decide) ?_
    refine ww_iload_n (pc := 49) X (j := 3) dX10_swaps_49 rfl rfl ?_
    refine ww_imul (pc := 50) X dX10_swaps_50 ?_
    refine ww_iload_n (pc := 51) X (j := 4) dX10_swaps_51 rfl rfl ?_
    refine ww_iadd (pc := 52) X dX10_swaps_52 ?_
    refine ww_lload (pc := 53) X (j := 0) dX10_swaps_53 rfl ?_
    refine ww_last (pc := 55) X dX10_swaps_55 shzM_31 rfl hF (fun σ7 eσ7 bσ7 hF => ?_)
    refine ww_iinc (pc := 56) X (j := 4) (v := 1) (lv' := [(4, .long x4), (0, .ref (G.2.1 0)), (1, .int c2_1), (2, .int c2_2)]) dX10_swaps_56 rfl rfl (by decide) rfl hF (fun x8 ex8 hF => ?_)
    refine ww_goto (pc := 59) X (tgt := 2) dX10_swaps_59 (by decide) ?_
    exact ww_sub [2, 3, 4, 0] rfl (ih2 x8 σ7 hF)
set_option maxRecDepth 100000 in
set_option maxHeartbeats 4000000 in
theorem wX10_swaps {M : gM} {G : gG} {out : gS} (X : gX M G zM cX10_swaps RX10 6 wsX10_swaps rmX10_swaps none) (σ : gS) (p1 : Int32) (p2 : Int32) (hF : fX10_swaps σ p1 p2 = some out) : WW M (gQv M G zM out) G zM 6 σ 0 [(0, .ref (G.2.1 0)), (1, .int p1), (2, .int p2)] [] := by
  unfold fX10_swaps at hF
  refine ww_iconst (pc := 0) X (v := 0) dX10_swaps_0 (by decide) ?_
  refine ww_istore_n (pc := 1) X (lv' := [(0, .ref (G.2.1 0)), (1, .int p1), (2, .int p2)]) dX10_swaps_1 rfl (by decide) rfl hF (fun x1 ex1 hF => ?_)
  exact ww_sub [1, 2, 3, 0] rfl (lpc_ind (P := (fun (s : Int32 × gS) => WW M (gQv M G zM out) G zM 6 s.2 2 [(0, .ref (G.2.1 0)), (1, .int p1), (2, .int p2), (3, .int s.1)] [])) (fun rec s ih hF => wbX10_swaps_2 X σ p1 p2 (fun a3 σ1 => rec (a3, σ1)) (fun a3 σ1 h => ih (a3, σ1) h) s.1 s.2 hF) K9 (x1, σ) hF)
set_option maxRecDepth 100000 in
set_option maxHeartbeats 4000000 in
theorem kX10_swaps (l : Launch) (G : gG) (hG : gOK G zM.1) (hT : G.2.2.1.map (fun q => q.2) = zM.2.1) (σ : gS) (p1 : Int32) (p2 : Int32) (out : gS) (hF : fX10_swaps σ p1 p2 = some out) : gCv l yX10_swaps wsX10_swaps rmX10_swaps G zM [.ref (G.2.1 0), .int p1, .int p2] σ out :=
  gEnter (by decide) rfl ⟨rfl, rfl⟩ hG hT (Nat.le_of_ble_eq_true rfl) rfl (fun M X hl => wX10_swaps X σ p1 p2 hF)
noncomputable def jX10_inverse_37 (σ : gS) (rec10 : Int64 → Int64 → Int64 → Option (Int64)) (a2 : Int64) (a4 : Int64) (a6 : Int64) : Option (Int64) :=
  nm (lrm (a4 * a4) 1000003 : Int64) fun x6 => nm (a6 / 2 : Int64) fun x7 => rec10 a2 x6 x7
noncomputable def bX10_inverse_10 (σ : gS) (rec10 : Int64 → Int64 → Int64 → Option (Int64)) (a2 : Int64) (a4 : Int64) (a6 : Int64) : Option (Int64) :=
  if a6 ≤ 0 then some a2 else if (lrm a6 2) = 1 then nm (lrm (a2 * a4) 1000003 : Int64) fun x8 => jX10_inverse_37 σ rec10 x8 a4 a6 else jX10_inverse_37 σ rec10 a2 a4 a6
noncomputable def fX10_inverse (σ : gS) (p0 : Int64) : Option (Int64) :=
  nm (1 : Int64) fun x1 => nm (p0 : Int64) fun x2 => nm (1000001 : Int64) fun x3 => lpc (S := Int64 × Int64 × Int64) K9 (fun rec s => bX10_inverse_10 σ (fun a2 a4 a6 => rec (a2, a4, a6)) s.1 s.2.1 s.2.2) (x1, x2, x3)
noncomputable abbrev rmX10_inverse : Room := { frames := 0, cells := 0, slots := 0, locals := 0 }
set_option maxRecDepth 100000 in
set_option maxHeartbeats 4000000 in
theorem wjX10_inverse_37 {M : gM} {G : gG} {out : Int64} (X : gX M G zM cX10_inverse RX10 8 wsX10_inverse rmX10_inverse (some .long)) (σ : gS) (rec10 : Int64 → Int64 → Int64 → Option (Int64)) (ih10 : ∀ (a2 : Int64) (a4 : Int64) (a6 : Int64), rec10 a2 a4 a6 = some out → WW M (gQl M G zM out σ) G zM 8 σ 10 [(2, .long a2), (4, .long a4), (6, .long a6)] []) (a2 : Int64) (a4 : Int64) (a6 : Int64) (hF : jX10_inverse_37 σ rec10 a2 a4 a6 = some out) : WW M (gQl M G zM out σ) G zM 8 σ 37 [(2, .long a2), (4, .long a4), (6, .long a6)] [] := by
  unfold jX10_inverse_37 at hF
  refine ww_lload (pc := 37) X (j := 1) dX10_inverse_37 rfl ?_
  refine ww_lload (pc := 39) X (j := 1) dX10_inverse_39 rfl ?_
  refine ww_lmul (pc := 41) X dX10_inverse_41 ?_
  refine ww_ldc2 (pc := 42) X (v := 1000003) (List.mem_of_getElem? (i := 3) rfl) dX10_inverse_42 ?_
  refine ww_lrem (pc := 45) X dX10_inverse_45 (by decide) ?_
  refine ww_lstore (pc := 46) X (lv' := [(2, .long a2), (6, .long a6)]) dX10_inverse_46 (by decide) rfl hF (fun x6 ex6 hF => ?_)
  refine ww_lload (pc := 48) X (j := 2) dX10_inverse_48 rfl ?_
  refine ww_ldc2 (pc := 50) X (v := 2) (List.mem_of_getElem? (i := 2) rfl) dX10_inverse_50 ?_
  refine ww_ldiv (pc := 53) X dX10_inverse_53 (by decide) ?_
  refine ww_lstore (pc := 54) X (lv' := [(4, .long x6), (2, .long a2)]) dX10_inverse_54 (by decide) rfl hF (fun x7 ex7 hF => ?_)
  refine ww_goto (pc := 56) X (tgt := 10) dX10_inverse_56 (by decide) ?_
  exact ww_sub [2, 1, 0] rfl (ih10 a2 x6 x7 hF)
set_option maxRecDepth 100000 in
set_option maxHeartbeats 4000000 in
theorem wbX10_inverse_10 {M : gM} {G : gG} {out : Int64} (X : gX M G zM cX10_inverse RX10 8 wsX10_inverse rmX10_inverse (some .long)) (σ : gS) (rec10 : Int64 → Int64 → Int64 → Option (Int64)) (ih10 : ∀ (a2 : Int64) (a4 : Int64) (a6 : Int64), rec10 a2 a4 a6 = some out → WW M (gQl M G zM out σ) G zM 8 σ 10 [(2, .long a2), (4, .long a4), (6, .long a6)] []) (a2 : Int64) (a4 : Int64) (a6 : Int64) (hF : bX10_inverse_10 σ rec10 a2 a4 a6 = some out) : WW M (gQl M G zM out σ) G zM 8 σ 10 [(2, .long a2), (4, .long a4), (6, .long a6)] [] := by
  unfold bX10_inverse_10 at hF
  refine ww_lload (pc := 10) X (j := 2) dX10_inverse_10 rfl ?_
  refine ww_lconst (pc := 12) X (v := 0) dX10_inverse_12 (by decide) ?_
  refine ww_lcmp_le (pc := 13) (tgt := 59) X dX10_inverse_13 dX10_inverse_14 (by decide) hF (fun h4 hF => ?_) (fun h4 hF => ?_)
  · refine ww_lload_n (pc := 59) X (j := 0) dX10_inverse_59 rfl rfl ?_
    exact ww_lret (pc := 60) X dX10_inverse_60 (Option.some.inj hF) rfl
  · refine ww_lload (pc := 17) X (j := 2) dX10_inverse_17 rfl ?_
    refine ww_ldc2 (pc := 19) X (v := 2) (List.mem_of_getElem? (i := 2) rfl) dX10_inverse_19 ?_
    refine ww_lrem (pc := 22) X dX10_inverse_22 (by decide) ?_
    refine ww_lconst (pc := 23) X (v := 1) dX10_inverse_23 (by decide) ?_
    refine ww_lcmp_ne (pc := 24) (tgt := 37) X dX10_inverse_24 dX10_inverse_25 (by decide) hF (fun h5 hF => ?_) (fun h5 hF => ?_)
    · exact ww_sub [0, 1, 2] rfl (wjX10_inverse_37 X σ rec10 ih10 a2 a4 a6 hF)
    · refine ww_lload_n (pc := 28) X (j := 0) dX10_inverse_28 rfl rfl ?_
      refine ww_lload (pc := 29) X (j := 1) dX10_inverse_29 rfl ?_
      refine ww_lmul (pc := 31) X dX10_inverse_31 ?_
      refine ww_ldc2 (pc := 32) X (v := 1000003) (List.mem_of_getElem? (i := 3) rfl) dX10_inverse_32 ?_
      refine ww_lrem (pc := 35) X dX10_inverse_35 (by decide) ?_
      refine ww_lstore_n (pc := 36) X (lv' := [(4, .long a4), (6, .long a6)]) dX10_inverse_36 rfl (by decide) rfl hF (fun x8 ex8 hF => ?_)
      exact ww_sub [0, 1, 2] rfl (wjX10_inverse_37 X σ rec10 ih10 x8 a4 a6 hF)
set_option maxRecDepth 100000 in
set_option maxHeartbeats 4000000 in
theorem wX10_inverse {M : gM} {G : gG} {out : Int64} (X : gX M G zM cX10_inverse RX10 8 wsX10_inverse rmX10_inverse (some .long)) (σ : gS) (p0 : Int64) (hF : fX10_inverse σ p0 = some out) : WW M (gQl M G zM out σ) G zM 8 σ 0 [(0, .long p0)] [] := by
  unfold fX10_inverse at hF
  refine ww_lconst (pc := 0) X (v := 1) dX10_inverse_0 (by decide) ?_
  refine ww_lstore_n (pc := 1) X (lv' := [(0, .long p0)]) dX10_inverse_1 rfl (by decide) rfl hF (fun x1 ex1 hF => ?_)
  refine ww_lload_n (pc := 2) X (j := 1) dX10_inverse_2 rfl rfl ?_
  refine ww_lstore (pc := 3) X (lv' := [(2, .long x1), (0, .long p0)]) dX10_inverse_3 (by decide) rfl hF (fun x2 ex2 hF => ?_)
  refine ww_ldc2 (pc := 5) X (v := 1000001) (List.mem_of_getElem? (i := 1) rfl) dX10_inverse_5 ?_
  refine ww_lstore (pc := 8) X (lv' := [(4, .long x2), (2, .long x1), (0, .long p0)]) dX10_inverse_8 (by decide) rfl hF (fun x3 ex3 hF => ?_)
  exact ww_sub [2, 1, 0] rfl (lpc_ind (P := (fun (s : Int64 × Int64 × Int64) => WW M (gQl M G zM out σ) G zM 8 σ 10 [(2, .long s.1), (4, .long s.2.1), (6, .long s.2.2)] [])) (fun rec s ih hF => wbX10_inverse_10 X σ (fun a2 a4 a6 => rec (a2, a4, a6)) (fun a2 a4 a6 h => ih (a2, a4, a6) h) s.1 s.2.1 s.2.2 hF) K9 (x1, x2, x3) hF)
set_option maxRecDepth 100000 in
set_option maxHeartbeats 4000000 in
theorem kX10_inverse (l : Launch) (G : gG) (hG : gOK G zM.1) (hT : G.2.2.1.map (fun q => q.2) = zM.2.1) (σ : gS) (p0 : Int64) (out : Int64) (hF : fX10_inverse σ p0 = some out) : gCl l yX10_inverse wsX10_inverse rmX10_inverse G zM [.long p0] σ out σ :=
  gEnter (by decide) rfl ⟨rfl, rfl⟩ hG hT (Nat.le_of_ble_eq_true rfl) rfl (fun M X hl => wX10_inverse X σ p0 hF)
noncomputable def bX10_isSolved_168 (σ : gS) (c126_1 : Int32) (c168_5 : Int32) (c168_6 : Int64) (rec6 : Int32 → gS → Option (Int32 × gS)) (rec126 : Int32 → gS → Option (Int32 × gS)) (rec168 : Int32 → gS → Option (Int32 × gS)) (a8 : Int32) (σ1 : gS) : Option (Int32 × gS) :=
  if 40 ≤ a8 then nm (c168_5 + 1 : Int32) fun x26 => rec126 x26 σ1 else gd (gb ((40 * c168_5) + a8) 1520) <| nm (σ1.2 31 ((40 * c168_5) + a8).toNatClampNeg) fun v27 => gd (gb ((40 * c126_1) + a8) 1520) <| nm (σ1.2 31 ((40 * c126_1) + a8).toNatClampNeg) fun v28 => bd (fX10_modulo σ1 (v27 - (c168_6 * v28))) fun r30 => gd (gb ((40 * c168_5) + a8) 1520) <| nm (gsL σ1 31 ((40 * c168_5) + a8).toNatClampNeg r30) fun σ31 => nm (a8 + 1 : Int32) fun x32 => rec168 x32 σ31
noncomputable def bX10_isSolved_126 (σ : gS) (c126_1 : Int32) (rec6 : Int32 → gS → Option (Int32 × gS)) (rec126 : Int32 → gS → Option (Int32 × gS)) (a5 : Int32) (σ1 : gS) : Option (Int32 × gS) :=
  if (σ1.1 0 43) ≤ a5 then nm (c126_1 + 1 : Int32) fun x18 => rec6 x18 σ1 else gd (gb ((40 * a5) + c126_1) 1520) <| nm (σ1.2 31 ((40 * a5) + c126_1).toNatClampNeg) fun v19 => nm (v19 : Int64) fun x20 => (if a5 = c126_1 then nm (a5 + 1 : Int32) fun x22 => rec126 x22 σ1 else if x20 = 0 then nm (a5 + 1 : Int32) fun x33 => rec126 x33 σ1 else nm (0 : Int32) fun x24 => lpc (S := Int32 × gS) K9 (fun rec s => bX10_isSolved_168 σ1 c126_1 a5 x20 rec6 rec126 (fun a8 σ1 => rec (a8, σ1)) s.1 s.2) (x24, σ1))
noncomputable def bX10_isSolved_80 (σ : gS) (c80_1 : Int32) (c80_3 : Int64) (rec6 : Int32 → gS → Option (Int32 × gS)) (rec80 : Int32 → gS → Option (Int32 × gS)) (a5 : Int32) (σ1 : gS) : Option (Int32 × gS) :=
  if 40 ≤ a5 then nm (0 : Int32) fun x16 => lpc (S := Int32 × gS) K9 (fun rec s => bX10_isSolved_126 σ1 c80_1 rec6 (fun a5 σ1 => rec (a5, σ1)) s.1 s.2) (x16, σ1) else gd (gb ((40 * c80_1) + a5) 1520) <| nm (σ1.2 31 ((40 * c80_1) + a5).toNatClampNeg) fun v34 => gd (gb ((40 * c80_1) + a5) 1520) <| nm (gsL σ1 31 ((40 * c80_1) + a5).toNatClampNeg (lrm (v34 * c80_3) 1000003)) fun σ35 => nm (a5 + 1 : Int32) fun x36 => rec80 x36 σ35
noncomputable def jX10_isSolved_46 (σ : gS) (rec6 : Int32 → gS → Option (Int32 × gS)) (a1 : Int32) (a2 : Int32) : Option (Int32 × gS) :=
  if a2 = (σ.1 0 43) then some (0, σ) else bd (fX10_swaps σ a1 a2) fun σ9 => gd (gb ((40 * a1) + a1) 1520) <| nm (σ9.2 31 ((40 * a1) + a1).toNatClampNeg) fun v10 => bd (fX10_inverse σ9 v10) fun r12 => nm (r12 : Int64) fun x13 => nm (0 : Int32) fun x14 => lpc (S := Int32 × gS) K9 (fun rec s => bX10_isSolved_80 σ9 a1 x13 rec6 (fun a5 σ1 => rec (a5, σ1)) s.1 s.2) (x14, σ9)
noncomputable def bX10_isSolved_16 (σ : gS) (c16_1 : Int32) (rec6 : Int32 → gS → Option (Int32 × gS)) (rec16 : Int32 → Option (Int32 × gS)) (a2 : Int32) : Option (Int32 × gS) :=
  if (σ.1 0 43) ≤ a2 then jX10_isSolved_46 σ rec6 c16_1 a2 else gd (gb ((40 * a2) + c16_1) 1520) <| nm (σ.2 31 ((40 * a2) + c16_1).toNatClampNeg) fun v37 => (if v37 = 0 then nm (a2 + 1 : Int32) fun x39 => rec16 x39 else jX10_isSolved_46 σ rec6 c16_1 a2)
noncomputable def bX10_isSolved_6 (σ : gS) (rec6 : Int32 → gS → Option (Int32 × gS)) (a1 : Int32) (σ1 : gS) : Option (Int32 × gS) :=
  if (σ1.1 0 43) ≤ a1 then some (1, σ1) else nm (a1 : Int32) fun x5 => lpc (S := Int32) K9 (fun rec s => bX10_isSolved_16 σ1 a1 rec6 (fun a2 => rec (a2)) s) (x5)
noncomputable def fX10_isSolved (σ : gS) : Option (Int32 × gS) :=
  bd (fX10_equations σ) fun σ2 => nm (0 : Int32) fun x3 => lpc (S := Int32 × gS) K9 (fun rec s => bX10_isSolved_6 σ2 (fun a1 σ1 => rec (a1, σ1)) s.1 s.2) (x3, σ2)
noncomputable abbrev rmX10_isSolved : Room := { frames := 4, cells := 0, slots := 0, locals := 94 }
set_option maxRecDepth 100000 in
set_option maxHeartbeats 4000000 in
theorem wbX10_isSolved_168 {M : gM} {G : gG} {out : Int32 × gS} (X : gX M G zM cX10_isSolved RX10 9 wsX10_isSolved rmX10_isSolved (some .boolean)) (σ : gS) (c126_1 : Int32) (c168_5 : Int32) (c168_6 : Int64) (rec6 : Int32 → gS → Option (Int32 × gS)) (rec126 : Int32 → gS → Option (Int32 × gS)) (ih6 : ∀ (a1 : Int32) (σ1 : gS), rec6 a1 σ1 = some out → WW M (gQi M G zM out.1 out.2) G zM 9 σ1 6 [(0, .ref (G.2.1 0)), (1, .int a1)] []) (ih126 : ∀ (a5 : Int32) (σ1 : gS), rec126 a5 σ1 = some out → WW M (gQi M G zM out.1 out.2) G zM 9 σ1 126 [(0, .ref (G.2.1 0)), (1, .int c126_1), (5, .int a5)] []) (rec168 : Int32 → gS → Option (Int32 × gS)) (ih168 : ∀ (a8 : Int32) (σ1 : gS), rec168 a8 σ1 = some out → WW M (gQi M G zM out.1 out.2) G zM 9 σ1 168 [(0, .ref (G.2.1 0)), (1, .int c126_1), (5, .int c168_5), (6, .long c168_6), (8, .int a8)] []) (a8 : Int32) (σ1 : gS) (hF : bX10_isSolved_168 σ c126_1 c168_5 c168_6 rec6 rec126 rec168 a8 σ1 = some out) : WW M (gQi M G zM out.1 out.2) G zM 9 σ1 168 [(0, .ref (G.2.1 0)), (1, .int c126_1), (5, .int c168_5), (6, .long c168_6), (8, .int a8)] [] := by
  unfold bX10_isSolved_168 at hF
  refine ww_iload (pc := 168) X (j := 4) dX10_isSolved_168 rfl ?_
  refine ww_bipush (pc := 170) X (v := 40) dX10_isSolved_170 (by decide) ?_
  refine ww_icmp_ge (pc := 172) (tgt := 226) X dX10_isSolved_172 (by decide) hF (fun h25 hF => ?_) (fun h25 hF => ?_)
  · refine ww_iinc (pc := 226) X (j := 2) (v := 1) (lv' := [(0, .ref (G.2.1 0)), (1, .int c126_1), (6, .long c168_6), (8, .int a8)]) dX10_isSolved_226 rfl rfl (by decide) rfl hF (fun x26 ex26 hF => ?_)
    refine ww_goto (pc := 229) X (tgt := 126) dX10_isSolved_229 (by decide) ?_
    exact ww_sub [1, 2, 0] rfl (ih126 x26 σ1 hF)
  · refine ww_aload_n (pc := 175) X (j := 0) dX10_isSolved_175 rfl rfl ?_
    refine ww_get (pc := 176) X (ref := "PictureBlockModel") (T := TX10) (j := 44) dX10_isSolved_176 inX10_isSolved_RX10 shzM_0 clzM_10 (by decide) rfl (List.mem_of_getElem? (i := 2) rfl) rfl ?_
    refine ww_bipush (pc := 179) X (v := 40) dX10_isSolved_179 (by decide) ?_
    refine ww_iload (pc := 181) X (j := 2) dX10_isSolved_181 rfl ?_
    refine ww_imul (pc := 183) X dX10_isSolved_183 ?_
    refine ww_iload (pc := 184) X (j := 4) dX10_isSolved_184 rfl ?_
    refine ww_iadd (pc := 186) X dX10_isSolved_186 ?_
    refine ww_aload_n (pc := 187) X (j := 0) dX10_isSolved_187 rfl rfl ?_
    refine ww_get (pc := 188) X (ref := "PictureBlockModel") (T := TX10) (j := 44) dX10_isSolved_188 inX10_isSolved_RX10 shzM_0 clzM_10 (by decide) rfl (List.mem_of_getElem? (i := 2) rfl) rfl ?_
    refine ww_bipush (pc := 191) X (v := 40) dX10_isSolved_191 (by decide) ?_
    refine ww_iload (pc := 193) X (j := 2) dX10_isSolved_193 rfl ?_
    refine ww_imul (pc := 195) X dX10_isSolved_195 ?_
    refine ww_iload (pc := 196) X (j := 4) dX10_isSolved_196 rfl ?_
    refine ww_iadd (pc := 198) X dX10_isSolved_198 ?_
    refine ww_lald (pc := 199) X dX10_isSolved_199 shzM_31 rfl hF (fun v27 ev27 bv27 hF => ?_)
    refine ww_lload (pc := 200) X (j := 3) dX10_isSolved_200 rfl ?_
    refine ww_aload_n (pc := 202) X (j := 0) dX10_isSolved_202 rfl rfl ?_
    refine ww_get (pc := 203) X (ref := "PictureBlockModel") (T := TX10) (j := 44) dX10_isSolved_203 inX10_isSolved_RX10 shzM_0 clzM_10 (by decide) rfl (List.mem_of_getElem? (i := 2) rfl) rfl ?_
    refine ww_bipush (pc := 206) X (v := 40) dX10_isSolved_206 (by decide) ?_
    refine ww_iload_n (pc := 208) X (j := 1) dX10_isSolved_208 rfl rfl ?_
    refine ww_imul (pc := 209) X dX10_isSolved_209 ?_
    refine ww_iload (pc := 210) X (j := 4) dX10_isSolved_210 rfl ?_
    refine ww_iadd (pc := 212) X dX10_isSolved_212 ?_
    refine ww_lald (pc := 213) X dX10_isSolved_213 shzM_31 rfl hF (fun v28 ev28 bv28 hF => ?_)
    refine ww_lmul (pc := 214) X dX10_isSolved_214 ?_
    refine ww_lsub (pc := 215) X dX10_isSolved_215 ?_
    obtain ⟨r30, h29, hF⟩ := bd_some hF
    refine ww_callSl (pc := 216) X (As := [.long (v27 - (c168_6 * v28))]) (rest := [.int ((40 * c168_5) + a8), .ref (G.2.1 31)]) dX10_isSolved_216 (kX10_modulo (mL M) G X.2.2.2.2.2.2.1 X.2.2.2.2.2.2.2.1 σ1 (v27 - (c168_6 * v28)) r30 h29) rfl gX10_isSolved_X10_modulo hyX10_modulo ⟨rfl, rfl⟩ ⟨Nat.le_of_ble_eq_true rfl, Nat.le_of_ble_eq_true rfl⟩ rfl rfl (Nat.le_of_ble_eq_true rfl) ?_
    refine ww_last (pc := 219) X dX10_isSolved_219 shzM_31 rfl hF (fun σ31 eσ31 bσ31 hF => ?_)
    refine ww_iinc (pc := 220) X (j := 4) (v := 1) (lv' := [(0, .ref (G.2.1 0)), (1, .int c126_1), (5, .int c168_5), (6, .long c168_6)]) dX10_isSolved_220 rfl rfl (by decide) rfl hF (fun x32 ex32 hF => ?_)
    refine ww_goto (pc := 223) X (tgt := 168) dX10_isSolved_223 (by decide) ?_
    exact ww_sub [1, 2, 3, 4, 0] rfl (ih168 x32 σ31 hF)
set_option maxRecDepth 100000 in
set_option maxHeartbeats 4000000 in
theorem wbX10_isSolved_126 {M : gM} {G : gG} {out : Int32 × gS} (X : gX M G zM cX10_isSolved RX10 9 wsX10_isSolved rmX10_isSolved (some .boolean)) (σ : gS) (c126_1 : Int32) (rec6 : Int32 → gS → Option (Int32 × gS)) (ih6 : ∀ (a1 : Int32) (σ1 : gS), rec6 a1 σ1 = some out → WW M (gQi M G zM out.1 out.2) G zM 9 σ1 6 [(0, .ref (G.2.1 0)), (1, .int a1)] []) (rec126 : Int32 → gS → Option (Int32 × gS)) (ih126 : ∀ (a5 : Int32) (σ1 : gS), rec126 a5 σ1 = some out → WW M (gQi M G zM out.1 out.2) G zM 9 σ1 126 [(0, .ref (G.2.1 0)), (1, .int c126_1), (5, .int a5)] []) (a5 : Int32) (σ1 : gS) (hF : bX10_isSolved_126 σ c126_1 rec6 rec126 a5 σ1 = some out) : WW M (gQi M G zM out.1 out.2) G zM 9 σ1 126 [(0, .ref (G.2.1 0)), (1, .int c126_1), (5, .int a5)] [] := by
  unfold bX10_isSolved_126 at hF
  refine ww_iload (pc := 126) X (j := 2) dX10_isSolved_126 rfl ?_
  refine ww_aload_n (pc := 128) X (j := 0) dX10_isSolved_128 rfl rfl ?_
  refine ww_get (pc := 129) X (ref := "PictureBlockModel") (T := TX10) (j := 43) dX10_isSolved_129 inX10_isSolved_RX10 shzM_0 clzM_10 (by decide) rfl (List.mem_of_getElem? (i := 1) rfl) rfl ?_
  refine ww_icmp_ge (pc := 132) (tgt := 232) X dX10_isSolved_132 (by decide) hF (fun h17 hF => ?_) (fun h17 hF => ?_)
  · refine ww_iinc (pc := 232) X (j := 1) (v := 1) (lv' := [(0, .ref (G.2.1 0)), (5, .int a5)]) dX10_isSolved_232 rfl rfl (by decide) rfl hF (fun x18 ex18 hF => ?_)
    refine ww_goto (pc := 235) X (tgt := 6) dX10_isSolved_235 (by decide) ?_
    exact ww_sub [1, 0] rfl (ih6 x18 σ1 hF)
  · refine ww_aload_n (pc := 135) X (j := 0) dX10_isSolved_135 rfl rfl ?_
    refine ww_get (pc := 136) X (ref := "PictureBlockModel") (T := TX10) (j := 44) dX10_isSolved_136 inX10_isSolved_RX10 shzM_0 clzM_10 (by decide) rfl (List.mem_of_getElem? (i := 2) rfl) rfl ?_
    refine ww_bipush (pc := 139) X (v := 40) dX10_isSolved_139 (by decide) ?_
    refine ww_iload (pc := 141) X (j := 2) dX10_isSolved_141 rfl ?_
    refine ww_imul (pc := 143) X dX10_isSolved_143 ?_
    refine ww_iload_n (pc := 144) X (j := 1) dX10_isSolved_144 rfl rfl ?_
    refine ww_iadd (pc := 145) X dX10_isSolved_145 ?_
    refine ww_lald (pc := 146) X dX10_isSolved_146 shzM_31 rfl hF (fun v19 ev19 bv19 hF => ?_)
    refine ww_lstore (pc := 147) X (lv' := [(0, .ref (G.2.1 0)), (1, .int c126_1), (5, .int a5)]) dX10_isSolved_147 (by decide) rfl hF (fun x20 ex20 hF => ?_)
    refine ww_iload (pc := 149) X (j := 3) dX10_isSolved_149 rfl ?_
    refine ww_iload_n (pc := 151) X (j := 2) dX10_isSolved_151 rfl rfl ?_
    refine ww_icmp_eq (pc := 152) (tgt := 226) X dX10_isSolved_152 (by decide) hF (fun h21 hF => ?_) (fun h21 hF => ?_)
    · refine ww_iinc (pc := 226) X (j := 3) (v := 1) (lv' := [(6, .long x20), (0, .ref (G.2.1 0)), (1, .int c126_1)]) dX10_isSolved_226 rfl rfl (by decide) rfl hF (fun x22 ex22 hF => ?_)
      refine ww_goto (pc := 229) X (tgt := 126) dX10_isSolved_229 (by decide) ?_
      exact ww_sub [2, 3, 0] rfl (ih126 x22 σ1 hF)
    · refine ww_lload (pc := 155) X (j := 0) dX10_isSolved_155 rfl ?_
      refine ww_lconst (pc := 157) X (v := 0) dX10_isSolved_157 (by decide) ?_
      refine ww_lcmp_ne (pc := 158) (tgt := 165) X dX10_isSolved_158 dX10_isSolved_159 (by decide) hF (fun h23 hF => ?_) (fun h23 hF => ?_)
      · refine ww_iconst (pc := 165) X (v := 0) dX10_isSolved_165 (by decide) ?_
        refine ww_istore (pc := 166) X (lv' := [(6, .long x20), (0, .ref (G.2.1 0)), (1, .int c126_1), (5, .int a5)]) dX10_isSolved_166 (by decide) rfl hF (fun x24 ex24 hF => ?_)
        exact ww_sub [2, 3, 4, 1, 0] rfl (lpc_ind (P := (fun (s : Int32 × gS) => WW M (gQi M G zM out.1 out.2) G zM 9 s.2 168 [(0, .ref (G.2.1 0)), (1, .int c126_1), (5, .int a5), (6, .long x20), (8, .int s.1)] [])) (fun rec s ih hF => wbX10_isSolved_168 X σ1 c126_1 a5 x20 rec6  rec126  ih6 ih126 (fun a8 σ1 => rec (a8, σ1)) (fun a8 σ1 h => ih (a8, σ1) h) s.1 s.2 hF) K9 (x24, σ1) hF)
      · refine ww_goto (pc := 162) X (tgt := 226) dX10_isSolved_162 (by decide) ?_
        refine ww_iinc (pc := 226) X (j := 3) (v := 1) (lv' := [(6, .long x20), (0, .ref (G.2.1 0)), (1, .int c126_1)]) dX10_isSolved_226 rfl rfl (by decide) rfl hF (fun x33 ex33 hF => ?_)
        refine ww_goto (pc := 229) X (tgt := 126) dX10_isSolved_229 (by decide) ?_
        exact ww_sub [2, 3, 0] rfl (ih126 x33 σ1 hF)
set_option maxRecDepth 100000 in
set_option maxHeartbeats 4000000 in
theorem wbX10_isSolved_80 {M : gM} {G : gG} {out : Int32 × gS} (X : gX M G zM cX10_isSolved RX10 9 wsX10_isSolved rmX10_isSolved (some .boolean)) (σ : gS) (c80_1 : Int32) (c80_3 : Int64) (rec6 : Int32 → gS → Option (Int32 × gS)) (ih6 : ∀ (a1 : Int32) (σ1 : gS), rec6 a1 σ1 = some out → WW M (gQi M G zM out.1 out.2) G zM 9 σ1 6 [(0, .ref (G.2.1 0)), (1, .int a1)] []) (rec80 : Int32 → gS → Option (Int32 × gS)) (ih80 : ∀ (a5 : Int32) (σ1 : gS), rec80 a5 σ1 = some out → WW M (gQi M G zM out.1 out.2) G zM 9 σ1 80 [(0, .ref (G.2.1 0)), (1, .int c80_1), (3, .long c80_3), (5, .int a5)] []) (a5 : Int32) (σ1 : gS) (hF : bX10_isSolved_80 σ c80_1 c80_3 rec6 rec80 a5 σ1 = some out) : WW M (gQi M G zM out.1 out.2) G zM 9 σ1 80 [(0, .ref (G.2.1 0)), (1, .int c80_1), (3, .long c80_3), (5, .int a5)] [] := by
  unfold bX10_isSolved_80 at hF
  refine ww_iload (pc := 80) X (j := 3) dX10_isSolved_80 rfl ?_
  refine ww_bipush (pc := 82) X (v := 40) dX10_isSolved_82 (by decide) ?_
  refine ww_icmp_ge (pc := 84) (tgt := 123) X dX10_isSolved_84 (by decide) hF (fun h15 hF => ?_) (fun h15 hF => ?_)
  · refine ww_iconst (pc := 123) X (v := 0) dX10_isSolved_123 (by decide) ?_
    refine ww_istore (pc := 124) X (lv' := [(0, .ref (G.2.1 0)), (1, .int c80_1), (3, .long c80_3)]) dX10_isSolved_124 (by decide) rfl hF (fun x16 ex16 hF => ?_)
    exact ww_sub [1, 2, 0] rfl (lpc_ind (P := (fun (s : Int32 × gS) => WW M (gQi M G zM out.1 out.2) G zM 9 s.2 126 [(0, .ref (G.2.1 0)), (1, .int c80_1), (5, .int s.1)] [])) (fun rec s ih hF => wbX10_isSolved_126 X σ1 c80_1 rec6  ih6 (fun a5 σ1 => rec (a5, σ1)) (fun a5 σ1 h => ih (a5, σ1) h) s.1 s.2 hF) K9 (x16, σ1) hF)
  · refine ww_aload_n (pc := 87) X (j := 0) dX10_isSolved_87 rfl rfl ?_
    refine ww_get (pc := 88) X (ref := "PictureBlockModel") (T := TX10) (j := 44) dX10_isSolved_88 inX10_isSolved_RX10 shzM_0 clzM_10 (by decide) rfl (List.mem_of_getElem? (i := 2) rfl) rfl ?_
    refine ww_bipush (pc := 91) X (v := 40) dX10_isSolved_91 (by decide) ?_
    refine ww_iload_n (pc := 93) X (j := 1) dX10_isSolved_93 rfl rfl ?_
    refine ww_imul (pc := 94) X dX10_isSolved_94 ?_
    refine ww_iload (pc := 95) X (j := 3) dX10_isSolved_95 rfl ?_
    refine ww_iadd (pc := 97) X dX10_isSolved_97 ?_
    refine ww_aload_n (pc := 98) X (j := 0) dX10_isSolved_98 rfl rfl ?_
    refine ww_get (pc := 99) X (ref := "PictureBlockModel") (T := TX10) (j := 44) dX10_isSolved_99 inX10_isSolved_RX10 shzM_0 clzM_10 (by decide) rfl (List.mem_of_getElem? (i := 2) rfl) rfl ?_
    refine ww_bipush (pc := 102) X (v := 40) dX10_isSolved_102 (by decide) ?_
    refine ww_iload_n (pc := 104) X (j := 1) dX10_isSolved_104 rfl rfl ?_
    refine ww_imul (pc := 105) X dX10_isSolved_105 ?_
    refine ww_iload (pc := 106) X (j := 3) dX10_isSolved_106 rfl ?_
    refine ww_iadd (pc := 108) X dX10_isSolved_108 ?_
    refine ww_lald (pc := 109) X dX10_isSolved_109 shzM_31 rfl hF (fun v34 ev34 bv34 hF => ?_)
    refine ww_lload_n (pc := 110) X (j := 2) dX10_isSolved_110 rfl rfl ?_
    refine ww_lmul (pc := 111) X dX10_isSolved_111 ?_
    refine ww_ldc2 (pc := 112) X (v := 1000003) (List.mem_of_getElem? (i := 3) rfl) dX10_isSolved_112 ?_
    refine ww_lrem (pc := 115) X dX10_isSolved_115 (by decide) ?_
    refine ww_last (pc := 116) X dX10_isSolved_116 shzM_31 rfl hF (fun σ35 eσ35 bσ35 hF => ?_)
    refine ww_iinc (pc := 117) X (j := 3) (v := 1) (lv' := [(0, .ref (G.2.1 0)), (1, .int c80_1), (3, .long c80_3)]) dX10_isSolved_117 rfl rfl (by decide) rfl hF (fun x36 ex36 hF => ?_)
    refine ww_goto (pc := 120) X (tgt := 80) dX10_isSolved_120 (by decide) ?_
    exact ww_sub [1, 2, 3, 0] rfl (ih80 x36 σ35 hF)
set_option maxRecDepth 100000 in
set_option maxHeartbeats 4000000 in
theorem wjX10_isSolved_46 {M : gM} {G : gG} {out : Int32 × gS} (X : gX M G zM cX10_isSolved RX10 9 wsX10_isSolved rmX10_isSolved (some .boolean)) (σ : gS) (rec6 : Int32 → gS → Option (Int32 × gS)) (ih6 : ∀ (a1 : Int32) (σ1 : gS), rec6 a1 σ1 = some out → WW M (gQi M G zM out.1 out.2) G zM 9 σ1 6 [(0, .ref (G.2.1 0)), (1, .int a1)] []) (a1 : Int32) (a2 : Int32) (hF : jX10_isSolved_46 σ rec6 a1 a2 = some out) : WW M (gQi M G zM out.1 out.2) G zM 9 σ 46 [(0, .ref (G.2.1 0)), (1, .int a1), (2, .int a2)] [] := by
  unfold jX10_isSolved_46 at hF
  refine ww_iload_n (pc := 46) X (j := 2) dX10_isSolved_46 rfl rfl ?_
  refine ww_aload_n (pc := 47) X (j := 0) dX10_isSolved_47 rfl rfl ?_
  refine ww_get (pc := 48) X (ref := "PictureBlockModel") (T := TX10) (j := 43) dX10_isSolved_48 inX10_isSolved_RX10 shzM_0 clzM_10 (by decide) rfl (List.mem_of_getElem? (i := 1) rfl) rfl ?_
  refine ww_icmp_ne (pc := 51) (tgt := 56) X dX10_isSolved_51 (by decide) hF (fun h7 hF => ?_) (fun h7 hF => ?_)
  · refine ww_aload_n (pc := 56) X (j := 0) dX10_isSolved_56 rfl rfl ?_
    refine ww_iload_n (pc := 57) X (j := 1) dX10_isSolved_57 rfl rfl ?_
    refine ww_iload_n (pc := 58) X (j := 2) dX10_isSolved_58 rfl rfl ?_
    obtain ⟨σ9, h8, hF⟩ := bd_some hF
    refine ww_callVv (pc := 59) X (As := [.int a1, .int a2]) (rest := []) dX10_isSolved_59 (kX10_swaps (mL M) G X.2.2.2.2.2.2.1 X.2.2.2.2.2.2.2.1 σ a1 a2 σ9 h8) rfl shzM_0 clzM_10 gX10_isSolved_X10_swaps hyX10_swaps ⟨rfl, rfl⟩ ⟨Nat.le_of_ble_eq_true rfl, Nat.le_of_ble_eq_true rfl⟩ rfl rfl (Nat.le_of_ble_eq_true rfl) ?_
    refine ww_aload_n (pc := 62) X (j := 0) dX10_isSolved_62 rfl rfl ?_
    refine ww_get (pc := 63) X (ref := "PictureBlockModel") (T := TX10) (j := 44) dX10_isSolved_63 inX10_isSolved_RX10 shzM_0 clzM_10 (by decide) rfl (List.mem_of_getElem? (i := 2) rfl) rfl ?_
    refine ww_bipush (pc := 66) X (v := 40) dX10_isSolved_66 (by decide) ?_
    refine ww_iload_n (pc := 68) X (j := 1) dX10_isSolved_68 rfl rfl ?_
    refine ww_imul (pc := 69) X dX10_isSolved_69 ?_
    refine ww_iload_n (pc := 70) X (j := 1) dX10_isSolved_70 rfl rfl ?_
    refine ww_iadd (pc := 71) X dX10_isSolved_71 ?_
    refine ww_lald (pc := 72) X dX10_isSolved_72 shzM_31 rfl hF (fun v10 ev10 bv10 hF => ?_)
    obtain ⟨r12, h11, hF⟩ := bd_some hF
    refine ww_callSl (pc := 73) X (As := [.long v10]) (rest := []) dX10_isSolved_73 (kX10_inverse (mL M) G X.2.2.2.2.2.2.1 X.2.2.2.2.2.2.2.1 σ9 v10 r12 h11) rfl gX10_isSolved_X10_inverse hyX10_inverse ⟨rfl, rfl⟩ ⟨Nat.le_of_ble_eq_true rfl, Nat.le_of_ble_eq_true rfl⟩ rfl rfl (Nat.le_of_ble_eq_true rfl) ?_
    refine ww_lstore_n (pc := 76) X (lv' := [(0, .ref (G.2.1 0)), (1, .int a1), (2, .int a2)]) dX10_isSolved_76 rfl (by decide) rfl hF (fun x13 ex13 hF => ?_)
    refine ww_iconst (pc := 77) X (v := 0) dX10_isSolved_77 (by decide) ?_
    refine ww_istore (pc := 78) X (lv' := [(3, .long x13), (0, .ref (G.2.1 0)), (1, .int a1), (2, .int a2)]) dX10_isSolved_78 (by decide) rfl hF (fun x14 ex14 hF => ?_)
    exact ww_sub [2, 3, 1, 0] rfl (lpc_ind (P := (fun (s : Int32 × gS) => WW M (gQi M G zM out.1 out.2) G zM 9 s.2 80 [(0, .ref (G.2.1 0)), (1, .int a1), (3, .long x13), (5, .int s.1)] [])) (fun rec s ih hF => wbX10_isSolved_80 X σ9 a1 x13 rec6  ih6 (fun a5 σ1 => rec (a5, σ1)) (fun a5 σ1 h => ih (a5, σ1) h) s.1 s.2 hF) K9 (x14, σ9) hF)
  · refine ww_iconst (pc := 54) X (v := 0) dX10_isSolved_54 (by decide) ?_
    exact ww_zret (pc := 55) X dX10_isSolved_55 (by cases hF; rfl) (by cases hF; rfl)
set_option maxRecDepth 100000 in
set_option maxHeartbeats 4000000 in
theorem wbX10_isSolved_16 {M : gM} {G : gG} {out : Int32 × gS} (X : gX M G zM cX10_isSolved RX10 9 wsX10_isSolved rmX10_isSolved (some .boolean)) (σ : gS) (c16_1 : Int32) (rec6 : Int32 → gS → Option (Int32 × gS)) (ih6 : ∀ (a1 : Int32) (σ1 : gS), rec6 a1 σ1 = some out → WW M (gQi M G zM out.1 out.2) G zM 9 σ1 6 [(0, .ref (G.2.1 0)), (1, .int a1)] []) (rec16 : Int32 → Option (Int32 × gS)) (ih16 : ∀ (a2 : Int32), rec16 a2 = some out → WW M (gQi M G zM out.1 out.2) G zM 9 σ 16 [(0, .ref (G.2.1 0)), (1, .int c16_1), (2, .int a2)] []) (a2 : Int32) (hF : bX10_isSolved_16 σ c16_1 rec6 rec16 a2 = some out) : WW M (gQi M G zM out.1 out.2) G zM 9 σ 16 [(0, .ref (G.2.1 0)), (1, .int c16_1), (2, .int a2)] [] := by
  unfold bX10_isSolved_16 at hF
  refine ww_iload_n (pc := 16) X (j := 2) dX10_isSolved_16 rfl rfl ?_
  refine ww_aload_n (pc := 17) X (j := 0) dX10_isSolved_17 rfl rfl ?_
  refine ww_get (pc := 18) X (ref := "PictureBlockModel") (T := TX10) (j := 43) dX10_isSolved_18 inX10_isSolved_RX10 shzM_0 clzM_10 (by decide) rfl (List.mem_of_getElem? (i := 1) rfl) rfl ?_
  refine ww_icmp_ge (pc := 21) (tgt := 46) X dX10_isSolved_21 (by decide) hF (fun h6 hF => ?_) (fun h6 hF => ?_)
  · exact ww_sub [0, 1, 2] rfl (wjX10_isSolved_46 X σ rec6 ih6 c16_1 a2 hF)
  · refine ww_aload_n (pc := 24) X (j := 0) dX10_isSolved_24 rfl rfl ?_
    refine ww_get (pc := 25) X (ref := "PictureBlockModel") (T := TX10) (j := 44) dX10_isSolved_25 inX10_isSolved_RX10 shzM_0 clzM_10 (by decide) rfl (List.mem_of_getElem? (i := 2) rfl) rfl ?_
    refine ww_bipush (pc := 28) X (v := 40) dX10_isSolved_28 (by decide) ?_
    refine ww_iload_n (pc := 30) X (j := 2) dX10_isSolved_30 rfl rfl ?_
    refine ww_imul (pc := 31) X dX10_isSolved_31 ?_
    refine ww_iload_n (pc := 32) X (j := 1) dX10_isSolved_32 rfl rfl ?_
    refine ww_iadd (pc := 33) X dX10_isSolved_33 ?_
    refine ww_lald (pc := 34) X dX10_isSolved_34 shzM_31 rfl hF (fun v37 ev37 bv37 hF => ?_)
    refine ww_lconst (pc := 35) X (v := 0) dX10_isSolved_35 (by decide) ?_
    refine ww_lcmp_ne (pc := 36) (tgt := 46) X dX10_isSolved_36 dX10_isSolved_37 (by decide) hF (fun h38 hF => ?_) (fun h38 hF => ?_)
    · exact ww_sub [0, 1, 2] rfl (wjX10_isSolved_46 X σ rec6 ih6 c16_1 a2 hF)
    · refine ww_iinc (pc := 40) X (j := 2) (v := 1) (lv' := [(0, .ref (G.2.1 0)), (1, .int c16_1)]) dX10_isSolved_40 rfl rfl (by decide) rfl hF (fun x39 ex39 hF => ?_)
      refine ww_goto (pc := 43) X (tgt := 16) dX10_isSolved_43 (by decide) ?_
      exact ww_sub [1, 2, 0] rfl (ih16 x39 hF)
set_option maxRecDepth 100000 in
set_option maxHeartbeats 4000000 in
theorem wbX10_isSolved_6 {M : gM} {G : gG} {out : Int32 × gS} (X : gX M G zM cX10_isSolved RX10 9 wsX10_isSolved rmX10_isSolved (some .boolean)) (σ : gS) (rec6 : Int32 → gS → Option (Int32 × gS)) (ih6 : ∀ (a1 : Int32) (σ1 : gS), rec6 a1 σ1 = some out → WW M (gQi M G zM out.1 out.2) G zM 9 σ1 6 [(0, .ref (G.2.1 0)), (1, .int a1)] []) (a1 : Int32) (σ1 : gS) (hF : bX10_isSolved_6 σ rec6 a1 σ1 = some out) : WW M (gQi M G zM out.1 out.2) G zM 9 σ1 6 [(0, .ref (G.2.1 0)), (1, .int a1)] [] := by
  unfold bX10_isSolved_6 at hF
  refine ww_iload_n (pc := 6) X (j := 1) dX10_isSolved_6 rfl rfl ?_
  refine ww_aload_n (pc := 7) X (j := 0) dX10_isSolved_7 rfl rfl ?_
  refine ww_get (pc := 8) X (ref := "PictureBlockModel") (T := TX10) (j := 43) dX10_isSolved_8 inX10_isSolved_RX10 shzM_0 clzM_10 (by decide) rfl (List.mem_of_getElem? (i := 1) rfl) rfl ?_
  refine ww_icmp_ge (pc := 11) (tgt := 238) X dX10_isSolved_11 (by decide) hF (fun h4 hF => ?_) (fun h4 hF => ?_)
  · refine ww_iconst (pc := 238) X (v := 1) dX10_isSolved_238 (by decide) ?_
    exact ww_zret (pc := 239) X dX10_isSolved_239 (by cases hF; rfl) (by cases hF; rfl)
  · refine ww_iload_n (pc := 14) X (j := 1) dX10_isSolved_14 rfl rfl ?_
    refine ww_istore_n (pc := 15) X (lv' := [(0, .ref (G.2.1 0)), (1, .int a1)]) dX10_isSolved_15 rfl (by decide) rfl hF (fun x5 ex5 hF => ?_)
    exact ww_sub [1, 2, 0] rfl (lpc_ind (P := (fun (s : Int32) => WW M (gQi M G zM out.1 out.2) G zM 9 σ1 16 [(0, .ref (G.2.1 0)), (1, .int a1), (2, .int s)] [])) (fun rec s ih hF => wbX10_isSolved_16 X σ1 a1 rec6  ih6 (fun a2 => rec (a2)) (fun a2 h => ih (a2) h) s hF) K9 (x5) hF)
set_option maxRecDepth 100000 in
set_option maxHeartbeats 4000000 in
theorem wX10_isSolved {M : gM} {G : gG} {out : Int32 × gS} (X : gX M G zM cX10_isSolved RX10 9 wsX10_isSolved rmX10_isSolved (some .boolean)) (σ : gS) (hF : fX10_isSolved σ = some out) : WW M (gQi M G zM out.1 out.2) G zM 9 σ 0 [(0, .ref (G.2.1 0))] [] := by
  unfold fX10_isSolved at hF
  refine ww_aload_n (pc := 0) X (j := 0) dX10_isSolved_0 rfl rfl ?_
  obtain ⟨σ2, h1, hF⟩ := bd_some hF
  refine ww_callVv (pc := 1) X (As := []) (rest := []) dX10_isSolved_1 (kX10_equations (mL M) G X.2.2.2.2.2.2.1 X.2.2.2.2.2.2.2.1 σ σ2 h1) rfl shzM_0 clzM_10 gX10_isSolved_X10_equations hyX10_equations ⟨rfl, rfl⟩ ⟨Nat.le_of_ble_eq_true rfl, Nat.le_of_ble_eq_true rfl⟩ rfl rfl (Nat.le_of_ble_eq_true rfl) ?_
  refine ww_iconst (pc := 4) X (v := 0) dX10_isSolved_4 (by decide) ?_
  refine ww_istore_n (pc := 5) X (lv' := [(0, .ref (G.2.1 0))]) dX10_isSolved_5 rfl (by decide) rfl hF (fun x3 ex3 hF => ?_)
  exact ww_sub [1, 0] rfl (lpc_ind (P := (fun (s : Int32 × gS) => WW M (gQi M G zM out.1 out.2) G zM 9 s.2 6 [(0, .ref (G.2.1 0)), (1, .int s.1)] [])) (fun rec s ih hF => wbX10_isSolved_6 X σ2 (fun a1 σ1 => rec (a1, σ1)) (fun a1 σ1 h => ih (a1, σ1) h) s.1 s.2 hF) K9 (x3, σ2) hF)
set_option maxRecDepth 100000 in
set_option maxHeartbeats 4000000 in
theorem kX10_isSolved (l : Launch) (G : gG) (hG : gOK G zM.1) (hT : G.2.2.1.map (fun q => q.2) = zM.2.1) (σ : gS) (out : Int32 × gS) (hF : fX10_isSolved σ = some out) : gCi l yX10_isSolved wsX10_isSolved rmX10_isSolved G zM [.ref (G.2.1 0)] σ out.1 out.2 :=
  gEnter (by decide) rfl ⟨rfl, rfl⟩ hG hT (Nat.le_of_ble_eq_true rfl) rfl (fun M X hl => wX10_isSolved X σ hF)
noncomputable def jX10_whole_118 (σ : gS) (a3 : Int32) (z0 : Int32) (z1 : Int32) : Option (Int32 × gS) :=
  nm (z1 + z0 : Int32) fun x16 => bd (fX10_isUsed σ x16) fun r18 => (if r18 = 0 then some ((-1), σ) else bd2 (fX10_isSolved σ) fun r21 σ22 => (if r21 = 0 then some ((-1), σ22) else bd (fX10_numberOf σ22 x16) fun r25 => gd (gb (((40 * r25) + 38) + a3) 1520) <| nm (σ22.2 31 (((40 * r25) + 38) + a3).toNatClampNeg) fun v26 => some (v26.toInt32, σ22)))
noncomputable def jX10_whole_97 (σ : gS) (a1 : Int32) (a2 : Int32) (a3 : Int32) : Option (Int32 × gS) :=
  if a1 = 0 then jX10_whole_118 σ a3 0 a2 else if a1 = 1 then jX10_whole_118 σ a3 12 a2 else jX10_whole_118 σ a3 32 a2
noncomputable def jX10_whole_49 (σ : gS) (a1 : Int32) (a2 : Int32) (a3 : Int32) (z0 : Int32) (z1 : Int32) (z3 : Int64) (z4 : Int64) : Option (Int32 × gS) :=
  gd (gb (z1 + z0) 12) <| nm (σ.1 15 (z1 + z0).toNatClampNeg) fun v9 => bd (fX10_isIn σ z4 z3 ((v9 - 1).toInt64)) fun r11 => (if r11 = 0 then some ((-1), σ) else if a1 = 1 then bd (fX10_isControl σ a2) fun r28 => (if r28 = 0 then jX10_whole_97 σ a1 a2 a3 else gd (gb ((40 + (2 * a2)) + a3) 80) <| nm (σ.1 21 ((40 + (2 * a2)) + a3).toNatClampNeg) fun v30 => bd (fX10_modulo σ ((100 * v30).toInt64)) fun r32 => some (r32.toInt32, σ)) else jX10_whole_97 σ a1 a2 a3)
noncomputable def fX10_whole (σ : gS) (p1 : Int32) (p2 : Int32) (p3 : Int32) : Option (Int32 × gS) :=
  bd (fX10_isIn σ p1.toInt64 0 2) fun r2 => (if r2 = 0 then some ((-1), σ) else bd (fX10_isIn σ p3.toInt64 0 1) fun r5 => (if r5 = 0 then some ((-1), σ) else if p1 = 0 then jX10_whole_49 σ p1 p2 p3 1 6 0 p2.toInt64 else if p1 = 1 then jX10_whole_49 σ p1 p2 p3 2 6 0 p2.toInt64 else jX10_whole_49 σ p1 p2 p3 0 6 0 p2.toInt64))
noncomputable abbrev rmX10_whole : Room := { frames := 5, cells := 0, slots := 0, locals := 122 }
set_option maxRecDepth 100000 in
set_option maxHeartbeats 4000000 in
theorem wjX10_whole_118 {M : gM} {G : gG} {out : Int32 × gS} (X : gX M G zM cX10_whole RX10 5 wsX10_whole rmX10_whole (some .int)) (σ : gS) (a3 : Int32) (z0 : Int32) (z1 : Int32) (hF : jX10_whole_118 σ a3 z0 z1 = some out) : WW M (gQi M G zM out.1 out.2) G zM 5 σ 118 [(0, .ref (G.2.1 0)), (3, .int a3)] [.int z0, .int z1] := by
  unfold jX10_whole_118 at hF
  refine ww_iadd (pc := 118) X dX10_whole_118 ?_
  refine ww_istore (pc := 119) X (lv' := [(0, .ref (G.2.1 0)), (3, .int a3)]) dX10_whole_119 (by decide) rfl hF (fun x16 ex16 hF => ?_)
  refine ww_aload_n (pc := 121) X (j := 1) dX10_whole_121 rfl rfl ?_
  refine ww_iload (pc := 122) X (j := 0) dX10_whole_122 rfl ?_
  obtain ⟨r18, h17, hF⟩ := bd_some hF
  refine ww_callVi (pc := 124) X (As := [.int x16]) (rest := []) dX10_whole_124 (kX10_isUsed (mL M) G X.2.2.2.2.2.2.1 X.2.2.2.2.2.2.2.1 σ x16 r18 h17) rfl shzM_0 clzM_10 gX10_whole_X10_isUsed hyX10_isUsed ⟨rfl, rfl⟩ ⟨Nat.le_of_ble_eq_true rfl, Nat.le_of_ble_eq_true rfl⟩ rfl rfl (Nat.le_of_ble_eq_true rfl) ?_
  refine ww_if_eq (pc := 127) (tgt := 137) X dX10_whole_127 (by decide) hF (fun h19 hF => ?_) (fun h19 hF => ?_)
  · refine ww_iconst (pc := 137) X (v := (-1)) dX10_whole_137 (by decide) ?_
    exact ww_iret (pc := 138) X dX10_whole_138 (fst_of hF) (snd_of hF)
  · refine ww_aload_n (pc := 130) X (j := 1) dX10_whole_130 rfl rfl ?_
    obtain ⟨r21, σ22, h20, hF⟩ := bd2_some hF
    refine ww_callVi (pc := 131) X (As := []) (rest := []) dX10_whole_131 (kX10_isSolved (mL M) G X.2.2.2.2.2.2.1 X.2.2.2.2.2.2.2.1 σ (r21, σ22) h20) rfl shzM_0 clzM_10 gX10_whole_X10_isSolved hyX10_isSolved ⟨rfl, rfl⟩ ⟨Nat.le_of_ble_eq_true rfl, Nat.le_of_ble_eq_true rfl⟩ rfl rfl (Nat.le_of_ble_eq_true rfl) ?_
    refine ww_if_ne (pc := 134) (tgt := 139) X dX10_whole_134 (by decide) hF (fun h23 hF => ?_) (fun h23 hF => ?_)
    · refine ww_aload_n (pc := 139) X (j := 1) dX10_whole_139 rfl rfl ?_
      refine ww_get (pc := 140) X (ref := "PictureBlockModel") (T := TX10) (j := 44) dX10_whole_140 inX10_whole_RX10 shzM_0 clzM_10 (by decide) rfl (List.mem_of_getElem? (i := 4) rfl) rfl ?_
      refine ww_bipush (pc := 143) X (v := 40) dX10_whole_143 (by decide) ?_
      refine ww_aload_n (pc := 145) X (j := 1) dX10_whole_145 rfl rfl ?_
      refine ww_iload (pc := 146) X (j := 0) dX10_whole_146 rfl ?_
      obtain ⟨r25, h24, hF⟩ := bd_some hF
      refine ww_callVi (pc := 148) X (As := [.int x16]) (rest := [.int 40, .ref (G.2.1 31)]) dX10_whole_148 (kX10_numberOf (mL M) G X.2.2.2.2.2.2.1 X.2.2.2.2.2.2.2.1 σ22 x16 r25 h24) rfl shzM_0 clzM_10 gX10_whole_X10_numberOf hyX10_numberOf ⟨rfl, rfl⟩ ⟨Nat.le_of_ble_eq_true rfl, Nat.le_of_ble_eq_true rfl⟩ rfl rfl (Nat.le_of_ble_eq_true rfl) ?_
      refine ww_imul (pc := 151) X dX10_whole_151 ?_
      refine ww_bipush (pc := 152) X (v := 38) dX10_whole_152 (by decide) ?_
      refine ww_iadd (pc := 154) X dX10_whole_154 ?_
      refine ww_iload_n (pc := 155) X (j := 2) dX10_whole_155 rfl rfl ?_
      refine ww_iadd (pc := 156) X dX10_whole_156 ?_
      refine ww_lald (pc := 157) X dX10_whole_157 shzM_31 rfl hF (fun v26 ev26 bv26 hF => ?_)
      refine ww_l2i (pc := 158) X dX10_whole_158 ?_
      exact ww_iret (pc := 159) X dX10_whole_159 (fst_of hF) (snd_of hF)
    · refine ww_iconst (pc := 137) X (v := (-1)) dX10_whole_137 (by decide) ?_
      exact ww_iret (pc := 138) X dX10_whole_138 (fst_of hF) (snd_of hF)
set_option maxRecDepth 100000 in
set_option maxHeartbeats 4000000 in
theorem wjX10_whole_97 {M : gM} {G : gG} {out : Int32 × gS} (X : gX M G zM cX10_whole RX10 5 wsX10_whole rmX10_whole (some .int)) (σ : gS) (a1 : Int32) (a2 : Int32) (a3 : Int32) (hF : jX10_whole_97 σ a1 a2 a3 = some out) : WW M (gQi M G zM out.1 out.2) G zM 5 σ 97 [(0, .ref (G.2.1 0)), (1, .int a1), (2, .int a2), (3, .int a3)] [] := by
  unfold jX10_whole_97 at hF
  refine ww_iload_n (pc := 97) X (j := 2) dX10_whole_97 rfl rfl ?_
  refine ww_iload_n (pc := 98) X (j := 1) dX10_whole_98 rfl rfl ?_
  refine ww_if_ne (pc := 99) (tgt := 106) X dX10_whole_99 (by decide) hF (fun h14 hF => ?_) (fun h14 hF => ?_)
  · refine ww_iload_n (pc := 106) X (j := 1) dX10_whole_106 rfl rfl ?_
    refine ww_iconst (pc := 107) X (v := 1) dX10_whole_107 (by decide) ?_
    refine ww_icmp_ne (pc := 108) (tgt := 116) X dX10_whole_108 (by decide) hF (fun h15 hF => ?_) (fun h15 hF => ?_)
    · refine ww_bipush (pc := 116) X (v := 32) dX10_whole_116 (by decide) ?_
      exact ww_sub [0, 3] rfl (wjX10_whole_118 X σ a3 32 a2 hF)
    · refine ww_bipush (pc := 111) X (v := 12) dX10_whole_111 (by decide) ?_
      refine ww_goto (pc := 113) X (tgt := 118) dX10_whole_113 (by decide) ?_
      exact ww_sub [0, 3] rfl (wjX10_whole_118 X σ a3 12 a2 hF)
  · refine ww_iconst (pc := 102) X (v := 0) dX10_whole_102 (by decide) ?_
    refine ww_goto (pc := 103) X (tgt := 118) dX10_whole_103 (by decide) ?_
    exact ww_sub [0, 3] rfl (wjX10_whole_118 X σ a3 0 a2 hF)
set_option maxRecDepth 100000 in
set_option maxHeartbeats 4000000 in
theorem wjX10_whole_49 {M : gM} {G : gG} {out : Int32 × gS} (X : gX M G zM cX10_whole RX10 5 wsX10_whole rmX10_whole (some .int)) (σ : gS) (a1 : Int32) (a2 : Int32) (a3 : Int32) (z0 : Int32) (z1 : Int32) (z3 : Int64) (z4 : Int64) (hF : jX10_whole_49 σ a1 a2 a3 z0 z1 z3 z4 = some out) : WW M (gQi M G zM out.1 out.2) G zM 5 σ 49 [(0, .ref (G.2.1 0)), (1, .int a1), (2, .int a2), (3, .int a3)] [.int z0, .int z1, .ref (G.2.1 15), .long z3, .long z4] := by
  unfold jX10_whole_49 at hF
  refine ww_iadd (pc := 49) X dX10_whole_49 ?_
  refine ww_iald (pc := 50) X dX10_whole_50 shzM_15 rfl hF (fun v9 ev9 bv9 hF => ?_)
  refine ww_iconst (pc := 51) X (v := 1) dX10_whole_51 (by decide) ?_
  refine ww_isub (pc := 52) X dX10_whole_52 ?_
  refine ww_i2l (pc := 53) X dX10_whole_53 ?_
  obtain ⟨r11, h10, hF⟩ := bd_some hF
  refine ww_callSi (pc := 54) X (As := [.long z4, .long z3, .long ((v9 - 1).toInt64)]) (rest := []) dX10_whole_54 (kX10_isIn (mL M) G X.2.2.2.2.2.2.1 X.2.2.2.2.2.2.2.1 σ z4 z3 ((v9 - 1).toInt64) r11 h10) rfl gX10_whole_X10_isIn hyX10_isIn ⟨rfl, rfl⟩ ⟨Nat.le_of_ble_eq_true rfl, Nat.le_of_ble_eq_true rfl⟩ rfl rfl (Nat.le_of_ble_eq_true rfl) ?_
  refine ww_if_ne (pc := 57) (tgt := 62) X dX10_whole_57 (by decide) hF (fun h12 hF => ?_) (fun h12 hF => ?_)
  · refine ww_iload_n (pc := 62) X (j := 1) dX10_whole_62 rfl rfl ?_
    refine ww_iconst (pc := 63) X (v := 1) dX10_whole_63 (by decide) ?_
    refine ww_icmp_ne (pc := 64) (tgt := 97) X dX10_whole_64 (by decide) hF (fun h13 hF => ?_) (fun h13 hF => ?_)
    · exact ww_sub [0, 1, 2, 3] rfl (wjX10_whole_97 X σ a1 a2 a3 hF)
    · refine ww_aload_n (pc := 67) X (j := 0) dX10_whole_67 rfl rfl ?_
      refine ww_iload_n (pc := 68) X (j := 2) dX10_whole_68 rfl rfl ?_
      obtain ⟨r28, h27, hF⟩ := bd_some hF
      refine ww_callVi (pc := 69) X (As := [.int a2]) (rest := []) dX10_whole_69 (kX10_isControl (mL M) G X.2.2.2.2.2.2.1 X.2.2.2.2.2.2.2.1 σ a2 r28 h27) rfl shzM_0 clzM_10 gX10_whole_X10_isControl hyX10_isControl ⟨rfl, rfl⟩ ⟨Nat.le_of_ble_eq_true rfl, Nat.le_of_ble_eq_true rfl⟩ rfl rfl (Nat.le_of_ble_eq_true rfl) ?_
      refine ww_if_eq (pc := 72) (tgt := 97) X dX10_whole_72 (by decide) hF (fun h29 hF => ?_) (fun h29 hF => ?_)
      · exact ww_sub [0, 1, 2, 3] rfl (wjX10_whole_97 X σ a1 a2 a3 hF)
      · refine ww_bipush (pc := 75) X (v := 100) dX10_whole_75 (by decide) ?_
        refine ww_aload_n (pc := 77) X (j := 0) dX10_whole_77 rfl rfl ?_
        refine ww_get (pc := 78) X (ref := "PictureBlockModel") (T := TX10) (j := 29) dX10_whole_78 inX10_whole_RX10 shzM_0 clzM_10 (by decide) rfl (List.mem_of_getElem? (i := 3) rfl) rfl ?_
        refine ww_bipush (pc := 81) X (v := 40) dX10_whole_81 (by decide) ?_
        refine ww_iconst (pc := 83) X (v := 2) dX10_whole_83 (by decide) ?_
        refine ww_iload_n (pc := 84) X (j := 2) dX10_whole_84 rfl rfl ?_
        refine ww_imul (pc := 85) X dX10_whole_85 ?_
        refine ww_iadd (pc := 86) X dX10_whole_86 ?_
        refine ww_iload_n (pc := 87) X (j := 3) dX10_whole_87 rfl rfl ?_
        refine ww_iadd (pc := 88) X dX10_whole_88 ?_
        refine ww_iald (pc := 89) X dX10_whole_89 shzM_21 rfl hF (fun v30 ev30 bv30 hF => ?_)
        refine ww_imul (pc := 90) X dX10_whole_90 ?_
        refine ww_i2l (pc := 91) X dX10_whole_91 ?_
        obtain ⟨r32, h31, hF⟩ := bd_some hF
        refine ww_callSl (pc := 92) X (As := [.long ((100 * v30).toInt64)]) (rest := []) dX10_whole_92 (kX10_modulo (mL M) G X.2.2.2.2.2.2.1 X.2.2.2.2.2.2.2.1 σ ((100 * v30).toInt64) r32 h31) rfl gX10_whole_X10_modulo hyX10_modulo ⟨rfl, rfl⟩ ⟨Nat.le_of_ble_eq_true rfl, Nat.le_of_ble_eq_true rfl⟩ rfl rfl (Nat.le_of_ble_eq_true rfl) ?_
        refine ww_l2i (pc := 95) X dX10_whole_95 ?_
        exact ww_iret (pc := 96) X dX10_whole_96 (fst_of hF) (snd_of hF)
  · refine ww_iconst (pc := 60) X (v := (-1)) dX10_whole_60 (by decide) ?_
    exact ww_iret (pc := 61) X dX10_whole_61 (fst_of hF) (snd_of hF)
set_option maxRecDepth 100000 in
set_option maxHeartbeats 4000000 in
theorem wX10_whole {M : gM} {G : gG} {out : Int32 × gS} (X : gX M G zM cX10_whole RX10 5 wsX10_whole rmX10_whole (some .int)) (σ : gS) (p1 : Int32) (p2 : Int32) (p3 : Int32) (hF : fX10_whole σ p1 p2 p3 = some out) : WW M (gQi M G zM out.1 out.2) G zM 5 σ 0 [(0, .ref (G.2.1 0)), (1, .int p1), (2, .int p2), (3, .int p3)] [] := by
  unfold fX10_whole at hF
  refine ww_iload_n (pc := 0) X (j := 1) dX10_whole_0 rfl rfl ?_
  refine ww_i2l (pc := 1) X dX10_whole_1 ?_
  refine ww_lconst (pc := 2) X (v := 0) dX10_whole_2 (by decide) ?_
  refine ww_ldc2 (pc := 3) X (v := 2) (List.mem_of_getElem? (i := 1) rfl) dX10_whole_3 ?_
  obtain ⟨r2, h1, hF⟩ := bd_some hF
  refine ww_callSi (pc := 6) X (As := [.long p1.toInt64, .long 0, .long 2]) (rest := []) dX10_whole_6 (kX10_isIn (mL M) G X.2.2.2.2.2.2.1 X.2.2.2.2.2.2.2.1 σ p1.toInt64 0 2 r2 h1) rfl gX10_whole_X10_isIn hyX10_isIn ⟨rfl, rfl⟩ ⟨Nat.le_of_ble_eq_true rfl, Nat.le_of_ble_eq_true rfl⟩ rfl rfl (Nat.le_of_ble_eq_true rfl) ?_
  refine ww_if_eq (pc := 9) (tgt := 60) X dX10_whole_9 (by decide) hF (fun h3 hF => ?_) (fun h3 hF => ?_)
  · refine ww_iconst (pc := 60) X (v := (-1)) dX10_whole_60 (by decide) ?_
    exact ww_iret (pc := 61) X dX10_whole_61 (fst_of hF) (snd_of hF)
  · refine ww_iload_n (pc := 12) X (j := 3) dX10_whole_12 rfl rfl ?_
    refine ww_i2l (pc := 13) X dX10_whole_13 ?_
    refine ww_lconst (pc := 14) X (v := 0) dX10_whole_14 (by decide) ?_
    refine ww_lconst (pc := 15) X (v := 1) dX10_whole_15 (by decide) ?_
    obtain ⟨r5, h4, hF⟩ := bd_some hF
    refine ww_callSi (pc := 16) X (As := [.long p3.toInt64, .long 0, .long 1]) (rest := []) dX10_whole_16 (kX10_isIn (mL M) G X.2.2.2.2.2.2.1 X.2.2.2.2.2.2.2.1 σ p3.toInt64 0 1 r5 h4) rfl gX10_whole_X10_isIn hyX10_isIn ⟨rfl, rfl⟩ ⟨Nat.le_of_ble_eq_true rfl, Nat.le_of_ble_eq_true rfl⟩ rfl rfl (Nat.le_of_ble_eq_true rfl) ?_
    refine ww_if_eq (pc := 19) (tgt := 60) X dX10_whole_19 (by decide) hF (fun h6 hF => ?_) (fun h6 hF => ?_)
    · refine ww_iconst (pc := 60) X (v := (-1)) dX10_whole_60 (by decide) ?_
      exact ww_iret (pc := 61) X dX10_whole_61 (fst_of hF) (snd_of hF)
    · refine ww_iload_n (pc := 22) X (j := 2) dX10_whole_22 rfl rfl ?_
      refine ww_i2l (pc := 23) X dX10_whole_23 ?_
      refine ww_lconst (pc := 24) X (v := 0) dX10_whole_24 (by decide) ?_
      refine ww_aload_n (pc := 25) X (j := 0) dX10_whole_25 rfl rfl ?_
      refine ww_get (pc := 26) X (ref := "PictureBlockModel") (T := TX10) (j := 23) dX10_whole_26 inX10_whole_RX10 shzM_0 clzM_10 (by decide) rfl (List.mem_of_getElem? (i := 2) rfl) rfl ?_
      refine ww_bipush (pc := 29) X (v := 6) dX10_whole_29 (by decide) ?_
      refine ww_iload_n (pc := 31) X (j := 1) dX10_whole_31 rfl rfl ?_
      refine ww_if_ne (pc := 32) (tgt := 39) X dX10_whole_32 (by decide) hF (fun h7 hF => ?_) (fun h7 hF => ?_)
      · refine ww_iload_n (pc := 39) X (j := 1) dX10_whole_39 rfl rfl ?_
        refine ww_iconst (pc := 40) X (v := 1) dX10_whole_40 (by decide) ?_
        refine ww_icmp_ne (pc := 41) (tgt := 48) X dX10_whole_41 (by decide) hF (fun h8 hF => ?_) (fun h8 hF => ?_)
        · refine ww_iconst (pc := 48) X (v := 0) dX10_whole_48 (by decide) ?_
          exact ww_sub [0, 1, 2, 3] rfl (wjX10_whole_49 X σ p1 p2 p3 0 6 0 p2.toInt64 hF)
        · refine ww_iconst (pc := 44) X (v := 2) dX10_whole_44 (by decide) ?_
          refine ww_goto (pc := 45) X (tgt := 49) dX10_whole_45 (by decide) ?_
          exact ww_sub [0, 1, 2, 3] rfl (wjX10_whole_49 X σ p1 p2 p3 2 6 0 p2.toInt64 hF)
      · refine ww_iconst (pc := 35) X (v := 1) dX10_whole_35 (by decide) ?_
        refine ww_goto (pc := 36) X (tgt := 49) dX10_whole_36 (by decide) ?_
        exact ww_sub [0, 1, 2, 3] rfl (wjX10_whole_49 X σ p1 p2 p3 1 6 0 p2.toInt64 hF)
set_option maxRecDepth 100000 in
set_option maxHeartbeats 4000000 in
theorem kX10_whole (l : Launch) (G : gG) (hG : gOK G zM.1) (hT : G.2.2.1.map (fun q => q.2) = zM.2.1) (σ : gS) (p1 : Int32) (p2 : Int32) (p3 : Int32) (out : Int32 × gS) (hF : fX10_whole σ p1 p2 p3 = some out) : gCi l yX10_whole wsX10_whole rmX10_whole G zM [.ref (G.2.1 0), .int p1, .int p2, .int p3] σ out.1 out.2 :=
  gEnter (by decide) rfl ⟨rfl, rfl⟩ hG hT (Nat.le_of_ble_eq_true rfl) rfl (fun M X hl => wX10_whole X σ p1 p2 p3 hF)
noncomputable def fX10_sets (σ : gS) (p1 : Int32) : Option (Int32 × gS) :=
  bd (fX10_isIn σ p1.toInt64 0 3) fun r2 => (if r2 = 0 then some ((-1), σ) else nm (gsI σ 0 36 p1) fun σ4 => bd (fX10_standControls σ4) fun σ6 => bd (fX10_controls σ6) fun r8 => some (r8, σ6))
noncomputable abbrev rmX10_sets : Room := { frames := 2, cells := 0, slots := 0, locals := 44 }
set_option maxRecDepth 100000 in
set_option maxHeartbeats 4000000 in
theorem wX10_sets {M : gM} {G : gG} {out : Int32 × gS} (X : gX M G zM cX10_sets RX10 2 wsX10_sets rmX10_sets (some .int)) (σ : gS) (p1 : Int32) (hF : fX10_sets σ p1 = some out) : WW M (gQi M G zM out.1 out.2) G zM 2 σ 0 [(0, .ref (G.2.1 0)), (1, .int p1)] [] := by
  unfold fX10_sets at hF
  refine ww_iload_n (pc := 0) X (j := 1) dX10_sets_0 rfl rfl ?_
  refine ww_i2l (pc := 1) X dX10_sets_1 ?_
  refine ww_lconst (pc := 2) X (v := 0) dX10_sets_2 (by decide) ?_
  refine ww_ldc2 (pc := 3) X (v := 3) (List.mem_of_getElem? (i := 1) rfl) dX10_sets_3 ?_
  obtain ⟨r2, h1, hF⟩ := bd_some hF
  refine ww_callSi (pc := 6) X (As := [.long p1.toInt64, .long 0, .long 3]) (rest := []) dX10_sets_6 (kX10_isIn (mL M) G X.2.2.2.2.2.2.1 X.2.2.2.2.2.2.2.1 σ p1.toInt64 0 3 r2 h1) rfl gX10_sets_X10_isIn hyX10_isIn ⟨rfl, rfl⟩ ⟨Nat.le_of_ble_eq_true rfl, Nat.le_of_ble_eq_true rfl⟩ rfl rfl (Nat.le_of_ble_eq_true rfl) ?_
  refine ww_if_ne (pc := 9) (tgt := 14) X dX10_sets_9 (by decide) hF (fun h3 hF => ?_) (fun h3 hF => ?_)
  · refine ww_aload_n (pc := 14) X (j := 0) dX10_sets_14 rfl rfl ?_
    refine ww_iload_n (pc := 15) X (j := 1) dX10_sets_15 rfl rfl ?_
    refine ww_putI (pc := 16) X (ref := "PictureBlockModel") (T := TX10) (j := 36) dX10_sets_16 inX10_sets_RX10 tyX10 tyX10_ok nmX10 shzM_0 clzM_10 (by decide) rfl (List.mem_of_getElem? (i := 2) rfl) rfl rfl (by decide +kernel) hF (fun σ4 eσ4 hF => ?_)
    refine ww_aload_n (pc := 19) X (j := 0) dX10_sets_19 rfl rfl ?_
    obtain ⟨σ6, h5, hF⟩ := bd_some hF
    refine ww_callVv (pc := 20) X (As := []) (rest := []) dX10_sets_20 (kX10_standControls (mL M) G X.2.2.2.2.2.2.1 X.2.2.2.2.2.2.2.1 σ4 σ6 h5) rfl shzM_0 clzM_10 gX10_sets_X10_standControls hyX10_standControls ⟨rfl, rfl⟩ ⟨Nat.le_of_ble_eq_true rfl, Nat.le_of_ble_eq_true rfl⟩ rfl rfl (Nat.le_of_ble_eq_true rfl) ?_
    refine ww_aload_n (pc := 23) X (j := 0) dX10_sets_23 rfl rfl ?_
    obtain ⟨r8, h7, hF⟩ := bd_some hF
    refine ww_callVi (pc := 24) X (As := []) (rest := []) dX10_sets_24 (kX10_controls (mL M) G X.2.2.2.2.2.2.1 X.2.2.2.2.2.2.2.1 σ6 r8 h7) rfl shzM_0 clzM_10 gX10_sets_X10_controls hyX10_controls ⟨rfl, rfl⟩ ⟨Nat.le_of_ble_eq_true rfl, Nat.le_of_ble_eq_true rfl⟩ rfl rfl (Nat.le_of_ble_eq_true rfl) ?_
    exact ww_iret (pc := 27) X dX10_sets_27 (fst_of hF) (snd_of hF)
  · refine ww_iconst (pc := 12) X (v := (-1)) dX10_sets_12 (by decide) ?_
    exact ww_iret (pc := 13) X dX10_sets_13 (fst_of hF) (snd_of hF)
set_option maxRecDepth 100000 in
set_option maxHeartbeats 4000000 in
theorem kX10_sets (l : Launch) (G : gG) (hG : gOK G zM.1) (hT : G.2.2.1.map (fun q => q.2) = zM.2.1) (σ : gS) (p1 : Int32) (out : Int32 × gS) (hF : fX10_sets σ p1 = some out) : gCi l yX10_sets wsX10_sets rmX10_sets G zM [.ref (G.2.1 0), .int p1] σ out.1 out.2 :=
  gEnter (by decide) rfl ⟨rfl, rfl⟩ hG hT (Nat.le_of_ble_eq_true rfl) rfl (fun M X hl => wX10_sets X σ p1 hF)
noncomputable def bX10_parts_21 (σ : gS) (c21_1 : Int32) (c21_2 : Int32) (rec8 : Int32 → Int32 → Option (Int32 × gS)) (rec21 : Int32 → Int32 → Option (Int32 × gS)) (a3 : Int32) (a4 : Int32) : Option (Int32 × gS) :=
  if c21_2 ≤ a4 then if a3 = 0 then nm (c21_2 + 1 : Int32) fun x12 => rec8 c21_1 x12 else nm (c21_1 + 1 : Int32) fun x13 => nm (c21_2 + 1 : Int32) fun x14 => rec8 x13 x14 else if a3 = 0 then nm (0 : Int32) fun x16 => nm (a4 + 1 : Int32) fun x17 => rec21 x16 x17 else gd (gb a4 32) <| nm (σ.1 32 a4.toNatClampNeg) fun v18 => gd (gb c21_2 32) <| nm (σ.1 32 c21_2.toNatClampNeg) fun v19 => (if v18 = v19 then nm (0 : Int32) fun x21 => nm (a4 + 1 : Int32) fun x22 => rec21 x21 x22 else nm (1 : Int32) fun x23 => nm (a4 + 1 : Int32) fun x24 => rec21 x23 x24)
noncomputable def bX10_parts_8 (σ : gS) (rec8 : Int32 → Int32 → Option (Int32 × gS)) (a1 : Int32) (a2 : Int32) : Option (Int32 × gS) :=
  bd (fX10_pictures σ) fun r6 => (if r6 ≤ a2 then some (a1, σ) else nm (1 : Int32) fun x8 => nm (0 : Int32) fun x9 => lpc (S := Int32 × Int32) K9 (fun rec s => bX10_parts_21 σ a1 a2 rec8 (fun a3 a4 => rec (a3, a4)) s.1 s.2) (x8, x9))
noncomputable def fX10_parts (σ : gS) : Option (Int32 × gS) :=
  bd (fX10_hangs σ) fun σ2 => nm (0 : Int32) fun x3 => nm (0 : Int32) fun x4 => lpc (S := Int32 × Int32) K9 (fun rec s => bX10_parts_8 σ2 (fun a1 a2 => rec (a1, a2)) s.1 s.2) (x3, x4)
noncomputable abbrev rmX10_parts : Room := { frames := 2, cells := 0, slots := 0, locals := 48 }
set_option maxRecDepth 100000 in
set_option maxHeartbeats 4000000 in
theorem wbX10_parts_21 {M : gM} {G : gG} {out : Int32 × gS} (X : gX M G zM cX10_parts RX10 5 wsX10_parts rmX10_parts (some .int)) (σ : gS) (c21_1 : Int32) (c21_2 : Int32) (rec8 : Int32 → Int32 → Option (Int32 × gS)) (ih8 : ∀ (a1 : Int32) (a2 : Int32), rec8 a1 a2 = some out → WW M (gQi M G zM out.1 out.2) G zM 5 σ 8 [(0, .ref (G.2.1 0)), (1, .int a1), (2, .int a2)] []) (rec21 : Int32 → Int32 → Option (Int32 × gS)) (ih21 : ∀ (a3 : Int32) (a4 : Int32), rec21 a3 a4 = some out → WW M (gQi M G zM out.1 out.2) G zM 5 σ 21 [(0, .ref (G.2.1 0)), (1, .int c21_1), (2, .int c21_2), (3, .int a3), (4, .int a4)] []) (a3 : Int32) (a4 : Int32) (hF : bX10_parts_21 σ c21_1 c21_2 rec8 rec21 a3 a4 = some out) : WW M (gQi M G zM out.1 out.2) G zM 5 σ 21 [(0, .ref (G.2.1 0)), (1, .int c21_1), (2, .int c21_2), (3, .int a3), (4, .int a4)] [] := by
  unfold bX10_parts_21 at hF
  refine ww_iload (pc := 21) X (j := 4) dX10_parts_21 rfl ?_
  refine ww_iload_n (pc := 23) X (j := 2) dX10_parts_23 rfl rfl ?_
  refine ww_icmp_ge (pc := 24) (tgt := 59) X dX10_parts_24 (by decide) hF (fun h10 hF => ?_) (fun h10 hF => ?_)
  · refine ww_iload_n (pc := 59) X (j := 3) dX10_parts_59 rfl rfl ?_
    refine ww_if_eq (pc := 60) (tgt := 66) X dX10_parts_60 (by decide) hF (fun h11 hF => ?_) (fun h11 hF => ?_)
    · refine ww_iinc (pc := 66) X (j := 2) (v := 1) (lv' := [(0, .ref (G.2.1 0)), (1, .int c21_1), (3, .int a3), (4, .int a4)]) dX10_parts_66 rfl rfl (by decide) rfl hF (fun x12 ex12 hF => ?_)
      refine ww_goto (pc := 69) X (tgt := 8) dX10_parts_69 (by decide) ?_
      exact ww_sub [1, 2, 0] rfl (ih8 c21_1 x12 hF)
    · refine ww_iinc (pc := 63) X (j := 1) (v := 1) (lv' := [(0, .ref (G.2.1 0)), (2, .int c21_2), (3, .int a3), (4, .int a4)]) dX10_parts_63 rfl rfl (by decide) rfl hF (fun x13 ex13 hF => ?_)
      refine ww_iinc (pc := 66) X (j := 2) (v := 1) (lv' := [(1, .int x13), (0, .ref (G.2.1 0)), (3, .int a3), (4, .int a4)]) dX10_parts_66 rfl rfl (by decide) rfl hF (fun x14 ex14 hF => ?_)
      refine ww_goto (pc := 69) X (tgt := 8) dX10_parts_69 (by decide) ?_
      exact ww_sub [2, 1, 0] rfl (ih8 x13 x14 hF)
  · refine ww_iload_n (pc := 27) X (j := 3) dX10_parts_27 rfl rfl ?_
    refine ww_if_eq (pc := 28) (tgt := 51) X dX10_parts_28 (by decide) hF (fun h15 hF => ?_) (fun h15 hF => ?_)
    · refine ww_iconst (pc := 51) X (v := 0) dX10_parts_51 (by decide) ?_
      refine ww_istore_n (pc := 52) X (lv' := [(0, .ref (G.2.1 0)), (1, .int c21_1), (2, .int c21_2), (4, .int a4)]) dX10_parts_52 rfl (by decide) rfl hF (fun x16 ex16 hF => ?_)
      refine ww_iinc (pc := 53) X (j := 4) (v := 1) (lv' := [(3, .int x16), (0, .ref (G.2.1 0)), (1, .int c21_1), (2, .int c21_2)]) dX10_parts_53 rfl rfl (by decide) rfl hF (fun x17 ex17 hF => ?_)
      refine ww_goto (pc := 56) X (tgt := 21) dX10_parts_56 (by decide) ?_
      exact ww_sub [2, 3, 4, 1, 0] rfl (ih21 x16 x17 hF)
    · refine ww_aload_n (pc := 31) X (j := 0) dX10_parts_31 rfl rfl ?_
      refine ww_get (pc := 32) X (ref := "PictureBlockModel") (T := TX10) (j := 45) dX10_parts_32 inX10_parts_RX10 shzM_0 clzM_10 (by decide) rfl (List.mem_of_getElem? (i := 1) rfl) rfl ?_
      refine ww_iload (pc := 35) X (j := 4) dX10_parts_35 rfl ?_
      refine ww_iald (pc := 37) X dX10_parts_37 shzM_32 rfl hF (fun v18 ev18 bv18 hF => ?_)
      refine ww_aload_n (pc := 38) X (j := 0) dX10_parts_38 rfl rfl ?_
      refine ww_get (pc := 39) X (ref := "PictureBlockModel") (T := TX10) (j := 45) dX10_parts_39 inX10_parts_RX10 shzM_0 clzM_10 (by decide) rfl (List.mem_of_getElem? (i := 1) rfl) rfl ?_
      refine ww_iload_n (pc := 42) X (j := 2) dX10_parts_42 rfl rfl ?_
      refine ww_iald (pc := 43) X dX10_parts_43 shzM_32 rfl hF (fun v19 ev19 bv19 hF => ?_)
      refine ww_icmp_eq (pc := 44) (tgt := 51) X dX10_parts_44 (by decide) hF (fun h20 hF => ?_) (fun h20 hF => ?_)
      · refine ww_iconst (pc := 51) X (v := 0) dX10_parts_51 (by decide) ?_
        refine ww_istore_n (pc := 52) X (lv' := [(0, .ref (G.2.1 0)), (1, .int c21_1), (2, .int c21_2), (4, .int a4)]) dX10_parts_52 rfl (by decide) rfl hF (fun x21 ex21 hF => ?_)
        refine ww_iinc (pc := 53) X (j := 4) (v := 1) (lv' := [(3, .int x21), (0, .ref (G.2.1 0)), (1, .int c21_1), (2, .int c21_2)]) dX10_parts_53 rfl rfl (by decide) rfl hF (fun x22 ex22 hF => ?_)
        refine ww_goto (pc := 56) X (tgt := 21) dX10_parts_56 (by decide) ?_
        exact ww_sub [2, 3, 4, 1, 0] rfl (ih21 x21 x22 hF)
      · refine ww_iconst (pc := 47) X (v := 1) dX10_parts_47 (by decide) ?_
        refine ww_goto (pc := 48) X (tgt := 52) dX10_parts_48 (by decide) ?_
        refine ww_istore_n (pc := 52) X (lv' := [(0, .ref (G.2.1 0)), (1, .int c21_1), (2, .int c21_2), (4, .int a4)]) dX10_parts_52 rfl (by decide) rfl hF (fun x23 ex23 hF => ?_)
        refine ww_iinc (pc := 53) X (j := 4) (v := 1) (lv' := [(3, .int x23), (0, .ref (G.2.1 0)), (1, .int c21_1), (2, .int c21_2)]) dX10_parts_53 rfl rfl (by decide) rfl hF (fun x24 ex24 hF => ?_)
        refine ww_goto (pc := 56) X (tgt := 21) dX10_parts_56 (by decide) ?_
        exact ww_sub [2, 3, 4, 1, 0] rfl (ih21 x23 x24 hF)
set_option maxRecDepth 100000 in
set_option maxHeartbeats 4000000 in
theorem wbX10_parts_8 {M : gM} {G : gG} {out : Int32 × gS} (X : gX M G zM cX10_parts RX10 5 wsX10_parts rmX10_parts (some .int)) (σ : gS) (rec8 : Int32 → Int32 → Option (Int32 × gS)) (ih8 : ∀ (a1 : Int32) (a2 : Int32), rec8 a1 a2 = some out → WW M (gQi M G zM out.1 out.2) G zM 5 σ 8 [(0, .ref (G.2.1 0)), (1, .int a1), (2, .int a2)] []) (a1 : Int32) (a2 : Int32) (hF : bX10_parts_8 σ rec8 a1 a2 = some out) : WW M (gQi M G zM out.1 out.2) G zM 5 σ 8 [(0, .ref (G.2.1 0)), (1, .int a1), (2, .int a2)] [] := by
  unfold bX10_parts_8 at hF
  refine ww_iload_n (pc := 8) X (j := 2) dX10_parts_8 rfl rfl ?_
  refine ww_aload_n (pc := 9) X (j := 0) dX10_parts_9 rfl rfl ?_
  obtain ⟨r6, h5, hF⟩ := bd_some hF
  refine ww_callVi (pc := 10) X (As := []) (rest := [.int a2]) dX10_parts_10 (kX10_pictures (mL M) G X.2.2.2.2.2.2.1 X.2.2.2.2.2.2.2.1 σ r6 h5) rfl shzM_0 clzM_10 gX10_parts_X10_pictures hyX10_pictures ⟨rfl, rfl⟩ ⟨Nat.le_of_ble_eq_true rfl, Nat.le_of_ble_eq_true rfl⟩ rfl rfl (Nat.le_of_ble_eq_true rfl) ?_
  refine ww_icmp_ge (pc := 13) (tgt := 72) X dX10_parts_13 (by decide) hF (fun h7 hF => ?_) (fun h7 hF => ?_)
  · refine ww_iload_n (pc := 72) X (j := 1) dX10_parts_72 rfl rfl ?_
    exact ww_iret (pc := 73) X dX10_parts_73 (fst_of hF) (snd_of hF)
  · refine ww_iconst (pc := 16) X (v := 1) dX10_parts_16 (by decide) ?_
    refine ww_istore_n (pc := 17) X (lv' := [(0, .ref (G.2.1 0)), (1, .int a1), (2, .int a2)]) dX10_parts_17 rfl (by decide) rfl hF (fun x8 ex8 hF => ?_)
    refine ww_iconst (pc := 18) X (v := 0) dX10_parts_18 (by decide) ?_
    refine ww_istore (pc := 19) X (lv' := [(3, .int x8), (0, .ref (G.2.1 0)), (1, .int a1), (2, .int a2)]) dX10_parts_19 (by decide) rfl hF (fun x9 ex9 hF => ?_)
    exact ww_sub [2, 3, 4, 1, 0] rfl (lpc_ind (P := (fun (s : Int32 × Int32) => WW M (gQi M G zM out.1 out.2) G zM 5 σ 21 [(0, .ref (G.2.1 0)), (1, .int a1), (2, .int a2), (3, .int s.1), (4, .int s.2)] [])) (fun rec s ih hF => wbX10_parts_21 X σ a1 a2 rec8  ih8 (fun a3 a4 => rec (a3, a4)) (fun a3 a4 h => ih (a3, a4) h) s.1 s.2 hF) K9 (x8, x9) hF)
set_option maxRecDepth 100000 in
set_option maxHeartbeats 4000000 in
theorem wX10_parts {M : gM} {G : gG} {out : Int32 × gS} (X : gX M G zM cX10_parts RX10 5 wsX10_parts rmX10_parts (some .int)) (σ : gS) (hF : fX10_parts σ = some out) : WW M (gQi M G zM out.1 out.2) G zM 5 σ 0 [(0, .ref (G.2.1 0))] [] := by
  unfold fX10_parts at hF
  refine ww_aload_n (pc := 0) X (j := 0) dX10_parts_0 rfl rfl ?_
  obtain ⟨σ2, h1, hF⟩ := bd_some hF
  refine ww_callVv (pc := 1) X (As := []) (rest := []) dX10_parts_1 (kX10_hangs (mL M) G X.2.2.2.2.2.2.1 X.2.2.2.2.2.2.2.1 σ σ2 h1) rfl shzM_0 clzM_10 gX10_parts_X10_hangs hyX10_hangs ⟨rfl, rfl⟩ ⟨Nat.le_of_ble_eq_true rfl, Nat.le_of_ble_eq_true rfl⟩ rfl rfl (Nat.le_of_ble_eq_true rfl) ?_
  refine ww_iconst (pc := 4) X (v := 0) dX10_parts_4 (by decide) ?_
  refine ww_istore_n (pc := 5) X (lv' := [(0, .ref (G.2.1 0))]) dX10_parts_5 rfl (by decide) rfl hF (fun x3 ex3 hF => ?_)
  refine ww_iconst (pc := 6) X (v := 0) dX10_parts_6 (by decide) ?_
  refine ww_istore_n (pc := 7) X (lv' := [(1, .int x3), (0, .ref (G.2.1 0))]) dX10_parts_7 rfl (by decide) rfl hF (fun x4 ex4 hF => ?_)
  exact ww_sub [2, 1, 0] rfl (lpc_ind (P := (fun (s : Int32 × Int32) => WW M (gQi M G zM out.1 out.2) G zM 5 σ2 8 [(0, .ref (G.2.1 0)), (1, .int s.1), (2, .int s.2)] [])) (fun rec s ih hF => wbX10_parts_8 X σ2 (fun a1 a2 => rec (a1, a2)) (fun a1 a2 h => ih (a1, a2) h) s.1 s.2 hF) K9 (x3, x4) hF)
set_option maxRecDepth 100000 in
set_option maxHeartbeats 4000000 in
theorem kX10_parts (l : Launch) (G : gG) (hG : gOK G zM.1) (hT : G.2.2.1.map (fun q => q.2) = zM.2.1) (σ : gS) (out : Int32 × gS) (hF : fX10_parts σ = some out) : gCi l yX10_parts wsX10_parts rmX10_parts G zM [.ref (G.2.1 0)] σ out.1 out.2 :=
  gEnter (by decide) rfl ⟨rfl, rfl⟩ hG hT (Nat.le_of_ble_eq_true rfl) rfl (fun M X hl => wX10_parts X σ hF)
noncomputable def fX10_hang (σ : gS) (p1 : Int32) (p2 : Int32) : Option (Int32 × gS) :=
  bd (fX10_isPicture σ p1) fun r2 => (if r2 = 0 then some ((-1), σ) else bd (fX10_isPicture σ p2) fun r5 => (if r5 = 0 then some ((-1), σ) else bd (fX10_hangs σ) fun σ8 => gd (gb p1 32) <| nm (σ8.1 32 p1.toNatClampNeg) fun v9 => gd (gb p2 32) <| nm (σ8.1 32 p2.toNatClampNeg) fun v10 => (if v9 = v10 then some (1, σ8) else some (0, σ8))))
noncomputable abbrev rmX10_hang : Room := { frames := 2, cells := 0, slots := 0, locals := 48 }
set_option maxRecDepth 100000 in
set_option maxHeartbeats 4000000 in
theorem wX10_hang {M : gM} {G : gG} {out : Int32 × gS} (X : gX M G zM cX10_hang RX10 3 wsX10_hang rmX10_hang (some .int)) (σ : gS) (p1 : Int32) (p2 : Int32) (hF : fX10_hang σ p1 p2 = some out) : WW M (gQi M G zM out.1 out.2) G zM 3 σ 0 [(0, .ref (G.2.1 0)), (1, .int p1), (2, .int p2)] [] := by
  unfold fX10_hang at hF
  refine ww_aload_n (pc := 0) X (j := 0) dX10_hang_0 rfl rfl ?_
  refine ww_iload_n (pc := 1) X (j := 1) dX10_hang_1 rfl rfl ?_
  obtain ⟨r2, h1, hF⟩ := bd_some hF
  refine ww_callVi (pc := 2) X (As := [.int p1]) (rest := []) dX10_hang_2 (kX10_isPicture (mL M) G X.2.2.2.2.2.2.1 X.2.2.2.2.2.2.2.1 σ p1 r2 h1) rfl shzM_0 clzM_10 gX10_hang_X10_isPicture hyX10_isPicture ⟨rfl, rfl⟩ ⟨Nat.le_of_ble_eq_true rfl, Nat.le_of_ble_eq_true rfl⟩ rfl rfl (Nat.le_of_ble_eq_true rfl) ?_
  refine ww_if_eq (pc := 5) (tgt := 16) X dX10_hang_5 (by decide) hF (fun h3 hF => ?_) (fun h3 hF => ?_)
  · refine ww_iconst (pc := 16) X (v := (-1)) dX10_hang_16 (by decide) ?_
    exact ww_iret (pc := 17) X dX10_hang_17 (fst_of hF) (snd_of hF)
  · refine ww_aload_n (pc := 8) X (j := 0) dX10_hang_8 rfl rfl ?_
    refine ww_iload_n (pc := 9) X (j := 2) dX10_hang_9 rfl rfl ?_
    obtain ⟨r5, h4, hF⟩ := bd_some hF
    refine ww_callVi (pc := 10) X (As := [.int p2]) (rest := []) dX10_hang_10 (kX10_isPicture (mL M) G X.2.2.2.2.2.2.1 X.2.2.2.2.2.2.2.1 σ p2 r5 h4) rfl shzM_0 clzM_10 gX10_hang_X10_isPicture hyX10_isPicture ⟨rfl, rfl⟩ ⟨Nat.le_of_ble_eq_true rfl, Nat.le_of_ble_eq_true rfl⟩ rfl rfl (Nat.le_of_ble_eq_true rfl) ?_
    refine ww_if_ne (pc := 13) (tgt := 18) X dX10_hang_13 (by decide) hF (fun h6 hF => ?_) (fun h6 hF => ?_)
    · refine ww_aload_n (pc := 18) X (j := 0) dX10_hang_18 rfl rfl ?_
      obtain ⟨σ8, h7, hF⟩ := bd_some hF
      refine ww_callVv (pc := 19) X (As := []) (rest := []) dX10_hang_19 (kX10_hangs (mL M) G X.2.2.2.2.2.2.1 X.2.2.2.2.2.2.2.1 σ σ8 h7) rfl shzM_0 clzM_10 gX10_hang_X10_hangs hyX10_hangs ⟨rfl, rfl⟩ ⟨Nat.le_of_ble_eq_true rfl, Nat.le_of_ble_eq_true rfl⟩ rfl rfl (Nat.le_of_ble_eq_true rfl) ?_
      refine ww_aload_n (pc := 22) X (j := 0) dX10_hang_22 rfl rfl ?_
      refine ww_get (pc := 23) X (ref := "PictureBlockModel") (T := TX10) (j := 45) dX10_hang_23 inX10_hang_RX10 shzM_0 clzM_10 (by decide) rfl (List.mem_of_getElem? (i := 1) rfl) rfl ?_
      refine ww_iload_n (pc := 26) X (j := 1) dX10_hang_26 rfl rfl ?_
      refine ww_iald (pc := 27) X dX10_hang_27 shzM_32 rfl hF (fun v9 ev9 bv9 hF => ?_)
      refine ww_aload_n (pc := 28) X (j := 0) dX10_hang_28 rfl rfl ?_
      refine ww_get (pc := 29) X (ref := "PictureBlockModel") (T := TX10) (j := 45) dX10_hang_29 inX10_hang_RX10 shzM_0 clzM_10 (by decide) rfl (List.mem_of_getElem? (i := 1) rfl) rfl ?_
      refine ww_iload_n (pc := 32) X (j := 2) dX10_hang_32 rfl rfl ?_
      refine ww_iald (pc := 33) X dX10_hang_33 shzM_32 rfl hF (fun v10 ev10 bv10 hF => ?_)
      refine ww_icmp_ne (pc := 34) (tgt := 41) X dX10_hang_34 (by decide) hF (fun h11 hF => ?_) (fun h11 hF => ?_)
      · refine ww_iconst (pc := 41) X (v := 0) dX10_hang_41 (by decide) ?_
        exact ww_iret (pc := 42) X dX10_hang_42 (fst_of hF) (snd_of hF)
      · refine ww_iconst (pc := 37) X (v := 1) dX10_hang_37 (by decide) ?_
        refine ww_goto (pc := 38) X (tgt := 42) dX10_hang_38 (by decide) ?_
        exact ww_iret (pc := 42) X dX10_hang_42 (fst_of hF) (snd_of hF)
    · refine ww_iconst (pc := 16) X (v := (-1)) dX10_hang_16 (by decide) ?_
      exact ww_iret (pc := 17) X dX10_hang_17 (fst_of hF) (snd_of hF)
set_option maxRecDepth 100000 in
set_option maxHeartbeats 4000000 in
theorem kX10_hang (l : Launch) (G : gG) (hG : gOK G zM.1) (hT : G.2.2.1.map (fun q => q.2) = zM.2.1) (σ : gS) (p1 : Int32) (p2 : Int32) (out : Int32 × gS) (hF : fX10_hang σ p1 p2 = some out) : gCi l yX10_hang wsX10_hang rmX10_hang G zM [.ref (G.2.1 0), .int p1, .int p2] σ out.1 out.2 :=
  gEnter (by decide) rfl ⟨rfl, rfl⟩ hG hT (Nat.le_of_ble_eq_true rfl) rfl (fun M X hl => wX10_hang X σ p1 p2 hF)
noncomputable def bX10_blind_4 (σ : gS) (rec4 : Int32 → Int32 → gS → Option (Int32 × gS)) (a1 : Int32) (a2 : Int32) (σ1 : gS) : Option (Int32 × gS) :=
  bd (fX10_rows σ1) fun r4 => (if r4 ≤ a2 then some (a1, σ1) else gd (gb a2 60) <| nm (σ1.1 26 a2.toNatClampNeg) fun v6 => (if v6 = 0 then bd2 (fX10_canShow σ1 a2) fun r10 σ11 => (if r10 = 0 then nm (a1 + 1 : Int32) fun x14 => nm (a2 + 1 : Int32) fun x15 => rec4 x14 x15 σ11 else nm (a2 + 1 : Int32) fun x13 => rec4 a1 x13 σ11) else nm (a2 + 1 : Int32) fun x8 => rec4 a1 x8 σ1))
noncomputable def fX10_blind (σ : gS) : Option (Int32 × gS) :=
  nm (0 : Int32) fun x1 => nm (0 : Int32) fun x2 => lpc (S := Int32 × Int32 × gS) K9 (fun rec s => bX10_blind_4 σ (fun a1 a2 σ1 => rec (a1, a2, σ1)) s.1 s.2.1 s.2.2) (x1, x2, σ)
noncomputable abbrev rmX10_blind : Room := { frames := 3, cells := 0, slots := 0, locals := 71 }
set_option maxRecDepth 100000 in
set_option maxHeartbeats 4000000 in
theorem wbX10_blind_4 {M : gM} {G : gG} {out : Int32 × gS} (X : gX M G zM cX10_blind RX10 3 wsX10_blind rmX10_blind (some .int)) (σ : gS) (rec4 : Int32 → Int32 → gS → Option (Int32 × gS)) (ih4 : ∀ (a1 : Int32) (a2 : Int32) (σ1 : gS), rec4 a1 a2 σ1 = some out → WW M (gQi M G zM out.1 out.2) G zM 3 σ1 4 [(0, .ref (G.2.1 0)), (1, .int a1), (2, .int a2)] []) (a1 : Int32) (a2 : Int32) (σ1 : gS) (hF : bX10_blind_4 σ rec4 a1 a2 σ1 = some out) : WW M (gQi M G zM out.1 out.2) G zM 3 σ1 4 [(0, .ref (G.2.1 0)), (1, .int a1), (2, .int a2)] [] := by
  unfold bX10_blind_4 at hF
  refine ww_iload_n (pc := 4) X (j := 2) dX10_blind_4 rfl rfl ?_
  refine ww_aload_n (pc := 5) X (j := 0) dX10_blind_5 rfl rfl ?_
  obtain ⟨r4, h3, hF⟩ := bd_some hF
  refine ww_callVi (pc := 6) X (As := []) (rest := [.int a2]) dX10_blind_6 (kX10_rows (mL M) G X.2.2.2.2.2.2.1 X.2.2.2.2.2.2.2.1 σ1 r4 h3) rfl shzM_0 clzM_10 gX10_blind_X10_rows hyX10_rows ⟨rfl, rfl⟩ ⟨Nat.le_of_ble_eq_true rfl, Nat.le_of_ble_eq_true rfl⟩ rfl rfl (Nat.le_of_ble_eq_true rfl) ?_
  refine ww_icmp_ge (pc := 9) (tgt := 38) X dX10_blind_9 (by decide) hF (fun h5 hF => ?_) (fun h5 hF => ?_)
  · refine ww_iload_n (pc := 38) X (j := 1) dX10_blind_38 rfl rfl ?_
    exact ww_iret (pc := 39) X dX10_blind_39 (fst_of hF) (snd_of hF)
  · refine ww_aload_n (pc := 12) X (j := 0) dX10_blind_12 rfl rfl ?_
    refine ww_get (pc := 13) X (ref := "PictureBlockModel") (T := TX10) (j := 35) dX10_blind_13 inX10_blind_RX10 shzM_0 clzM_10 (by decide) rfl (List.mem_of_getElem? (i := 1) rfl) rfl ?_
    refine ww_iload_n (pc := 16) X (j := 2) dX10_blind_16 rfl rfl ?_
    refine ww_zald (pc := 17) X dX10_blind_17 shzM_26 rfl hF (fun v6 ev6 bv6 hF => ?_)
    refine ww_if_ne (pc := 18) (tgt := 32) X dX10_blind_18 (by decide) hF (fun h7 hF => ?_) (fun h7 hF => ?_)
    · refine ww_iinc (pc := 32) X (j := 2) (v := 1) (lv' := [(0, .ref (G.2.1 0)), (1, .int a1)]) dX10_blind_32 rfl rfl (by decide) rfl hF (fun x8 ex8 hF => ?_)
      refine ww_goto (pc := 35) X (tgt := 4) dX10_blind_35 (by decide) ?_
      exact ww_sub [1, 2, 0] rfl (ih4 a1 x8 σ1 hF)
    · refine ww_aload_n (pc := 21) X (j := 0) dX10_blind_21 rfl rfl ?_
      refine ww_iload_n (pc := 22) X (j := 2) dX10_blind_22 rfl rfl ?_
      obtain ⟨r10, σ11, h9, hF⟩ := bd2_some hF
      refine ww_callVi (pc := 23) X (As := [.int a2]) (rest := []) dX10_blind_23 (kX10_canShow (mL M) G X.2.2.2.2.2.2.1 X.2.2.2.2.2.2.2.1 σ1 a2 (r10, σ11) h9) rfl shzM_0 clzM_10 gX10_blind_X10_canShow hyX10_canShow ⟨rfl, rfl⟩ ⟨Nat.le_of_ble_eq_true rfl, Nat.le_of_ble_eq_true rfl⟩ rfl rfl (Nat.le_of_ble_eq_true rfl) ?_
      refine ww_if_ne (pc := 26) (tgt := 32) X dX10_blind_26 (by decide) hF (fun h12 hF => ?_) (fun h12 hF => ?_)
      · refine ww_iinc (pc := 32) X (j := 2) (v := 1) (lv' := [(0, .ref (G.2.1 0)), (1, .int a1)]) dX10_blind_32 rfl rfl (by decide) rfl hF (fun x13 ex13 hF => ?_)
        refine ww_goto (pc := 35) X (tgt := 4) dX10_blind_35 (by decide) ?_
        exact ww_sub [1, 2, 0] rfl (ih4 a1 x13 σ11 hF)
      · refine ww_iinc (pc := 29) X (j := 1) (v := 1) (lv' := [(0, .ref (G.2.1 0)), (2, .int a2)]) dX10_blind_29 rfl rfl (by decide) rfl hF (fun x14 ex14 hF => ?_)
        refine ww_iinc (pc := 32) X (j := 2) (v := 1) (lv' := [(1, .int x14), (0, .ref (G.2.1 0))]) dX10_blind_32 rfl rfl (by decide) rfl hF (fun x15 ex15 hF => ?_)
        refine ww_goto (pc := 35) X (tgt := 4) dX10_blind_35 (by decide) ?_
        exact ww_sub [2, 1, 0] rfl (ih4 x14 x15 σ11 hF)
set_option maxRecDepth 100000 in
set_option maxHeartbeats 4000000 in
theorem wX10_blind {M : gM} {G : gG} {out : Int32 × gS} (X : gX M G zM cX10_blind RX10 3 wsX10_blind rmX10_blind (some .int)) (σ : gS) (hF : fX10_blind σ = some out) : WW M (gQi M G zM out.1 out.2) G zM 3 σ 0 [(0, .ref (G.2.1 0))] [] := by
  unfold fX10_blind at hF
  refine ww_iconst (pc := 0) X (v := 0) dX10_blind_0 (by decide) ?_
  refine ww_istore_n (pc := 1) X (lv' := [(0, .ref (G.2.1 0))]) dX10_blind_1 rfl (by decide) rfl hF (fun x1 ex1 hF => ?_)
  refine ww_iconst (pc := 2) X (v := 0) dX10_blind_2 (by decide) ?_
  refine ww_istore_n (pc := 3) X (lv' := [(1, .int x1), (0, .ref (G.2.1 0))]) dX10_blind_3 rfl (by decide) rfl hF (fun x2 ex2 hF => ?_)
  exact ww_sub [2, 1, 0] rfl (lpc_ind (P := (fun (s : Int32 × Int32 × gS) => WW M (gQi M G zM out.1 out.2) G zM 3 s.2.2 4 [(0, .ref (G.2.1 0)), (1, .int s.1), (2, .int s.2.1)] [])) (fun rec s ih hF => wbX10_blind_4 X σ (fun a1 a2 σ1 => rec (a1, a2, σ1)) (fun a1 a2 σ1 h => ih (a1, a2, σ1) h) s.1 s.2.1 s.2.2 hF) K9 (x1, x2, σ) hF)
set_option maxRecDepth 100000 in
set_option maxHeartbeats 4000000 in
theorem kX10_blind (l : Launch) (G : gG) (hG : gOK G zM.1) (hT : G.2.2.1.map (fun q => q.2) = zM.2.1) (σ : gS) (out : Int32 × gS) (hF : fX10_blind σ = some out) : gCi l yX10_blind wsX10_blind rmX10_blind G zM [.ref (G.2.1 0)] σ out.1 out.2 :=
  gEnter (by decide) rfl ⟨rfl, rfl⟩ hG hT (Nat.le_of_ble_eq_true rfl) rfl (fun M X hl => wX10_blind X σ hF)
noncomputable def bX10_looseMany_8 (σ : gS) (rec8 : Int32 → Int32 → Option (Int32 × gS)) (a1 : Int32) (a2 : Int32) : Option (Int32 × gS) :=
  bd (fX10_pictures σ) fun r6 => (if r6 ≤ a2 then some (a1, σ) else bd (fX10_isLoose σ a2) fun r9 => (if r9 = 0 then nm (a2 + 1 : Int32) fun x11 => rec8 a1 x11 else nm (a1 + 1 : Int32) fun x12 => nm (a2 + 1 : Int32) fun x13 => rec8 x12 x13))
noncomputable def fX10_looseMany (σ : gS) : Option (Int32 × gS) :=
  bd (fX10_hangs σ) fun σ2 => nm (0 : Int32) fun x3 => nm (0 : Int32) fun x4 => lpc (S := Int32 × Int32) K9 (fun rec s => bX10_looseMany_8 σ2 (fun a1 a2 => rec (a1, a2)) s.1 s.2) (x3, x4)
noncomputable abbrev rmX10_looseMany : Room := { frames := 2, cells := 0, slots := 0, locals := 48 }
set_option maxRecDepth 100000 in
set_option maxHeartbeats 4000000 in
theorem wbX10_looseMany_8 {M : gM} {G : gG} {out : Int32 × gS} (X : gX M G zM cX10_looseMany RX10 3 wsX10_looseMany rmX10_looseMany (some .int)) (σ : gS) (rec8 : Int32 → Int32 → Option (Int32 × gS)) (ih8 : ∀ (a1 : Int32) (a2 : Int32), rec8 a1 a2 = some out → WW M (gQi M G zM out.1 out.2) G zM 3 σ 8 [(0, .ref (G.2.1 0)), (1, .int a1), (2, .int a2)] []) (a1 : Int32) (a2 : Int32) (hF : bX10_looseMany_8 σ rec8 a1 a2 = some out) : WW M (gQi M G zM out.1 out.2) G zM 3 σ 8 [(0, .ref (G.2.1 0)), (1, .int a1), (2, .int a2)] [] := by
  unfold bX10_looseMany_8 at hF
  refine ww_iload_n (pc := 8) X (j := 2) dX10_looseMany_8 rfl rfl ?_
  refine ww_aload_n (pc := 9) X (j := 0) dX10_looseMany_9 rfl rfl ?_
  obtain ⟨r6, h5, hF⟩ := bd_some hF
  refine ww_callVi (pc := 10) X (As := []) (rest := [.int a2]) dX10_looseMany_10 (kX10_pictures (mL M) G X.2.2.2.2.2.2.1 X.2.2.2.2.2.2.2.1 σ r6 h5) rfl shzM_0 clzM_10 gX10_looseMany_X10_pictures hyX10_pictures ⟨rfl, rfl⟩ ⟨Nat.le_of_ble_eq_true rfl, Nat.le_of_ble_eq_true rfl⟩ rfl rfl (Nat.le_of_ble_eq_true rfl) ?_
  refine ww_icmp_ge (pc := 13) (tgt := 33) X dX10_looseMany_13 (by decide) hF (fun h7 hF => ?_) (fun h7 hF => ?_)
  · refine ww_iload_n (pc := 33) X (j := 1) dX10_looseMany_33 rfl rfl ?_
    exact ww_iret (pc := 34) X dX10_looseMany_34 (fst_of hF) (snd_of hF)
  · refine ww_aload_n (pc := 16) X (j := 0) dX10_looseMany_16 rfl rfl ?_
    refine ww_iload_n (pc := 17) X (j := 2) dX10_looseMany_17 rfl rfl ?_
    obtain ⟨r9, h8, hF⟩ := bd_some hF
    refine ww_callVi (pc := 18) X (As := [.int a2]) (rest := []) dX10_looseMany_18 (kX10_isLoose (mL M) G X.2.2.2.2.2.2.1 X.2.2.2.2.2.2.2.1 σ a2 r9 h8) rfl shzM_0 clzM_10 gX10_looseMany_X10_isLoose hyX10_isLoose ⟨rfl, rfl⟩ ⟨Nat.le_of_ble_eq_true rfl, Nat.le_of_ble_eq_true rfl⟩ rfl rfl (Nat.le_of_ble_eq_true rfl) ?_
    refine ww_if_eq (pc := 21) (tgt := 27) X dX10_looseMany_21 (by decide) hF (fun h10 hF => ?_) (fun h10 hF => ?_)
    · refine ww_iinc (pc := 27) X (j := 2) (v := 1) (lv' := [(0, .ref (G.2.1 0)), (1, .int a1)]) dX10_looseMany_27 rfl rfl (by decide) rfl hF (fun x11 ex11 hF => ?_)
      refine ww_goto (pc := 30) X (tgt := 8) dX10_looseMany_30 (by decide) ?_
      exact ww_sub [1, 2, 0] rfl (ih8 a1 x11 hF)
    · refine ww_iinc (pc := 24) X (j := 1) (v := 1) (lv' := [(0, .ref (G.2.1 0)), (2, .int a2)]) dX10_looseMany_24 rfl rfl (by decide) rfl hF (fun x12 ex12 hF => ?_)
      refine ww_iinc (pc := 27) X (j := 2) (v := 1) (lv' := [(1, .int x12), (0, .ref (G.2.1 0))]) dX10_looseMany_27 rfl rfl (by decide) rfl hF (fun x13 ex13 hF => ?_)
      refine ww_goto (pc := 30) X (tgt := 8) dX10_looseMany_30 (by decide) ?_
      exact ww_sub [2, 1, 0] rfl (ih8 x12 x13 hF)
set_option maxRecDepth 100000 in
set_option maxHeartbeats 4000000 in
theorem wX10_looseMany {M : gM} {G : gG} {out : Int32 × gS} (X : gX M G zM cX10_looseMany RX10 3 wsX10_looseMany rmX10_looseMany (some .int)) (σ : gS) (hF : fX10_looseMany σ = some out) : WW M (gQi M G zM out.1 out.2) G zM 3 σ 0 [(0, .ref (G.2.1 0))] [] := by
  unfold fX10_looseMany at hF
  refine ww_aload_n (pc := 0) X (j := 0) dX10_looseMany_0 rfl rfl ?_
  obtain ⟨σ2, h1, hF⟩ := bd_some hF
  refine ww_callVv (pc := 1) X (As := []) (rest := []) dX10_looseMany_1 (kX10_hangs (mL M) G X.2.2.2.2.2.2.1 X.2.2.2.2.2.2.2.1 σ σ2 h1) rfl shzM_0 clzM_10 gX10_looseMany_X10_hangs hyX10_hangs ⟨rfl, rfl⟩ ⟨Nat.le_of_ble_eq_true rfl, Nat.le_of_ble_eq_true rfl⟩ rfl rfl (Nat.le_of_ble_eq_true rfl) ?_
  refine ww_iconst (pc := 4) X (v := 0) dX10_looseMany_4 (by decide) ?_
  refine ww_istore_n (pc := 5) X (lv' := [(0, .ref (G.2.1 0))]) dX10_looseMany_5 rfl (by decide) rfl hF (fun x3 ex3 hF => ?_)
  refine ww_iconst (pc := 6) X (v := 0) dX10_looseMany_6 (by decide) ?_
  refine ww_istore_n (pc := 7) X (lv' := [(1, .int x3), (0, .ref (G.2.1 0))]) dX10_looseMany_7 rfl (by decide) rfl hF (fun x4 ex4 hF => ?_)
  exact ww_sub [2, 1, 0] rfl (lpc_ind (P := (fun (s : Int32 × Int32) => WW M (gQi M G zM out.1 out.2) G zM 3 σ2 8 [(0, .ref (G.2.1 0)), (1, .int s.1), (2, .int s.2)] [])) (fun rec s ih hF => wbX10_looseMany_8 X σ2 (fun a1 a2 => rec (a1, a2)) (fun a1 a2 h => ih (a1, a2) h) s.1 s.2 hF) K9 (x3, x4) hF)
set_option maxRecDepth 100000 in
set_option maxHeartbeats 4000000 in
theorem kX10_looseMany (l : Launch) (G : gG) (hG : gOK G zM.1) (hT : G.2.2.1.map (fun q => q.2) = zM.2.1) (σ : gS) (out : Int32 × gS) (hF : fX10_looseMany σ = some out) : gCi l yX10_looseMany wsX10_looseMany rmX10_looseMany G zM [.ref (G.2.1 0)] σ out.1 out.2 :=
  gEnter (by decide) rfl ⟨rfl, rfl⟩ hG hT (Nat.le_of_ble_eq_true rfl) rfl (fun M X hl => wX10_looseMany X σ hF)
noncomputable def fX10_needs (σ : gS) (p1 : Int32) : Option (Int32 × gS) :=
  bd (fX10_isRow σ p1) fun r2 => (if r2 = 0 then some ((-1), σ) else gd (gb p1 60) <| nm (σ.1 26 p1.toNatClampNeg) fun v4 => (if v4 = 0 then bd2 (fX10_looseMany σ) fun r7 σ8 => nm (r7 : Int32) fun x9 => gd (gb p1 60) <| nm (gsI σ8 26 p1.toNatClampNeg (vp_nar .boolean 1)) fun σ10 => bd2 (fX10_looseMany σ10) fun r12 σ13 => nm (r12 : Int32) fun x14 => gd (gb p1 60) <| nm (gsI σ13 26 p1.toNatClampNeg (vp_nar .boolean 0)) fun σ15 => some (x14 - x9, σ15) else some ((-1), σ)))
noncomputable abbrev rmX10_needs : Room := { frames := 3, cells := 0, slots := 0, locals := 70 }
set_option maxRecDepth 100000 in
set_option maxHeartbeats 4000000 in
theorem wX10_needs {M : gM} {G : gG} {out : Int32 × gS} (X : gX M G zM cX10_needs RX10 4 wsX10_needs rmX10_needs (some .int)) (σ : gS) (p1 : Int32) (hF : fX10_needs σ p1 = some out) : WW M (gQi M G zM out.1 out.2) G zM 4 σ 0 [(0, .ref (G.2.1 0)), (1, .int p1)] [] := by
  unfold fX10_needs at hF
  refine ww_aload_n (pc := 0) X (j := 0) dX10_needs_0 rfl rfl ?_
  refine ww_iload_n (pc := 1) X (j := 1) dX10_needs_1 rfl rfl ?_
  obtain ⟨r2, h1, hF⟩ := bd_some hF
  refine ww_callVi (pc := 2) X (As := [.int p1]) (rest := []) dX10_needs_2 (kX10_isRow (mL M) G X.2.2.2.2.2.2.1 X.2.2.2.2.2.2.2.1 σ p1 r2 h1) rfl shzM_0 clzM_10 gX10_needs_X10_isRow hyX10_isRow ⟨rfl, rfl⟩ ⟨Nat.le_of_ble_eq_true rfl, Nat.le_of_ble_eq_true rfl⟩ rfl rfl (Nat.le_of_ble_eq_true rfl) ?_
  refine ww_if_eq (pc := 5) (tgt := 17) X dX10_needs_5 (by decide) hF (fun h3 hF => ?_) (fun h3 hF => ?_)
  · refine ww_iconst (pc := 17) X (v := (-1)) dX10_needs_17 (by decide) ?_
    exact ww_iret (pc := 18) X dX10_needs_18 (fst_of hF) (snd_of hF)
  · refine ww_aload_n (pc := 8) X (j := 0) dX10_needs_8 rfl rfl ?_
    refine ww_get (pc := 9) X (ref := "PictureBlockModel") (T := TX10) (j := 35) dX10_needs_9 inX10_needs_RX10 shzM_0 clzM_10 (by decide) rfl (List.mem_of_getElem? (i := 1) rfl) rfl ?_
    refine ww_iload_n (pc := 12) X (j := 1) dX10_needs_12 rfl rfl ?_
    refine ww_zald (pc := 13) X dX10_needs_13 shzM_26 rfl hF (fun v4 ev4 bv4 hF => ?_)
    refine ww_if_eq (pc := 14) (tgt := 19) X dX10_needs_14 (by decide) hF (fun h5 hF => ?_) (fun h5 hF => ?_)
    · refine ww_aload_n (pc := 19) X (j := 0) dX10_needs_19 rfl rfl ?_
      obtain ⟨r7, σ8, h6, hF⟩ := bd2_some hF
      refine ww_callVi (pc := 20) X (As := []) (rest := []) dX10_needs_20 (kX10_looseMany (mL M) G X.2.2.2.2.2.2.1 X.2.2.2.2.2.2.2.1 σ (r7, σ8) h6) rfl shzM_0 clzM_10 gX10_needs_X10_looseMany hyX10_looseMany ⟨rfl, rfl⟩ ⟨Nat.le_of_ble_eq_true rfl, Nat.le_of_ble_eq_true rfl⟩ rfl rfl (Nat.le_of_ble_eq_true rfl) ?_
      refine ww_istore_n (pc := 23) X (lv' := [(0, .ref (G.2.1 0)), (1, .int p1)]) dX10_needs_23 rfl (by decide) rfl hF (fun x9 ex9 hF => ?_)
      refine ww_aload_n (pc := 24) X (j := 1) dX10_needs_24 rfl rfl ?_
      refine ww_get (pc := 25) X (ref := "PictureBlockModel") (T := TX10) (j := 35) dX10_needs_25 inX10_needs_RX10 shzM_0 clzM_10 (by decide) rfl (List.mem_of_getElem? (i := 1) rfl) rfl ?_
      refine ww_iload_n (pc := 28) X (j := 2) dX10_needs_28 rfl rfl ?_
      refine ww_iconst (pc := 29) X (v := 1) dX10_needs_29 (by decide) ?_
      refine ww_zast (pc := 30) X dX10_needs_30 shzM_26 rfl hF (fun σ10 eσ10 bσ10 hF => ?_)
      refine ww_aload_n (pc := 31) X (j := 1) dX10_needs_31 rfl rfl ?_
      obtain ⟨r12, σ13, h11, hF⟩ := bd2_some hF
      refine ww_callVi (pc := 32) X (As := []) (rest := []) dX10_needs_32 (kX10_looseMany (mL M) G X.2.2.2.2.2.2.1 X.2.2.2.2.2.2.2.1 σ10 (r12, σ13) h11) rfl shzM_0 clzM_10 gX10_needs_X10_looseMany hyX10_looseMany ⟨rfl, rfl⟩ ⟨Nat.le_of_ble_eq_true rfl, Nat.le_of_ble_eq_true rfl⟩ rfl rfl (Nat.le_of_ble_eq_true rfl) ?_
      refine ww_istore_n (pc := 35) X (lv' := [(2, .int x9), (0, .ref (G.2.1 0)), (1, .int p1)]) dX10_needs_35 rfl (by decide) rfl hF (fun x14 ex14 hF => ?_)
      refine ww_aload_n (pc := 36) X (j := 2) dX10_needs_36 rfl rfl ?_
      refine ww_get (pc := 37) X (ref := "PictureBlockModel") (T := TX10) (j := 35) dX10_needs_37 inX10_needs_RX10 shzM_0 clzM_10 (by decide) rfl (List.mem_of_getElem? (i := 1) rfl) rfl ?_
      refine ww_iload_n (pc := 40) X (j := 3) dX10_needs_40 rfl rfl ?_
      refine ww_iconst (pc := 41) X (v := 0) dX10_needs_41 (by decide) ?_
      refine ww_zast (pc := 42) X dX10_needs_42 shzM_26 rfl hF (fun σ15 eσ15 bσ15 hF => ?_)
      refine ww_iload_n (pc := 43) X (j := 0) dX10_needs_43 rfl rfl ?_
      refine ww_iload_n (pc := 44) X (j := 1) dX10_needs_44 rfl rfl ?_
      refine ww_isub (pc := 45) X dX10_needs_45 ?_
      exact ww_iret (pc := 46) X dX10_needs_46 (fst_of hF) (snd_of hF)
    · refine ww_iconst (pc := 17) X (v := (-1)) dX10_needs_17 (by decide) ?_
      exact ww_iret (pc := 18) X dX10_needs_18 (fst_of hF) (snd_of hF)
set_option maxRecDepth 100000 in
set_option maxHeartbeats 4000000 in
theorem kX10_needs (l : Launch) (G : gG) (hG : gOK G zM.1) (hT : G.2.2.1.map (fun q => q.2) = zM.2.1) (σ : gS) (p1 : Int32) (out : Int32 × gS) (hF : fX10_needs σ p1 = some out) : gCi l yX10_needs wsX10_needs rmX10_needs G zM [.ref (G.2.1 0), .int p1] σ out.1 out.2 :=
  gEnter (by decide) rfl ⟨rfl, rfl⟩ hG hT (Nat.le_of_ble_eq_true rfl) rfl (fun M X hl => wX10_needs X σ p1 hF)
noncomputable def fX10_doubt (σ : gS) (p1 : Int32) : Option (Int64) :=
  bd (fX10_isRow σ p1) fun r2 => (if r2 = 0 then some ((-1)) else bd (fX10_doubtOf σ p1) fun r5 => some r5)
noncomputable abbrev rmX10_doubt : Room := { frames := 5, cells := 0, slots := 0, locals := 117 }
set_option maxRecDepth 100000 in
set_option maxHeartbeats 4000000 in
theorem wX10_doubt {M : gM} {G : gG} {out : Int64} (X : gX M G zM cX10_doubt RX10 2 wsX10_doubt rmX10_doubt (some .long)) (σ : gS) (p1 : Int32) (hF : fX10_doubt σ p1 = some out) : WW M (gQl M G zM out σ) G zM 2 σ 0 [(0, .ref (G.2.1 0)), (1, .int p1)] [] := by
  unfold fX10_doubt at hF
  refine ww_aload_n (pc := 0) X (j := 0) dX10_doubt_0 rfl rfl ?_
  refine ww_iload_n (pc := 1) X (j := 1) dX10_doubt_1 rfl rfl ?_
  obtain ⟨r2, h1, hF⟩ := bd_some hF
  refine ww_callVi (pc := 2) X (As := [.int p1]) (rest := []) dX10_doubt_2 (kX10_isRow (mL M) G X.2.2.2.2.2.2.1 X.2.2.2.2.2.2.2.1 σ p1 r2 h1) rfl shzM_0 clzM_10 gX10_doubt_X10_isRow hyX10_isRow ⟨rfl, rfl⟩ ⟨Nat.le_of_ble_eq_true rfl, Nat.le_of_ble_eq_true rfl⟩ rfl rfl (Nat.le_of_ble_eq_true rfl) ?_
  refine ww_if_eq (pc := 5) (tgt := 16) X dX10_doubt_5 (by decide) hF (fun h3 hF => ?_) (fun h3 hF => ?_)
  · refine ww_ldc2 (pc := 16) X (v := (-1)) (List.mem_of_getElem? (i := 1) rfl) dX10_doubt_16 ?_
    exact ww_lret (pc := 19) X dX10_doubt_19 (Option.some.inj hF) rfl
  · refine ww_aload_n (pc := 8) X (j := 0) dX10_doubt_8 rfl rfl ?_
    refine ww_iload_n (pc := 9) X (j := 1) dX10_doubt_9 rfl rfl ?_
    obtain ⟨r5, h4, hF⟩ := bd_some hF
    refine ww_callVl (pc := 10) X (As := [.int p1]) (rest := []) dX10_doubt_10 (kX10_doubtOf (mL M) G X.2.2.2.2.2.2.1 X.2.2.2.2.2.2.2.1 σ p1 r5 h4) rfl shzM_0 clzM_10 gX10_doubt_X10_doubtOf hyX10_doubtOf ⟨rfl, rfl⟩ ⟨Nat.le_of_ble_eq_true rfl, Nat.le_of_ble_eq_true rfl⟩ rfl rfl (Nat.le_of_ble_eq_true rfl) ?_
    refine ww_goto (pc := 13) X (tgt := 19) dX10_doubt_13 (by decide) ?_
    exact ww_lret (pc := 19) X dX10_doubt_19 (Option.some.inj hF) rfl
set_option maxRecDepth 100000 in
set_option maxHeartbeats 4000000 in
theorem kX10_doubt (l : Launch) (G : gG) (hG : gOK G zM.1) (hT : G.2.2.1.map (fun q => q.2) = zM.2.1) (σ : gS) (p1 : Int32) (out : Int64) (hF : fX10_doubt σ p1 = some out) : gCl l yX10_doubt wsX10_doubt rmX10_doubt G zM [.ref (G.2.1 0), .int p1] σ out σ :=
  gEnter (by decide) rfl ⟨rfl, rfl⟩ hG hT (Nat.le_of_ble_eq_true rfl) rfl (fun M X hl => wX10_doubt X σ p1 hF)
