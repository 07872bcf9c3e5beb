noncomputable def jX10_feed_71 (σ : gS) (c18_1 : Int32) (c18_2 : Int32) (c18_3 : Int32) (c18_4 : Int32) (c18_5 : Int32) (rec18 : Int32 → gS → Option (Int32 × gS)) (a6 : Int32) (z0 : Int32) : Option (Int32 × gS) :=
  nm (z0 : Int32) fun x8 => gd (gb (σ.1 0 1) 1600) <| nm (gsI σ 1 (σ.1 0 1).toNatClampNeg ((x8 >>> ((8 * (3 - (irm a6 4))) &&& 31)) &&& 255)) fun σ9 => nm (gsI σ9 0 1 ((σ9.1 0 1) + 1)) fun σ10 => nm (a6 + 1 : Int32) fun x11 => rec18 x11 σ10
noncomputable def bX10_feed_18 (σ : gS) (c18_1 : Int32) (c18_2 : Int32) (c18_3 : Int32) (c18_4 : Int32) (c18_5 : Int32) (rec18 : Int32 → gS → Option (Int32 × gS)) (a6 : Int32) (σ1 : gS) : Option (Int32 × gS) :=
  if 20 ≤ a6 then some (σ1.1 0 1, σ1) else if 4 ≤ a6 then if 8 ≤ a6 then if 12 ≤ a6 then if 16 ≤ a6 then jX10_feed_71 σ1 c18_1 c18_2 c18_3 c18_4 c18_5 rec18 a6 c18_5 else jX10_feed_71 σ1 c18_1 c18_2 c18_3 c18_4 c18_5 rec18 a6 c18_4 else jX10_feed_71 σ1 c18_1 c18_2 c18_3 c18_4 c18_5 rec18 a6 c18_3 else jX10_feed_71 σ1 c18_1 c18_2 c18_3 c18_4 c18_5 rec18 a6 c18_2 else jX10_feed_71 σ1 c18_1 c18_2 c18_3 c18_4 c18_5 rec18 a6 c18_1
noncomputable def fX10_feed (σ : gS) (p1 : Int32) (p2 : Int32) (p3 : Int32) (p4 : Int32) (p5 : Int32) : Option (Int32 × gS) :=
  if ((σ.1 0 1) + 20) ≤ 1600 then nm (0 : Int32) fun x2 => lpc (S := Int32 × gS) K9 (fun rec s => bX10_feed_18 σ p1 p2 p3 p4 p5 (fun a6 σ1 => rec (a6, σ1)) s.1 s.2) (x2, σ) else some ((-1), σ)
noncomputable abbrev rmX10_feed : Room := { frames := 0, cells := 0, slots := 0, locals := 0 }
set_option maxRecDepth 100000 in
set_option maxHeartbeats 4000000 in
theorem wjX10_feed_71 {M : gM} {G : gG} {out : Int32 × gS} (X : gX M G zM cX10_feed RX10 8 wsX10_feed rmX10_feed (some .int)) (σ : gS) (c18_1 : Int32) (c18_2 : Int32) (c18_3 : Int32) (c18_4 : Int32) (c18_5 : Int32) (rec18 : Int32 → gS → Option (Int32 × gS)) (ih18 : ∀ (a6 : Int32) (σ1 : gS), rec18 a6 σ1 = some out → WW M (gQi M G zM out.1 out.2) G zM 8 σ1 18 [(0, .ref (G.2.1 0)), (1, .int c18_1), (2, .int c18_2), (3, .int c18_3), (4, .int c18_4), (5, .int c18_5), (6, .int a6)] []) (a6 : Int32) (z0 : Int32) (hF : jX10_feed_71 σ c18_1 c18_2 c18_3 c18_4 c18_5 rec18 a6 z0 = some out) : WW M (gQi M G zM out.1 out.2) G zM 8 σ 71 [(0, .ref (G.2.1 0)), (1, .int c18_1), (2, .int c18_2), (3, .int c18_3), (4, .int c18_4), (5, .int c18_5), (6, .int a6)] [.int z0] := by
  unfold jX10_feed_71 at hF
  refine ww_istore (pc := 71) X (lv' := [(0, .ref (G.2.1 0)), (1, .int c18_1), (2, .int c18_2), (3, .int c18_3), (4, .int c18_4), (5, .int c18_5), (6, .int a6)]) dX10_feed_71 (by decide) rfl hF (fun x8 ex8 hF => ?_)
  refine ww_aload_n (pc := 73) X (j := 1) dX10_feed_73 rfl rfl ?_
  refine ww_get (pc := 74) X (ref := "PictureBlockModel") (T := TX10) (j := 0) dX10_feed_74 inX10_feed_RX10 shzM_0 clzM_10 (by decide) rfl (List.mem_of_getElem? (i := 2) rfl) rfl ?_
  refine ww_aload_n (pc := 77) X (j := 1) dX10_feed_77 rfl rfl ?_
  refine ww_get (pc := 78) X (ref := "PictureBlockModel") (T := TX10) (j := 1) dX10_feed_78 inX10_feed_RX10 shzM_0 clzM_10 (by decide) rfl (List.mem_of_getElem? (i := 1) rfl) rfl ?_
  refine ww_iload (pc := 81) X (j := 0) dX10_feed_81 rfl ?_
  refine ww_bipush (pc := 83) X (v := 8) dX10_feed_83 (by decide) ?_
  refine ww_iconst (pc := 85) X (v := 3) dX10_feed_85 (by decide) ?_
  refine ww_iload (pc := 86) X (j := 7) dX10_feed_86 rfl ?_
  refine ww_iconst (pc := 88) X (v := 4) dX10_feed_88 (by decide) ?_
  refine ww_irem (pc := 89) X dX10_feed_89 (by decide) ?_
  refine ww_isub (pc := 90) X dX10_feed_90 ?_
  refine ww_imul (pc := 91) X dX10_feed_91 ?_
  refine ww_ishr (pc := 92) X dX10_feed_92 ?_
  refine ww_sipush (pc := 93) X (v := 255) dX10_feed_93 (by decide) ?_
  refine ww_iand (pc := 96) X dX10_feed_96 ?_
  refine ww_iast (pc := 97) X dX10_feed_97 shzM_1 rfl hF (fun σ9 eσ9 bσ9 hF => ?_)
  refine ww_aload_n (pc := 98) X (j := 1) dX10_feed_98 rfl rfl ?_
  refine ww_dup (pc := 99) X dX10_feed_99 rfl ?_
  refine ww_get (pc := 100) X (ref := "PictureBlockModel") (T := TX10) (j := 1) dX10_feed_100 inX10_feed_RX10 shzM_0 clzM_10 (by decide) rfl (List.mem_of_getElem? (i := 1) rfl) rfl ?_
  refine ww_iconst (pc := 103) X (v := 1) dX10_feed_103 (by decide) ?_
  refine ww_iadd (pc := 104) X dX10_feed_104 ?_
  refine ww_putI (pc := 105) X (ref := "PictureBlockModel") (T := TX10) (j := 1) dX10_feed_105 inX10_feed_RX10 tyX10 tyX10_ok nmX10 shzM_0 clzM_10 (by decide) rfl (List.mem_of_getElem? (i := 1) rfl) rfl rfl (by decide +kernel) hF (fun σ10 eσ10 hF => ?_)
  refine ww_iinc (pc := 108) X (j := 7) (v := 1) (lv' := [(7, .int x8), (0, .ref (G.2.1 0)), (1, .int c18_1), (2, .int c18_2), (3, .int c18_3), (4, .int c18_4), (5, .int c18_5)]) dX10_feed_108 rfl rfl (by decide) rfl hF (fun x11 ex11 hF => ?_)
  refine ww_goto (pc := 111) X (tgt := 18) dX10_feed_111 (by decide) ?_
  exact ww_sub [2, 3, 4, 5, 6, 7, 0] rfl (ih18 x11 σ10 hF)
set_option maxRecDepth 100000 in
set_option maxHeartbeats 4000000 in
theorem wbX10_feed_18 {M : gM} {G : gG} {out : Int32 × gS} (X : gX M G zM cX10_feed RX10 8 wsX10_feed rmX10_feed (some .int)) (σ : gS) (c18_1 : Int32) (c18_2 : Int32) (c18_3 : Int32) (c18_4 : Int32) (c18_5 : Int32) (rec18 : Int32 → gS → Option (Int32 × gS)) (ih18 : ∀ (a6 : Int32) (σ1 : gS), rec18 a6 σ1 = some out → WW M (gQi M G zM out.1 out.2) G zM 8 σ1 18 [(0, .ref (G.2.1 0)), (1, .int c18_1), (2, .int c18_2), (3, .int c18_3), (4, .int c18_4), (5, .int c18_5), (6, .int a6)] []) (a6 : Int32) (σ1 : gS) (hF : bX10_feed_18 σ c18_1 c18_2 c18_3 c18_4 c18_5 rec18 a6 σ1 = some out) : WW M (gQi M G zM out.1 out.2) G zM 8 σ1 18 [(0, .ref (G.2.1 0)), (1, .int c18_1), (2, .int c18_2), (3, .int c18_3), (4, .int c18_4), (5, .int c18_5), (6, .int a6)] [] := by
  unfold bX10_feed_18 at hF
  refine ww_iload (pc := 18) X (j := 6) dX10_feed_18 rfl ?_
  refine ww_bipush (pc := 20) X (v := 20) dX10_feed_20 (by decide) ?_
  refine ww_icmp_ge (pc := 22) (tgt := 114) X dX10_feed_22 (by decide) hF (fun h3 hF => ?_) (fun h3 hF => ?_)
  · refine ww_aload_n (pc := 114) X (j := 0) dX10_feed_114 rfl rfl ?_
    refine ww_get (pc := 115) X (ref := "PictureBlockModel") (T := TX10) (j := 1) dX10_feed_115 inX10_feed_RX10 shzM_0 clzM_10 (by decide) rfl (List.mem_of_getElem? (i := 1) rfl) rfl ?_
    exact ww_iret (pc := 118) X dX10_feed_118 (fst_of hF) (snd_of hF)
  · refine ww_iload (pc := 25) X (j := 6) dX10_feed_25 rfl ?_
    refine ww_iconst (pc := 27) X (v := 4) dX10_feed_27 (by decide) ?_
    refine ww_icmp_ge (pc := 28) (tgt := 35) X dX10_feed_28 (by decide) hF (fun h4 hF => ?_) (fun h4 hF => ?_)
    · refine ww_iload (pc := 35) X (j := 6) dX10_feed_35 rfl ?_
      refine ww_bipush (pc := 37) X (v := 8) dX10_feed_37 (by decide) ?_
      refine ww_icmp_ge (pc := 39) (tgt := 46) X dX10_feed_39 (by decide) hF (fun h5 hF => ?_) (fun h5 hF => ?_)
      · refine ww_iload (pc := 46) X (j := 6) dX10_feed_46 rfl ?_
        refine ww_bipush (pc := 48) X (v := 12) dX10_feed_48 (by decide) ?_
        refine ww_icmp_ge (pc := 50) (tgt := 57) X dX10_feed_50 (by decide) hF (fun h6 hF => ?_) (fun h6 hF => ?_)
        · refine ww_iload (pc := 57) X (j := 6) dX10_feed_57 rfl ?_
          refine ww_bipush (pc := 59) X (v := 16) dX10_feed_59 (by decide) ?_
          refine ww_icmp_ge (pc := 61) (tgt := 69) X dX10_feed_61 (by decide) hF (fun h7 hF => ?_) (fun h7 hF => ?_)
          · refine ww_iload (pc := 69) X (j := 5) dX10_feed_69 rfl ?_
            exact ww_sub [0, 1, 2, 3, 4, 5, 6] rfl (wjX10_feed_71 X σ1 c18_1 c18_2 c18_3 c18_4 c18_5 rec18 ih18 a6 c18_5 hF)
          · refine ww_iload (pc := 64) X (j := 4) dX10_feed_64 rfl ?_
            refine ww_goto (pc := 66) X (tgt := 71) dX10_feed_66 (by decide) ?_
            exact ww_sub [0, 1, 2, 3, 4, 5, 6] rfl (wjX10_feed_71 X σ1 c18_1 c18_2 c18_3 c18_4 c18_5 rec18 ih18 a6 c18_4 hF)
        · refine ww_iload_n (pc := 53) X (j := 3) dX10_feed_53 rfl rfl ?_
          refine ww_goto (pc := 54) X (tgt := 71) dX10_feed_54 (by decide) ?_
          exact ww_sub [0, 1, 2, 3, 4, 5, 6] rfl (wjX10_feed_71 X σ1 c18_1 c18_2 c18_3 c18_4 c18_5 rec18 ih18 a6 c18_3 hF)
      · refine ww_iload_n (pc := 42) X (j := 2) dX10_feed_42 rfl rfl ?_
        refine ww_goto (pc := 43) X (tgt := 71) dX10_feed_43 (by decide) ?_
        exact ww_sub [0, 1, 2, 3, 4, 5, 6] rfl (wjX10_feed_71 X σ1 c18_1 c18_2 c18_3 c18_4 c18_5 rec18 ih18 a6 c18_2 hF)
    · refine ww_iload_n (pc := 31) X (j := 1) dX10_feed_31 rfl rfl ?_
      refine ww_goto (pc := 32) X (tgt := 71) dX10_feed_32 (by decide) ?_
      exact ww_sub [0, 1, 2, 3, 4, 5, 6] rfl (wjX10_feed_71 X σ1 c18_1 c18_2 c18_3 c18_4 c18_5 rec18 ih18 a6 c18_1 hF)
set_option maxRecDepth 100000 in
set_option maxHeartbeats 4000000 in
theorem wX10_feed {M : gM} {G : gG} {out : Int32 × gS} (X : gX M G zM cX10_feed RX10 8 wsX10_feed rmX10_feed (some .int)) (σ : gS) (p1 : Int32) (p2 : Int32) (p3 : Int32) (p4 : Int32) (p5 : Int32) (hF : fX10_feed σ p1 p2 p3 p4 p5 = some out) : WW M (gQi M G zM out.1 out.2) G zM 8 σ 0 [(0, .ref (G.2.1 0)), (1, .int p1), (2, .int p2), (3, .int p3), (4, .int p4), (5, .int p5)] [] := by
  unfold fX10_feed at hF
  refine ww_aload_n (pc := 0) X (j := 0) dX10_feed_0 rfl rfl ?_
  refine ww_get (pc := 1) X (ref := "PictureBlockModel") (T := TX10) (j := 1) dX10_feed_1 inX10_feed_RX10 shzM_0 clzM_10 (by decide) rfl (List.mem_of_getElem? (i := 1) rfl) rfl ?_
  refine ww_bipush (pc := 4) X (v := 20) dX10_feed_4 (by decide) ?_
  refine ww_iadd (pc := 6) X dX10_feed_6 ?_
  refine ww_sipush (pc := 7) X (v := 1600) dX10_feed_7 (by decide) ?_
  refine ww_icmp_le (pc := 10) (tgt := 15) X dX10_feed_10 (by decide) hF (fun h1 hF => ?_) (fun h1 hF => ?_)
  · refine ww_iconst (pc := 15) X (v := 0) dX10_feed_15 (by decide) ?_
    refine ww_istore (pc := 16) X (lv' := [(0, .ref (G.2.1 0)), (1, .int p1), (2, .int p2), (3, .int p3), (4, .int p4), (5, .int p5)]) dX10_feed_16 (by decide) rfl hF (fun x2 ex2 hF => ?_)
    exact ww_sub [1, 2, 3, 4, 5, 6, 0] rfl (lpc_ind (P := (fun (s : Int32 × gS) => WW M (gQi M G zM out.1 out.2) G zM 8 s.2 18 [(0, .ref (G.2.1 0)), (1, .int p1), (2, .int p2), (3, .int p3), (4, .int p4), (5, .int p5), (6, .int s.1)] [])) (fun rec s ih hF => wbX10_feed_18 X σ p1 p2 p3 p4 p5 (fun a6 σ1 => rec (a6, σ1)) (fun a6 σ1 h => ih (a6, σ1) h) s.1 s.2 hF) K9 (x2, σ) hF)
  · refine ww_iconst (pc := 13) X (v := (-1)) dX10_feed_13 (by decide) ?_
    exact ww_iret (pc := 14) X dX10_feed_14 (fst_of hF) (snd_of hF)
set_option maxRecDepth 100000 in
set_option maxHeartbeats 4000000 in
theorem kX10_feed (l : Launch) (G : gG) (hG : gOK G zM.1) (hT : G.2.2.1.map (fun q => q.2) = zM.2.1) (σ : gS) (p1 : Int32) (p2 : Int32) (p3 : Int32) (p4 : Int32) (p5 : Int32) (out : Int32 × gS) (hF : fX10_feed σ p1 p2 p3 p4 p5 = some out) : gCi l yX10_feed wsX10_feed rmX10_feed G zM [.ref (G.2.1 0), .int p1, .int p2, .int p3, .int p4, .int p5] σ out.1 out.2 :=
  gEnter (by decide) rfl ⟨rfl, rfl⟩ hG hT (Nat.le_of_ble_eq_true rfl) rfl (fun M X hl => wX10_feed X σ p1 p2 p3 p4 p5 hF)
noncomputable def fX10_end (σ : gS) (p1 : Int32) : Option (Int32 × gS) :=
  if p1 < 0 then some (0, σ) else if p1 ≤ (σ.1 0 1) then nm (gsI σ 0 1 p1) fun σ3 => some (1, σ3) else some (0, σ)
noncomputable abbrev rmX10_end : Room := { frames := 0, cells := 0, slots := 0, locals := 0 }
set_option maxRecDepth 100000 in
set_option maxHeartbeats 4000000 in
theorem wX10_end {M : gM} {G : gG} {out : Int32 × gS} (X : gX M G zM cX10_end RX10 2 wsX10_end rmX10_end (some .boolean)) (σ : gS) (p1 : Int32) (hF : fX10_end σ p1 = some out) : WW M (gQi M G zM out.1 out.2) G zM 2 σ 0 [(0, .ref (G.2.1 0)), (1, .int p1)] [] := by
  unfold fX10_end at hF
  refine ww_iload_n (pc := 0) X (j := 1) dX10_end_0 rfl rfl ?_
  refine ww_if_lt (pc := 1) (tgt := 12) X dX10_end_1 (by decide) hF (fun h1 hF => ?_) (fun h1 hF => ?_)
  · refine ww_iconst (pc := 12) X (v := 0) dX10_end_12 (by decide) ?_
    exact ww_zret (pc := 13) X dX10_end_13 (by cases hF; rfl) (by cases hF; rfl)
  · refine ww_iload_n (pc := 4) X (j := 1) dX10_end_4 rfl rfl ?_
    refine ww_aload_n (pc := 5) X (j := 0) dX10_end_5 rfl rfl ?_
    refine ww_get (pc := 6) X (ref := "PictureBlockModel") (T := TX10) (j := 1) dX10_end_6 inX10_end_RX10 shzM_0 clzM_10 (by decide) rfl (List.mem_of_getElem? (i := 1) rfl) rfl ?_
    refine ww_icmp_le (pc := 9) (tgt := 14) X dX10_end_9 (by decide) hF (fun h2 hF => ?_) (fun h2 hF => ?_)
    · refine ww_aload_n (pc := 14) X (j := 0) dX10_end_14 rfl rfl ?_
      refine ww_iload_n (pc := 15) X (j := 1) dX10_end_15 rfl rfl ?_
      refine ww_putI (pc := 16) X (ref := "PictureBlockModel") (T := TX10) (j := 1) dX10_end_16 inX10_end_RX10 tyX10 tyX10_ok nmX10 shzM_0 clzM_10 (by decide) rfl (List.mem_of_getElem? (i := 1) rfl) rfl rfl (by decide +kernel) hF (fun σ3 eσ3 hF => ?_)
      refine ww_iconst (pc := 19) X (v := 1) dX10_end_19 (by decide) ?_
      exact ww_zret (pc := 20) X dX10_end_20 (by cases hF; rfl) (by cases hF; rfl)
    · refine ww_iconst (pc := 12) X (v := 0) dX10_end_12 (by decide) ?_
      exact ww_zret (pc := 13) X dX10_end_13 (by cases hF; rfl) (by cases hF; rfl)
set_option maxRecDepth 100000 in
set_option maxHeartbeats 4000000 in
theorem kX10_end (l : Launch) (G : gG) (hG : gOK G zM.1) (hT : G.2.2.1.map (fun q => q.2) = zM.2.1) (σ : gS) (p1 : Int32) (out : Int32 × gS) (hF : fX10_end σ p1 = some out) : gCi l yX10_end wsX10_end rmX10_end G zM [.ref (G.2.1 0), .int p1] σ out.1 out.2 :=
  gEnter (by decide) rfl ⟨rfl, rfl⟩ hG hT (Nat.le_of_ble_eq_true rfl) rfl (fun M X hl => wX10_end X σ p1 hF)
noncomputable def fX10_pictures (σ : gS) : Option (Int32) :=
  gd (gb 7 12) <| nm (σ.1 15 ((7 : Int32).toNatClampNeg)) fun v1 => some v1
noncomputable abbrev rmX10_pictures : Room := { frames := 0, cells := 0, slots := 0, locals := 0 }
set_option maxRecDepth 100000 in
set_option maxHeartbeats 4000000 in
theorem wX10_pictures {M : gM} {G : gG} {out : Int32} (X : gX M G zM cX10_pictures RX10 1 wsX10_pictures rmX10_pictures (some .int)) (σ : gS) (hF : fX10_pictures σ = some out) : WW M (gQi M G zM out σ) G zM 1 σ 0 [(0, .ref (G.2.1 0))] [] := by
  unfold fX10_pictures at hF
  refine ww_aload_n (pc := 0) X (j := 0) dX10_pictures_0 rfl rfl ?_
  refine ww_get (pc := 1) X (ref := "PictureBlockModel") (T := TX10) (j := 23) dX10_pictures_1 inX10_pictures_RX10 shzM_0 clzM_10 (by decide) rfl (List.mem_of_getElem? (i := 1) rfl) rfl ?_
  refine ww_bipush (pc := 4) X (v := 7) dX10_pictures_4 (by decide) ?_
  refine ww_iald (pc := 6) X dX10_pictures_6 shzM_15 rfl hF (fun v1 ev1 bv1 hF => ?_)
  exact ww_iret (pc := 7) X dX10_pictures_7 (Option.some.inj hF) rfl
set_option maxRecDepth 100000 in
set_option maxHeartbeats 4000000 in
theorem kX10_pictures (l : Launch) (G : gG) (hG : gOK G zM.1) (hT : G.2.2.1.map (fun q => q.2) = zM.2.1) (σ : gS) (out : Int32) (hF : fX10_pictures σ = some out) : gCi l yX10_pictures wsX10_pictures rmX10_pictures G zM [.ref (G.2.1 0)] σ out σ :=
  gEnter (by decide) rfl ⟨rfl, rfl⟩ hG hT (Nat.le_of_ble_eq_true rfl) rfl (fun M X hl => wX10_pictures X σ hF)
noncomputable def bX10_firstNotStarted_2 (σ : gS) (rec2 : Int32 → Option (Int32)) (a1 : Int32) : Option (Int32) :=
  bd (fX10_pictures σ) fun r3 => (if r3 ≤ a1 then some ((-1)) else gd (gb a1 12) <| nm (σ.1 29 a1.toNatClampNeg) fun v5 => (if v5 = 0 then some a1 else nm (a1 + 1 : Int32) fun x7 => rec2 x7))
noncomputable def fX10_firstNotStarted (σ : gS) : Option (Int32) :=
  nm (0 : Int32) fun x1 => lpc (S := Int32) K9 (fun rec s => bX10_firstNotStarted_2 σ (fun a1 => rec (a1)) s) (x1)
noncomputable abbrev rmX10_firstNotStarted : Room := { frames := 1, cells := 0, slots := 0, locals := 20 }
set_option maxRecDepth 100000 in
set_option maxHeartbeats 4000000 in
theorem wbX10_firstNotStarted_2 {M : gM} {G : gG} {out : Int32} (X : gX M G zM cX10_firstNotStarted RX10 2 wsX10_firstNotStarted rmX10_firstNotStarted (some .int)) (σ : gS) (rec2 : Int32 → Option (Int32)) (ih2 : ∀ (a1 : Int32), rec2 a1 = some out → WW M (gQi M G zM out σ) G zM 2 σ 2 [(0, .ref (G.2.1 0)), (1, .int a1)] []) (a1 : Int32) (hF : bX10_firstNotStarted_2 σ rec2 a1 = some out) : WW M (gQi M G zM out σ) G zM 2 σ 2 [(0, .ref (G.2.1 0)), (1, .int a1)] [] := by
  unfold bX10_firstNotStarted_2 at hF
  refine ww_iload_n (pc := 2) X (j := 1) dX10_firstNotStarted_2 rfl rfl ?_
  refine ww_aload_n (pc := 3) X (j := 0) dX10_firstNotStarted_3 rfl rfl ?_
  obtain ⟨r3, h2, hF⟩ := bd_some hF
  refine ww_callVi (pc := 4) X (As := []) (rest := [.int a1]) dX10_firstNotStarted_4 (kX10_pictures (mL M) G X.2.2.2.2.2.2.1 X.2.2.2.2.2.2.2.1 σ r3 h2) rfl shzM_0 clzM_10 gX10_firstNotStarted_X10_pictures hyX10_pictures ⟨rfl, rfl⟩ ⟨Nat.le_of_ble_eq_true rfl, Nat.le_of_ble_eq_true rfl⟩ rfl rfl (Nat.le_of_ble_eq_true rfl) ?_
  refine ww_icmp_ge (pc := 7) (tgt := 27) X dX10_firstNotStarted_7 (by decide) hF (fun h4 hF => ?_) (fun h4 hF => ?_)
  · refine ww_iconst (pc := 27) X (v := (-1)) dX10_firstNotStarted_27 (by decide) ?_
    exact ww_iret (pc := 28) X dX10_firstNotStarted_28 (Option.some.inj hF) rfl
  · refine ww_aload_n (pc := 10) X (j := 0) dX10_firstNotStarted_10 rfl rfl ?_
    refine ww_get (pc := 11) X (ref := "PictureBlockModel") (T := TX10) (j := 39) dX10_firstNotStarted_11 inX10_firstNotStarted_RX10 shzM_0 clzM_10 (by decide) rfl (List.mem_of_getElem? (i := 1) rfl) rfl ?_
    refine ww_iload_n (pc := 14) X (j := 1) dX10_firstNotStarted_14 rfl rfl ?_
    refine ww_zald (pc := 15) X dX10_firstNotStarted_15 shzM_29 rfl hF (fun v5 ev5 bv5 hF => ?_)
    refine ww_if_ne (pc := 16) (tgt := 21) X dX10_firstNotStarted_16 (by decide) hF (fun h6 hF => ?_) (fun h6 hF => ?_)
    · refine ww_iinc (pc := 21) X (j := 1) (v := 1) (lv' := [(0, .ref (G.2.1 0))]) dX10_firstNotStarted_21 rfl rfl (by decide) rfl hF (fun x7 ex7 hF => ?_)
      refine ww_goto (pc := 24) X (tgt := 2) dX10_firstNotStarted_24 (by decide) ?_
      exact ww_sub [1, 0] rfl (ih2 x7 hF)
    · refine ww_iload_n (pc := 19) X (j := 1) dX10_firstNotStarted_19 rfl rfl ?_
      exact ww_iret (pc := 20) X dX10_firstNotStarted_20 (Option.some.inj hF) rfl
set_option maxRecDepth 100000 in
set_option maxHeartbeats 4000000 in
theorem wX10_firstNotStarted {M : gM} {G : gG} {out : Int32} (X : gX M G zM cX10_firstNotStarted RX10 2 wsX10_firstNotStarted rmX10_firstNotStarted (some .int)) (σ : gS) (hF : fX10_firstNotStarted σ = some out) : WW M (gQi M G zM out σ) G zM 2 σ 0 [(0, .ref (G.2.1 0))] [] := by
  unfold fX10_firstNotStarted at hF
  refine ww_iconst (pc := 0) X (v := 0) dX10_firstNotStarted_0 (by decide) ?_
  refine ww_istore_n (pc := 1) X (lv' := [(0, .ref (G.2.1 0))]) dX10_firstNotStarted_1 rfl (by decide) rfl hF (fun x1 ex1 hF => ?_)
  exact ww_sub [1, 0] rfl (lpc_ind (P := (fun (s : Int32) => WW M (gQi M G zM out σ) G zM 2 σ 2 [(0, .ref (G.2.1 0)), (1, .int s)] [])) (fun rec s ih hF => wbX10_firstNotStarted_2 X σ (fun a1 => rec (a1)) (fun a1 h => ih (a1) h) s hF) K9 (x1) hF)
set_option maxRecDepth 100000 in
set_option maxHeartbeats 4000000 in
theorem kX10_firstNotStarted (l : Launch) (G : gG) (hG : gOK G zM.1) (hT : G.2.2.1.map (fun q => q.2) = zM.2.1) (σ : gS) (out : Int32) (hF : fX10_firstNotStarted σ = some out) : gCi l yX10_firstNotStarted wsX10_firstNotStarted rmX10_firstNotStarted G zM [.ref (G.2.1 0)] σ out σ :=
  gEnter (by decide) rfl ⟨rfl, rfl⟩ hG hT (Nat.le_of_ble_eq_true rfl) rfl (fun M X hl => wX10_firstNotStarted X σ hF)
noncomputable def fX10_points (σ : gS) : Option (Int32) :=
  gd (gb 8 12) <| nm (σ.1 15 ((8 : Int32).toNatClampNeg)) fun v1 => some v1
noncomputable abbrev rmX10_points : Room := { frames := 0, cells := 0, slots := 0, locals := 0 }
set_option maxRecDepth 100000 in
set_option maxHeartbeats 4000000 in
theorem wX10_points {M : gM} {G : gG} {out : Int32} (X : gX M G zM cX10_points RX10 1 wsX10_points rmX10_points (some .int)) (σ : gS) (hF : fX10_points σ = some out) : WW M (gQi M G zM out σ) G zM 1 σ 0 [(0, .ref (G.2.1 0))] [] := by
  unfold fX10_points at hF
  refine ww_aload_n (pc := 0) X (j := 0) dX10_points_0 rfl rfl ?_
  refine ww_get (pc := 1) X (ref := "PictureBlockModel") (T := TX10) (j := 23) dX10_points_1 inX10_points_RX10 shzM_0 clzM_10 (by decide) rfl (List.mem_of_getElem? (i := 1) rfl) rfl ?_
  refine ww_bipush (pc := 4) X (v := 8) dX10_points_4 (by decide) ?_
  refine ww_iald (pc := 6) X dX10_points_6 shzM_15 rfl hF (fun v1 ev1 bv1 hF => ?_)
  exact ww_iret (pc := 7) X dX10_points_7 (Option.some.inj hF) rfl
set_option maxRecDepth 100000 in
set_option maxHeartbeats 4000000 in
theorem kX10_points (l : Launch) (G : gG) (hG : gOK G zM.1) (hT : G.2.2.1.map (fun q => q.2) = zM.2.1) (σ : gS) (out : Int32) (hF : fX10_points σ = some out) : gCi l yX10_points wsX10_points rmX10_points G zM [.ref (G.2.1 0)] σ out σ :=
  gEnter (by decide) rfl ⟨rfl, rfl⟩ hG hT (Nat.le_of_ble_eq_true rfl) rfl (fun M X hl => wX10_points X σ hF)
noncomputable def fX10_isControl (σ : gS) (p1 : Int32) : Option (Int32) :=
  gd (gb (20 + p1) 40) <| nm (σ.1 20 (20 + p1).toNatClampNeg) fun v1 => nm (v1 : Int32) fun x2 => (if x2 = 0 then some 0 else if (((σ.1 0 36) >>> ((x2 - 1) &&& 31)) &&& 1) = 1 then some 1 else some 0)
noncomputable abbrev rmX10_isControl : Room := { frames := 0, cells := 0, slots := 0, locals := 0 }
set_option maxRecDepth 100000 in
set_option maxHeartbeats 4000000 in
theorem wX10_isControl {M : gM} {G : gG} {out : Int32} (X : gX M G zM cX10_isControl RX10 3 wsX10_isControl rmX10_isControl (some .boolean)) (σ : gS) (p1 : Int32) (hF : fX10_isControl σ p1 = some out) : WW M (gQi M G zM out σ) G zM 3 σ 0 [(0, .ref (G.2.1 0)), (1, .int p1)] [] := by
  unfold fX10_isControl at hF
  refine ww_aload_n (pc := 0) X (j := 0) dX10_isControl_0 rfl rfl ?_
  refine ww_get (pc := 1) X (ref := "PictureBlockModel") (T := TX10) (j := 28) dX10_isControl_1 inX10_isControl_RX10 shzM_0 clzM_10 (by decide) rfl (List.mem_of_getElem? (i := 1) rfl) rfl ?_
  refine ww_bipush (pc := 4) X (v := 20) dX10_isControl_4 (by decide) ?_
  refine ww_iload_n (pc := 6) X (j := 1) dX10_isControl_6 rfl rfl ?_
  refine ww_iadd (pc := 7) X dX10_isControl_7 ?_
  refine ww_iald (pc := 8) X dX10_isControl_8 shzM_20 rfl hF (fun v1 ev1 bv1 hF => ?_)
  refine ww_istore_n (pc := 9) X (lv' := [(0, .ref (G.2.1 0)), (1, .int p1)]) dX10_isControl_9 rfl (by decide) rfl hF (fun x2 ex2 hF => ?_)
  refine ww_iload_n (pc := 10) X (j := 0) dX10_isControl_10 rfl rfl ?_
  refine ww_if_eq (pc := 11) (tgt := 32) X dX10_isControl_11 (by decide) hF (fun h3 hF => ?_) (fun h3 hF => ?_)
  · refine ww_iconst (pc := 32) X (v := 0) dX10_isControl_32 (by decide) ?_
    exact ww_zret (pc := 33) X dX10_isControl_33 (by cases hF; rfl) rfl
  · refine ww_aload_n (pc := 14) X (j := 1) dX10_isControl_14 rfl rfl ?_
    refine ww_get (pc := 15) X (ref := "PictureBlockModel") (T := TX10) (j := 36) dX10_isControl_15 inX10_isControl_RX10 shzM_0 clzM_10 (by decide) rfl (List.mem_of_getElem? (i := 2) rfl) rfl ?_
    refine ww_iload_n (pc := 18) X (j := 0) dX10_isControl_18 rfl rfl ?_
    refine ww_iconst (pc := 19) X (v := 1) dX10_isControl_19 (by decide) ?_
    refine ww_isub (pc := 20) X dX10_isControl_20 ?_
    refine ww_ishr (pc := 21) X dX10_isControl_21 ?_
    refine ww_iconst (pc := 22) X (v := 1) dX10_isControl_22 (by decide) ?_
    refine ww_iand (pc := 23) X dX10_isControl_23 ?_
    refine ww_iconst (pc := 24) X (v := 1) dX10_isControl_24 (by decide) ?_
    refine ww_icmp_ne (pc := 25) (tgt := 32) X dX10_isControl_25 (by decide) hF (fun h4 hF => ?_) (fun h4 hF => ?_)
    · refine ww_iconst (pc := 32) X (v := 0) dX10_isControl_32 (by decide) ?_
      exact ww_zret (pc := 33) X dX10_isControl_33 (by cases hF; rfl) rfl
    · refine ww_iconst (pc := 28) X (v := 1) dX10_isControl_28 (by decide) ?_
      refine ww_goto (pc := 29) X (tgt := 33) dX10_isControl_29 (by decide) ?_
      exact ww_zret (pc := 33) X dX10_isControl_33 (by cases hF; rfl) rfl
set_option maxRecDepth 100000 in
set_option maxHeartbeats 4000000 in
theorem kX10_isControl (l : Launch) (G : gG) (hG : gOK G zM.1) (hT : G.2.2.1.map (fun q => q.2) = zM.2.1) (σ : gS) (p1 : Int32) (out : Int32) (hF : fX10_isControl σ p1 = some out) : gCi l yX10_isControl wsX10_isControl rmX10_isControl G zM [.ref (G.2.1 0), .int p1] σ out σ :=
  gEnter (by decide) rfl ⟨rfl, rfl⟩ hG hT (Nat.le_of_ble_eq_true rfl) rfl (fun M X hl => wX10_isControl X σ p1 hF)
noncomputable def bX10_standControls_12 (σ : gS) (c12_1 : Int32) (rec2 : Int32 → gS → Option (gS)) (rec12 : Int32 → gS → Option (gS)) (a2 : Int32) (σ1 : gS) : Option (gS) :=
  if 2 ≤ a2 then nm (c12_1 + 1 : Int32) fun x7 => rec2 x7 σ1 else bd (fX10_isControl σ1 c12_1) fun r9 => (if r9 = 0 then nm (a2 + 1 : Int32) fun x11 => rec12 x11 σ1 else gd (gb ((40 + (2 * c12_1)) + a2) 80) <| nm (σ1.1 21 ((40 + (2 * c12_1)) + a2).toNatClampNeg) fun v12 => gd (gb (((38 * a2) + 12) + c12_1) 76) <| nm (gsI σ1 28 (((38 * a2) + 12) + c12_1).toNatClampNeg (100 * v12)) fun σ13 => nm (a2 + 1 : Int32) fun x14 => rec12 x14 σ13)
noncomputable def bX10_standControls_2 (σ : gS) (rec2 : Int32 → gS → Option (gS)) (a1 : Int32) (σ1 : gS) : Option (gS) :=
  bd (fX10_points σ1) fun r3 => (if r3 ≤ a1 then some σ1 else nm (0 : Int32) fun x5 => lpc (S := Int32 × gS) K9 (fun rec s => bX10_standControls_12 σ1 a1 rec2 (fun a2 σ1 => rec (a2, σ1)) s.1 s.2) (x5, σ1))
noncomputable def fX10_standControls (σ : gS) : Option (gS) :=
  nm (0 : Int32) fun x1 => lpc (S := Int32 × gS) K9 (fun rec s => bX10_standControls_2 σ (fun a1 σ1 => rec (a1, σ1)) s.1 s.2) (x1, σ)
noncomputable abbrev rmX10_standControls : Room := { frames := 1, cells := 0, slots := 0, locals := 22 }
set_option maxRecDepth 100000 in
set_option maxHeartbeats 4000000 in
theorem wbX10_standControls_12 {M : gM} {G : gG} {out : gS} (X : gX M G zM cX10_standControls RX10 3 wsX10_standControls rmX10_standControls none) (σ : gS) (c12_1 : Int32) (rec2 : Int32 → gS → Option (gS)) (ih2 : ∀ (a1 : Int32) (σ1 : gS), rec2 a1 σ1 = some out → WW M (gQv M G zM out) G zM 3 σ1 2 [(0, .ref (G.2.1 0)), (1, .int a1)] []) (rec12 : Int32 → gS → Option (gS)) (ih12 : ∀ (a2 : Int32) (σ1 : gS), rec12 a2 σ1 = some out → WW M (gQv M G zM out) G zM 3 σ1 12 [(0, .ref (G.2.1 0)), (1, .int c12_1), (2, .int a2)] []) (a2 : Int32) (σ1 : gS) (hF : bX10_standControls_12 σ c12_1 rec2 rec12 a2 σ1 = some out) : WW M (gQv M G zM out) G zM 3 σ1 12 [(0, .ref (G.2.1 0)), (1, .int c12_1), (2, .int a2)] [] := by
  unfold bX10_standControls_12 at hF
  refine ww_iload_n (pc := 12) X (j := 2) dX10_standControls_12 rfl rfl ?_
  refine ww_iconst (pc := 13) X (v := 2) dX10_standControls_13 (by decide) ?_
  refine ww_icmp_ge (pc := 14) (tgt := 61) X dX10_standControls_14 (by decide) hF (fun h6 hF => ?_) (fun h6 hF => ?_)
  · refine ww_iinc (pc := 61) X (j := 1) (v := 1) (lv' := [(0, .ref (G.2.1 0)), (2, .int a2)]) dX10_standControls_61 rfl rfl (by decide) rfl hF (fun x7 ex7 hF => ?_)
    refine ww_goto (pc := 64) X (tgt := 2) dX10_standControls_64 (by decide) ?_
    exact ww_sub [1, 0] rfl (ih2 x7 σ1 hF)
  · refine ww_aload_n (pc := 17) X (j := 0) dX10_standControls_17 rfl rfl ?_
    refine ww_iload_n (pc := 18) X (j := 1) dX10_standControls_18 rfl rfl ?_
    obtain ⟨r9, h8, hF⟩ := bd_some hF
    refine ww_callVi (pc := 19) X (As := [.int c12_1]) (rest := []) dX10_standControls_19 (kX10_isControl (mL M) G X.2.2.2.2.2.2.1 X.2.2.2.2.2.2.2.1 σ1 c12_1 r9 h8) rfl shzM_0 clzM_10 gX10_standControls_X10_isControl hyX10_isControl ⟨rfl, rfl⟩ ⟨Nat.le_of_ble_eq_true rfl, Nat.le_of_ble_eq_true rfl⟩ rfl rfl (Nat.le_of_ble_eq_true rfl) ?_
    refine ww_if_eq (pc := 22) (tgt := 55) X dX10_standControls_22 (by decide) hF (fun h10 hF => ?_) (fun h10 hF => ?_)
    · refine ww_iinc (pc := 55) X (j := 2) (v := 1) (lv' := [(0, .ref (G.2.1 0)), (1, .int c12_1)]) dX10_standControls_55 rfl rfl (by decide) rfl hF (fun x11 ex11 hF => ?_)
      refine ww_goto (pc := 58) X (tgt := 12) dX10_standControls_58 (by decide) ?_
      exact ww_sub [1, 2, 0] rfl (ih12 x11 σ1 hF)
    · refine ww_aload_n (pc := 25) X (j := 0) dX10_standControls_25 rfl rfl ?_
      refine ww_get (pc := 26) X (ref := "PictureBlockModel") (T := TX10) (j := 38) dX10_standControls_26 inX10_standControls_RX10 shzM_0 clzM_10 (by decide) rfl (List.mem_of_getElem? (i := 1) rfl) rfl ?_
      refine ww_bipush (pc := 29) X (v := 38) dX10_standControls_29 (by decide) ?_
      refine ww_iload_n (pc := 31) X (j := 2) dX10_standControls_31 rfl rfl ?_
      refine ww_imul (pc := 32) X dX10_standControls_32 ?_
      refine ww_bipush (pc := 33) X (v := 12) dX10_standControls_33 (by decide) ?_
      refine ww_iadd (pc := 35) X dX10_standControls_35 ?_
      refine ww_iload_n (pc := 36) X (j := 1) dX10_standControls_36 rfl rfl ?_
      refine ww_iadd (pc := 37) X dX10_standControls_37 ?_
      refine ww_bipush (pc := 38) X (v := 100) dX10_standControls_38 (by decide) ?_
      refine ww_aload_n (pc := 40) X (j := 0) dX10_standControls_40 rfl rfl ?_
      refine ww_get (pc := 41) X (ref := "PictureBlockModel") (T := TX10) (j := 29) dX10_standControls_41 inX10_standControls_RX10 shzM_0 clzM_10 (by decide) rfl (List.mem_of_getElem? (i := 2) rfl) rfl ?_
      refine ww_bipush (pc := 44) X (v := 40) dX10_standControls_44 (by decide) ?_
      refine ww_iconst (pc := 46) X (v := 2) dX10_standControls_46 (by decide) ?_
      refine ww_iload_n (pc := 47) X (j := 1) dX10_standControls_47 rfl rfl ?_
      refine ww_imul (pc := 48) X dX10_standControls_48 ?_
      refine ww_iadd (pc := 49) X dX10_standControls_49 ?_
      refine ww_iload_n (pc := 50) X (j := 2) dX10_standControls_50 rfl rfl ?_
      refine ww_iadd (pc := 51) X dX10_standControls_51 ?_
      refine ww_iald (pc := 52) X dX10_standControls_52 shzM_21 rfl hF (fun v12 ev12 bv12 hF => ?_)
      refine ww_imul (pc := 53) X dX10_standControls_53 ?_
      refine ww_iast (pc := 54) X dX10_standControls_54 shzM_28 rfl hF (fun σ13 eσ13 bσ13 hF => ?_)
      refine ww_iinc (pc := 55) X (j := 2) (v := 1) (lv' := [(0, .ref (G.2.1 0)), (1, .int c12_1)]) dX10_standControls_55 rfl rfl (by decide) rfl hF (fun x14 ex14 hF => ?_)
      refine ww_goto (pc := 58) X (tgt := 12) dX10_standControls_58 (by decide) ?_
      exact ww_sub [1, 2, 0] rfl (ih12 x14 σ13 hF)
set_option maxRecDepth 100000 in
set_option maxHeartbeats 4000000 in
theorem wbX10_standControls_2 {M : gM} {G : gG} {out : gS} (X : gX M G zM cX10_standControls RX10 3 wsX10_standControls rmX10_standControls none) (σ : gS) (rec2 : Int32 → gS → Option (gS)) (ih2 : ∀ (a1 : Int32) (σ1 : gS), rec2 a1 σ1 = some out → WW M (gQv M G zM out) G zM 3 σ1 2 [(0, .ref (G.2.1 0)), (1, .int a1)] []) (a1 : Int32) (σ1 : gS) (hF : bX10_standControls_2 σ rec2 a1 σ1 = some out) : WW M (gQv M G zM out) G zM 3 σ1 2 [(0, .ref (G.2.1 0)), (1, .int a1)] [] := by
  unfold bX10_standControls_2 at hF
  refine ww_iload_n (pc := 2) X (j := 1) dX10_standControls_2 rfl rfl ?_
  refine ww_aload_n (pc := 3) X (j := 0) dX10_standControls_3 rfl rfl ?_
  obtain ⟨r3, h2, hF⟩ := bd_some hF
  refine ww_callVi (pc := 4) X (As := []) (rest := [.int a1]) dX10_standControls_4 (kX10_points (mL M) G X.2.2.2.2.2.2.1 X.2.2.2.2.2.2.2.1 σ1 r3 h2) rfl shzM_0 clzM_10 gX10_standControls_X10_points hyX10_points ⟨rfl, rfl⟩ ⟨Nat.le_of_ble_eq_true rfl, Nat.le_of_ble_eq_true rfl⟩ rfl rfl (Nat.le_of_ble_eq_true rfl) ?_
  refine ww_icmp_ge (pc := 7) (tgt := 67) X dX10_standControls_7 (by decide) hF (fun h4 hF => ?_) (fun h4 hF => ?_)
  · exact ww_vret (pc := 67) X dX10_standControls_67 (by cases hF; rfl)
  · refine ww_iconst (pc := 10) X (v := 0) dX10_standControls_10 (by decide) ?_
    refine ww_istore_n (pc := 11) X (lv' := [(0, .ref (G.2.1 0)), (1, .int a1)]) dX10_standControls_11 rfl (by decide) rfl hF (fun x5 ex5 hF => ?_)
    exact ww_sub [1, 2, 0] rfl (lpc_ind (P := (fun (s : Int32 × gS) => WW M (gQv M G zM out) G zM 3 s.2 12 [(0, .ref (G.2.1 0)), (1, .int a1), (2, .int s.1)] [])) (fun rec s ih hF => wbX10_standControls_12 X σ1 a1 rec2  ih2 (fun a2 σ1 => rec (a2, σ1)) (fun a2 σ1 h => ih (a2, σ1) h) s.1 s.2 hF) K9 (x5, σ1) hF)
set_option maxRecDepth 100000 in
set_option maxHeartbeats 4000000 in
theorem wX10_standControls {M : gM} {G : gG} {out : gS} (X : gX M G zM cX10_standControls RX10 3 wsX10_standControls rmX10_standControls none) (σ : gS) (hF : fX10_standControls σ = some out) : WW M (gQv M G zM out) G zM 3 σ 0 [(0, .ref (G.2.1 0))] [] := by
  unfold fX10_standControls at hF
  refine ww_iconst (pc := 0) X (v := 0) dX10_standControls_0 (by decide) ?_
  refine ww_istore_n (pc := 1) X (lv' := [(0, .ref (G.2.1 0))]) dX10_standControls_1 rfl (by decide) rfl hF (fun x1 ex1 hF => ?_)
  exact ww_sub [1, 0] rfl (lpc_ind (P := (fun (s : Int32 × gS) => WW M (gQv M G zM out) G zM 3 s.2 2 [(0, .ref (G.2.1 0)), (1, .int s.1)] [])) (fun rec s ih hF => wbX10_standControls_2 X σ (fun a1 σ1 => rec (a1, σ1)) (fun a1 σ1 h => ih (a1, σ1) h) s.1 s.2 hF) K9 (x1, σ) hF)
set_option maxRecDepth 100000 in
set_option maxHeartbeats 4000000 in
theorem kX10_standControls (l : Launch) (G : gG) (hG : gOK G zM.1) (hT : G.2.2.1.map (fun q => q.2) = zM.2.1) (σ : gS) (out : gS) (hF : fX10_standControls σ = some out) : gCv l yX10_standControls wsX10_standControls rmX10_standControls G zM [.ref (G.2.1 0)] σ out :=
  gEnter (by decide) rfl ⟨rfl, rfl⟩ hG hT (Nat.le_of_ble_eq_true rfl) rfl (fun M X hl => wX10_standControls X σ hF)
noncomputable def fX10_rows (σ : gS) : Option (Int32) :=
  gd (gb 9 12) <| nm (σ.1 15 ((9 : Int32).toNatClampNeg)) fun v1 => some v1
noncomputable abbrev rmX10_rows : Room := { frames := 0, cells := 0, slots := 0, locals := 0 }
set_option maxRecDepth 100000 in
set_option maxHeartbeats 4000000 in
theorem wX10_rows {M : gM} {G : gG} {out : Int32} (X : gX M G zM cX10_rows RX10 1 wsX10_rows rmX10_rows (some .int)) (σ : gS) (hF : fX10_rows σ = some out) : WW M (gQi M G zM out σ) G zM 1 σ 0 [(0, .ref (G.2.1 0))] [] := by
  unfold fX10_rows at hF
  refine ww_aload_n (pc := 0) X (j := 0) dX10_rows_0 rfl rfl ?_
  refine ww_get (pc := 1) X (ref := "PictureBlockModel") (T := TX10) (j := 23) dX10_rows_1 inX10_rows_RX10 shzM_0 clzM_10 (by decide) rfl (List.mem_of_getElem? (i := 1) rfl) rfl ?_
  refine ww_bipush (pc := 4) X (v := 9) dX10_rows_4 (by decide) ?_
  refine ww_iald (pc := 6) X dX10_rows_6 shzM_15 rfl hF (fun v1 ev1 bv1 hF => ?_)
  exact ww_iret (pc := 7) X dX10_rows_7 (Option.some.inj hF) rfl
set_option maxRecDepth 100000 in
set_option maxHeartbeats 4000000 in
theorem kX10_rows (l : Launch) (G : gG) (hG : gOK G zM.1) (hT : G.2.2.1.map (fun q => q.2) = zM.2.1) (σ : gS) (out : Int32) (hF : fX10_rows σ = some out) : gCi l yX10_rows wsX10_rows rmX10_rows G zM [.ref (G.2.1 0)] σ out σ :=
  gEnter (by decide) rfl ⟨rfl, rfl⟩ hG hT (Nat.le_of_ble_eq_true rfl) rfl (fun M X hl => wX10_rows X σ hF)
noncomputable def fX10_pointOf (σ : gS) (p1 : Int32) : Option (Int32) :=
  gd (gb (60 + p1) 120) <| nm (σ.1 23 (60 + p1).toNatClampNeg) fun v1 => some v1
noncomputable abbrev rmX10_pointOf : Room := { frames := 0, cells := 0, slots := 0, locals := 0 }
set_option maxRecDepth 100000 in
set_option maxHeartbeats 4000000 in
theorem wX10_pointOf {M : gM} {G : gG} {out : Int32} (X : gX M G zM cX10_pointOf RX10 2 wsX10_pointOf rmX10_pointOf (some .int)) (σ : gS) (p1 : Int32) (hF : fX10_pointOf σ p1 = some out) : WW M (gQi M G zM out σ) G zM 2 σ 0 [(0, .ref (G.2.1 0)), (1, .int p1)] [] := by
  unfold fX10_pointOf at hF
  refine ww_aload_n (pc := 0) X (j := 0) dX10_pointOf_0 rfl rfl ?_
  refine ww_get (pc := 1) X (ref := "PictureBlockModel") (T := TX10) (j := 31) dX10_pointOf_1 inX10_pointOf_RX10 shzM_0 clzM_10 (by decide) rfl (List.mem_of_getElem? (i := 1) rfl) rfl ?_
  refine ww_bipush (pc := 4) X (v := 60) dX10_pointOf_4 (by decide) ?_
  refine ww_iload_n (pc := 6) X (j := 1) dX10_pointOf_6 rfl rfl ?_
  refine ww_iadd (pc := 7) X dX10_pointOf_7 ?_
  refine ww_iald (pc := 8) X dX10_pointOf_8 shzM_23 rfl hF (fun v1 ev1 bv1 hF => ?_)
  exact ww_iret (pc := 9) X dX10_pointOf_9 (Option.some.inj hF) rfl
set_option maxRecDepth 100000 in
set_option maxHeartbeats 4000000 in
theorem kX10_pointOf (l : Launch) (G : gG) (hG : gOK G zM.1) (hT : G.2.2.1.map (fun q => q.2) = zM.2.1) (σ : gS) (p1 : Int32) (out : Int32) (hF : fX10_pointOf σ p1 = some out) : gCi l yX10_pointOf wsX10_pointOf rmX10_pointOf G zM [.ref (G.2.1 0), .int p1] σ out σ :=
  gEnter (by decide) rfl ⟨rfl, rfl⟩ hG hT (Nat.le_of_ble_eq_true rfl) rfl (fun M X hl => wX10_pointOf X σ p1 hF)
noncomputable def fX10_pictureOf (σ : gS) (p1 : Int32) : Option (Int32) :=
  gd (gb (60 + p1) 120) <| nm (σ.1 22 (60 + p1).toNatClampNeg) fun v1 => some v1
noncomputable abbrev rmX10_pictureOf : Room := { frames := 0, cells := 0, slots := 0, locals := 0 }
set_option maxRecDepth 100000 in
set_option maxHeartbeats 4000000 in
theorem wX10_pictureOf {M : gM} {G : gG} {out : Int32} (X : gX M G zM cX10_pictureOf RX10 2 wsX10_pictureOf rmX10_pictureOf (some .int)) (σ : gS) (p1 : Int32) (hF : fX10_pictureOf σ p1 = some out) : WW M (gQi M G zM out σ) G zM 2 σ 0 [(0, .ref (G.2.1 0)), (1, .int p1)] [] := by
  unfold fX10_pictureOf at hF
  refine ww_aload_n (pc := 0) X (j := 0) dX10_pictureOf_0 rfl rfl ?_
  refine ww_get (pc := 1) X (ref := "PictureBlockModel") (T := TX10) (j := 30) dX10_pictureOf_1 inX10_pictureOf_RX10 shzM_0 clzM_10 (by decide) rfl (List.mem_of_getElem? (i := 1) rfl) rfl ?_
  refine ww_bipush (pc := 4) X (v := 60) dX10_pictureOf_4 (by decide) ?_
  refine ww_iload_n (pc := 6) X (j := 1) dX10_pictureOf_6 rfl rfl ?_
  refine ww_iadd (pc := 7) X dX10_pictureOf_7 ?_
  refine ww_iald (pc := 8) X dX10_pictureOf_8 shzM_22 rfl hF (fun v1 ev1 bv1 hF => ?_)
  exact ww_iret (pc := 9) X dX10_pictureOf_9 (Option.some.inj hF) rfl
set_option maxRecDepth 100000 in
set_option maxHeartbeats 4000000 in
theorem kX10_pictureOf (l : Launch) (G : gG) (hG : gOK G zM.1) (hT : G.2.2.1.map (fun q => q.2) = zM.2.1) (σ : gS) (p1 : Int32) (out : Int32) (hF : fX10_pictureOf σ p1 = some out) : gCi l yX10_pictureOf wsX10_pictureOf rmX10_pictureOf G zM [.ref (G.2.1 0), .int p1] σ out σ :=
  gEnter (by decide) rfl ⟨rfl, rfl⟩ hG hT (Nat.le_of_ble_eq_true rfl) rfl (fun M X hl => wX10_pictureOf X σ p1 hF)
noncomputable def bX10_startedRow_2 (σ : gS) (c2_1 : Int32) (rec2 : Int32 → Option (Int32)) (a2 : Int32) : Option (Int32) :=
  bd (fX10_rows σ) fun r3 => (if r3 ≤ a2 then some ((-1)) else gd (gb a2 60) <| nm (σ.1 26 a2.toNatClampNeg) fun v5 => (if v5 = 0 then bd (fX10_pointOf σ a2) fun r9 => (if r9 = c2_1 then bd (fX10_pictureOf σ a2) fun r13 => gd (gb r13 12) <| nm (σ.1 29 r13.toNatClampNeg) fun v14 => (if v14 = 0 then nm (a2 + 1 : Int32) fun x16 => rec2 x16 else some a2) else nm (a2 + 1 : Int32) fun x11 => rec2 x11) else nm (a2 + 1 : Int32) fun x7 => rec2 x7))
noncomputable def fX10_startedRow (σ : gS) (p1 : Int32) : Option (Int32) :=
  nm (0 : Int32) fun x1 => lpc (S := Int32) K9 (fun rec s => bX10_startedRow_2 σ p1 (fun a2 => rec (a2)) s) (x1)
noncomputable abbrev rmX10_startedRow : Room := { frames := 1, cells := 0, slots := 0, locals := 21 }
set_option maxRecDepth 100000 in
set_option maxHeartbeats 4000000 in
theorem wbX10_startedRow_2 {M : gM} {G : gG} {out : Int32} (X : gX M G zM cX10_startedRow RX10 3 wsX10_startedRow rmX10_startedRow (some .int)) (σ : gS) (c2_1 : Int32) (rec2 : Int32 → Option (Int32)) (ih2 : ∀ (a2 : Int32), rec2 a2 = some out → WW M (gQi M G zM out σ) G zM 3 σ 2 [(0, .ref (G.2.1 0)), (1, .int c2_1), (2, .int a2)] []) (a2 : Int32) (hF : bX10_startedRow_2 σ c2_1 rec2 a2 = some out) : WW M (gQi M G zM out σ) G zM 3 σ 2 [(0, .ref (G.2.1 0)), (1, .int c2_1), (2, .int a2)] [] := by
  unfold bX10_startedRow_2 at hF
  refine ww_iload_n (pc := 2) X (j := 2) dX10_startedRow_2 rfl rfl ?_
  refine ww_aload_n (pc := 3) X (j := 0) dX10_startedRow_3 rfl rfl ?_
  obtain ⟨r3, h2, hF⟩ := bd_some hF
  refine ww_callVi (pc := 4) X (As := []) (rest := [.int a2]) dX10_startedRow_4 (kX10_rows (mL M) G X.2.2.2.2.2.2.1 X.2.2.2.2.2.2.2.1 σ r3 h2) rfl shzM_0 clzM_10 gX10_startedRow_X10_rows hyX10_rows ⟨rfl, rfl⟩ ⟨Nat.le_of_ble_eq_true rfl, Nat.le_of_ble_eq_true rfl⟩ rfl rfl (Nat.le_of_ble_eq_true rfl) ?_
  refine ww_icmp_ge (pc := 7) (tgt := 49) X dX10_startedRow_7 (by decide) hF (fun h4 hF => ?_) (fun h4 hF => ?_)
  · refine ww_iconst (pc := 49) X (v := (-1)) dX10_startedRow_49 (by decide) ?_
    exact ww_iret (pc := 50) X dX10_startedRow_50 (Option.some.inj hF) rfl
  · refine ww_aload_n (pc := 10) X (j := 0) dX10_startedRow_10 rfl rfl ?_
    refine ww_get (pc := 11) X (ref := "PictureBlockModel") (T := TX10) (j := 35) dX10_startedRow_11 inX10_startedRow_RX10 shzM_0 clzM_10 (by decide) rfl (List.mem_of_getElem? (i := 1) rfl) rfl ?_
    refine ww_iload_n (pc := 14) X (j := 2) dX10_startedRow_14 rfl rfl ?_
    refine ww_zald (pc := 15) X dX10_startedRow_15 shzM_26 rfl hF (fun v5 ev5 bv5 hF => ?_)
    refine ww_if_ne (pc := 16) (tgt := 43) X dX10_startedRow_16 (by decide) hF (fun h6 hF => ?_) (fun h6 hF => ?_)
    · refine ww_iinc (pc := 43) X (j := 2) (v := 1) (lv' := [(0, .ref (G.2.1 0)), (1, .int c2_1)]) dX10_startedRow_43 rfl rfl (by decide) rfl hF (fun x7 ex7 hF => ?_)
      refine ww_goto (pc := 46) X (tgt := 2) dX10_startedRow_46 (by decide) ?_
      exact ww_sub [1, 2, 0] rfl (ih2 x7 hF)
    · refine ww_aload_n (pc := 19) X (j := 0) dX10_startedRow_19 rfl rfl ?_
      refine ww_iload_n (pc := 20) X (j := 2) dX10_startedRow_20 rfl rfl ?_
      obtain ⟨r9, h8, hF⟩ := bd_some hF
      refine ww_callVi (pc := 21) X (As := [.int a2]) (rest := []) dX10_startedRow_21 (kX10_pointOf (mL M) G X.2.2.2.2.2.2.1 X.2.2.2.2.2.2.2.1 σ a2 r9 h8) rfl shzM_0 clzM_10 gX10_startedRow_X10_pointOf hyX10_pointOf ⟨rfl, rfl⟩ ⟨Nat.le_of_ble_eq_true rfl, Nat.le_of_ble_eq_true rfl⟩ rfl rfl (Nat.le_of_ble_eq_true rfl) ?_
      refine ww_iload_n (pc := 24) X (j := 1) dX10_startedRow_24 rfl rfl ?_
      refine ww_icmp_ne (pc := 25) (tgt := 43) X dX10_startedRow_25 (by decide) hF (fun h10 hF => ?_) (fun h10 hF => ?_)
      · refine ww_iinc (pc := 43) X (j := 2) (v := 1) (lv' := [(0, .ref (G.2.1 0)), (1, .int c2_1)]) dX10_startedRow_43 rfl rfl (by decide) rfl hF (fun x11 ex11 hF => ?_)
        refine ww_goto (pc := 46) X (tgt := 2) dX10_startedRow_46 (by decide) ?_
        exact ww_sub [1, 2, 0] rfl (ih2 x11 hF)
      · refine ww_aload_n (pc := 28) X (j := 0) dX10_startedRow_28 rfl rfl ?_
        refine ww_get (pc := 29) X (ref := "PictureBlockModel") (T := TX10) (j := 39) dX10_startedRow_29 inX10_startedRow_RX10 shzM_0 clzM_10 (by decide) rfl (List.mem_of_getElem? (i := 2) rfl) rfl ?_
        refine ww_aload_n (pc := 32) X (j := 0) dX10_startedRow_32 rfl rfl ?_
        refine ww_iload_n (pc := 33) X (j := 2) dX10_startedRow_33 rfl rfl ?_
        obtain ⟨r13, h12, hF⟩ := bd_some hF
        refine ww_callVi (pc := 34) X (As := [.int a2]) (rest := [.ref (G.2.1 29)]) dX10_startedRow_34 (kX10_pictureOf (mL M) G X.2.2.2.2.2.2.1 X.2.2.2.2.2.2.2.1 σ a2 r13 h12) rfl shzM_0 clzM_10 gX10_startedRow_X10_pictureOf hyX10_pictureOf ⟨rfl, rfl⟩ ⟨Nat.le_of_ble_eq_true rfl, Nat.le_of_ble_eq_true rfl⟩ rfl rfl (Nat.le_of_ble_eq_true rfl) ?_
        refine ww_zald (pc := 37) X dX10_startedRow_37 shzM_29 rfl hF (fun v14 ev14 bv14 hF => ?_)
        refine ww_if_eq (pc := 38) (tgt := 43) X dX10_startedRow_38 (by decide) hF (fun h15 hF => ?_) (fun h15 hF => ?_)
        · refine ww_iinc (pc := 43) X (j := 2) (v := 1) (lv' := [(0, .ref (G.2.1 0)), (1, .int c2_1)]) dX10_startedRow_43 rfl rfl (by decide) rfl hF (fun x16 ex16 hF => ?_)
          refine ww_goto (pc := 46) X (tgt := 2) dX10_startedRow_46 (by decide) ?_
          exact ww_sub [1, 2, 0] rfl (ih2 x16 hF)
        · refine ww_iload_n (pc := 41) X (j := 2) dX10_startedRow_41 rfl rfl ?_
          exact ww_iret (pc := 42) X dX10_startedRow_42 (Option.some.inj hF) rfl
set_option maxRecDepth 100000 in
set_option maxHeartbeats 4000000 in
theorem wX10_startedRow {M : gM} {G : gG} {out : Int32} (X : gX M G zM cX10_startedRow RX10 3 wsX10_startedRow rmX10_startedRow (some .int)) (σ : gS) (p1 : Int32) (hF : fX10_startedRow σ p1 = some out) : WW M (gQi M G zM out σ) G zM 3 σ 0 [(0, .ref (G.2.1 0)), (1, .int p1)] [] := by
  unfold fX10_startedRow at hF
  refine ww_iconst (pc := 0) X (v := 0) dX10_startedRow_0 (by decide) ?_
  refine ww_istore_n (pc := 1) X (lv' := [(0, .ref (G.2.1 0)), (1, .int p1)]) dX10_startedRow_1 rfl (by decide) rfl hF (fun x1 ex1 hF => ?_)
  exact ww_sub [1, 2, 0] rfl (lpc_ind (P := (fun (s : Int32) => WW M (gQi M G zM out σ) G zM 3 σ 2 [(0, .ref (G.2.1 0)), (1, .int p1), (2, .int s)] [])) (fun rec s ih hF => wbX10_startedRow_2 X σ p1 (fun a2 => rec (a2)) (fun a2 h => ih (a2) h) s hF) K9 (x1) hF)
set_option maxRecDepth 100000 in
set_option maxHeartbeats 4000000 in
theorem kX10_startedRow (l : Launch) (G : gG) (hG : gOK G zM.1) (hT : G.2.2.1.map (fun q => q.2) = zM.2.1) (σ : gS) (p1 : Int32) (out : Int32) (hF : fX10_startedRow σ p1 = some out) : gCi l yX10_startedRow wsX10_startedRow rmX10_startedRow G zM [.ref (G.2.1 0), .int p1] σ out σ :=
  gEnter (by decide) rfl ⟨rfl, rfl⟩ hG hT (Nat.le_of_ble_eq_true rfl) rfl (fun M X hl => wX10_startedRow X σ p1 hF)
noncomputable def jX10_turnedBy_38 (σ : gS) (a4 : Int32) (a5 : Int32) (z0 : Int32) (z1 : Int32) : Option (Int32) :=
  nm (irm (z1 + z0) 4 : Int32) fun x6 => (if x6 = 0 then some (100 * a4) else if x6 = 1 then some (100 * (-a5)) else if x6 = 2 then some (100 * (-a4)) else some (100 * a5))
noncomputable def fX10_turnedBy (σ : gS) (p1 : Int32) (p2 : Int32) (p3 : Int32) : Option (Int32) :=
  gd (gb (120 + (2 * p1)) 240) <| nm (σ.1 24 (120 + (2 * p1)).toNatClampNeg) fun v1 => nm (v1 : Int32) fun x2 => gd (gb ((120 + (2 * p1)) + 1) 240) <| nm (σ.1 24 ((120 + (2 * p1)) + 1).toNatClampNeg) fun v3 => nm (v3 : Int32) fun x4 => (if p3 = 0 then jX10_turnedBy_38 σ x2 x4 0 p2 else jX10_turnedBy_38 σ x2 x4 3 p2)
noncomputable abbrev rmX10_turnedBy : Room := { frames := 0, cells := 0, slots := 0, locals := 0 }
set_option maxRecDepth 100000 in
set_option maxHeartbeats 4000000 in
theorem wjX10_turnedBy_38 {M : gM} {G : gG} {out : Int32} (X : gX M G zM cX10_turnedBy RX10 7 wsX10_turnedBy rmX10_turnedBy (some .int)) (σ : gS) (a4 : Int32) (a5 : Int32) (z0 : Int32) (z1 : Int32) (hF : jX10_turnedBy_38 σ a4 a5 z0 z1 = some out) : WW M (gQi M G zM out σ) G zM 7 σ 38 [(4, .int a4), (5, .int a5)] [.int z0, .int z1] := by
  unfold jX10_turnedBy_38 at hF
  refine ww_iadd (pc := 38) X dX10_turnedBy_38 ?_
  refine ww_iconst (pc := 39) X (v := 4) dX10_turnedBy_39 (by decide) ?_
  refine ww_irem (pc := 40) X dX10_turnedBy_40 (by decide) ?_
  refine ww_istore (pc := 41) X (lv' := [(4, .int a4), (5, .int a5)]) dX10_turnedBy_41 (by decide) rfl hF (fun x6 ex6 hF => ?_)
  refine ww_bipush (pc := 43) X (v := 100) dX10_turnedBy_43 (by decide) ?_
  refine ww_iload (pc := 45) X (j := 0) dX10_turnedBy_45 rfl ?_
  refine ww_if_ne (pc := 47) (tgt := 55) X dX10_turnedBy_47 (by decide) hF (fun h7 hF => ?_) (fun h7 hF => ?_)
  · refine ww_iload (pc := 55) X (j := 0) dX10_turnedBy_55 rfl ?_
    refine ww_iconst (pc := 57) X (v := 1) dX10_turnedBy_57 (by decide) ?_
    refine ww_icmp_ne (pc := 58) (tgt := 67) X dX10_turnedBy_58 (by decide) hF (fun h8 hF => ?_) (fun h8 hF => ?_)
    · refine ww_iload (pc := 67) X (j := 0) dX10_turnedBy_67 rfl ?_
      refine ww_iconst (pc := 69) X (v := 2) dX10_turnedBy_69 (by decide) ?_
      refine ww_icmp_ne (pc := 70) (tgt := 79) X dX10_turnedBy_70 (by decide) hF (fun h9 hF => ?_) (fun h9 hF => ?_)
      · refine ww_iload (pc := 79) X (j := 2) dX10_turnedBy_79 rfl ?_
        refine ww_imul (pc := 81) X dX10_turnedBy_81 ?_
        exact ww_iret (pc := 82) X dX10_turnedBy_82 (Option.some.inj hF) rfl
      · refine ww_iload (pc := 73) X (j := 1) dX10_turnedBy_73 rfl ?_
        refine ww_ineg (pc := 75) X dX10_turnedBy_75 ?_
        refine ww_goto (pc := 76) X (tgt := 81) dX10_turnedBy_76 (by decide) ?_
        refine ww_imul (pc := 81) X dX10_turnedBy_81 ?_
        exact ww_iret (pc := 82) X dX10_turnedBy_82 (Option.some.inj hF) rfl
    · refine ww_iload (pc := 61) X (j := 2) dX10_turnedBy_61 rfl ?_
      refine ww_ineg (pc := 63) X dX10_turnedBy_63 ?_
      refine ww_goto (pc := 64) X (tgt := 81) dX10_turnedBy_64 (by decide) ?_
      refine ww_imul (pc := 81) X dX10_turnedBy_81 ?_
      exact ww_iret (pc := 82) X dX10_turnedBy_82 (Option.some.inj hF) rfl
  · refine ww_iload (pc := 50) X (j := 1) dX10_turnedBy_50 rfl ?_
    refine ww_goto (pc := 52) X (tgt := 81) dX10_turnedBy_52 (by decide) ?_
    refine ww_imul (pc := 81) X dX10_turnedBy_81 ?_
    exact ww_iret (pc := 82) X dX10_turnedBy_82 (Option.some.inj hF) rfl
set_option maxRecDepth 100000 in
set_option maxHeartbeats 4000000 in
theorem wX10_turnedBy {M : gM} {G : gG} {out : Int32} (X : gX M G zM cX10_turnedBy RX10 7 wsX10_turnedBy rmX10_turnedBy (some .int)) (σ : gS) (p1 : Int32) (p2 : Int32) (p3 : Int32) (hF : fX10_turnedBy σ p1 p2 p3 = some out) : WW M (gQi M G zM out σ) G zM 7 σ 0 [(0, .ref (G.2.1 0)), (1, .int p1), (2, .int p2), (3, .int p3)] [] := by
  unfold fX10_turnedBy at hF
  refine ww_aload_n (pc := 0) X (j := 0) dX10_turnedBy_0 rfl rfl ?_
  refine ww_get (pc := 1) X (ref := "PictureBlockModel") (T := TX10) (j := 32) dX10_turnedBy_1 inX10_turnedBy_RX10 shzM_0 clzM_10 (by decide) rfl (List.mem_of_getElem? (i := 1) rfl) rfl ?_
  refine ww_bipush (pc := 4) X (v := 120) dX10_turnedBy_4 (by decide) ?_
  refine ww_iconst (pc := 6) X (v := 2) dX10_turnedBy_6 (by decide) ?_
  refine ww_iload_n (pc := 7) X (j := 1) dX10_turnedBy_7 rfl rfl ?_
  refine ww_imul (pc := 8) X dX10_turnedBy_8 ?_
  refine ww_iadd (pc := 9) X dX10_turnedBy_9 ?_
  refine ww_iald (pc := 10) X dX10_turnedBy_10 shzM_24 rfl hF (fun v1 ev1 bv1 hF => ?_)
  refine ww_istore (pc := 11) X (lv' := [(0, .ref (G.2.1 0)), (1, .int p1), (2, .int p2), (3, .int p3)]) dX10_turnedBy_11 (by decide) rfl hF (fun x2 ex2 hF => ?_)
  refine ww_aload_n (pc := 13) X (j := 1) dX10_turnedBy_13 rfl rfl ?_
  refine ww_get (pc := 14) X (ref := "PictureBlockModel") (T := TX10) (j := 32) dX10_turnedBy_14 inX10_turnedBy_RX10 shzM_0 clzM_10 (by decide) rfl (List.mem_of_getElem? (i := 1) rfl) rfl ?_
  refine ww_bipush (pc := 17) X (v := 120) dX10_turnedBy_17 (by decide) ?_
  refine ww_iconst (pc := 19) X (v := 2) dX10_turnedBy_19 (by decide) ?_
  refine ww_iload_n (pc := 20) X (j := 2) dX10_turnedBy_20 rfl rfl ?_
  refine ww_imul (pc := 21) X dX10_turnedBy_21 ?_
  refine ww_iadd (pc := 22) X dX10_turnedBy_22 ?_
  refine ww_iconst (pc := 23) X (v := 1) dX10_turnedBy_23 (by decide) ?_
  refine ww_iadd (pc := 24) X dX10_turnedBy_24 ?_
  refine ww_iald (pc := 25) X dX10_turnedBy_25 shzM_24 rfl hF (fun v3 ev3 bv3 hF => ?_)
  refine ww_istore (pc := 26) X (lv' := [(4, .int x2), (0, .ref (G.2.1 0)), (1, .int p1), (2, .int p2), (3, .int p3)]) dX10_turnedBy_26 (by decide) rfl hF (fun x4 ex4 hF => ?_)
  refine ww_iload_n (pc := 28) X (j := 4) dX10_turnedBy_28 rfl rfl ?_
  refine ww_iload_n (pc := 29) X (j := 5) dX10_turnedBy_29 rfl rfl ?_
  refine ww_if_ne (pc := 30) (tgt := 37) X dX10_turnedBy_30 (by decide) hF (fun h5 hF => ?_) (fun h5 hF => ?_)
  · refine ww_iconst (pc := 37) X (v := 3) dX10_turnedBy_37 (by decide) ?_
    exact ww_sub [1, 0] rfl (wjX10_turnedBy_38 X σ x2 x4 3 p2 hF)
  · refine ww_iconst (pc := 33) X (v := 0) dX10_turnedBy_33 (by decide) ?_
    refine ww_goto (pc := 34) X (tgt := 38) dX10_turnedBy_34 (by decide) ?_
    exact ww_sub [1, 0] rfl (wjX10_turnedBy_38 X σ x2 x4 0 p2 hF)
set_option maxRecDepth 100000 in
set_option maxHeartbeats 4000000 in
theorem kX10_turnedBy (l : Launch) (G : gG) (hG : gOK G zM.1) (hT : G.2.2.1.map (fun q => q.2) = zM.2.1) (σ : gS) (p1 : Int32) (p2 : Int32) (p3 : Int32) (out : Int32) (hF : fX10_turnedBy σ p1 p2 p3 = some out) : gCi l yX10_turnedBy wsX10_turnedBy rmX10_turnedBy G zM [.ref (G.2.1 0), .int p1, .int p2, .int p3] σ out σ :=
  gEnter (by decide) rfl ⟨rfl, rfl⟩ hG hT (Nat.le_of_ble_eq_true rfl) rfl (fun M X hl => wX10_turnedBy X σ p1 p2 p3 hF)
noncomputable def fX10_turned (σ : gS) (p1 : Int32) (p2 : Int32) : Option (Int32) :=
  bd (fX10_pictureOf σ p1) fun r2 => gd (gb r2 12) <| nm (σ.1 27 r2.toNatClampNeg) fun v3 => bd (fX10_turnedBy σ p1 v3 p2) fun r5 => some r5
noncomputable abbrev rmX10_turned : Room := { frames := 1, cells := 0, slots := 0, locals := 26 }
set_option maxRecDepth 100000 in
set_option maxHeartbeats 4000000 in
theorem wX10_turned {M : gM} {G : gG} {out : Int32} (X : gX M G zM cX10_turned RX10 3 wsX10_turned rmX10_turned (some .int)) (σ : gS) (p1 : Int32) (p2 : Int32) (hF : fX10_turned σ p1 p2 = some out) : WW M (gQi M G zM out σ) G zM 3 σ 0 [(0, .ref (G.2.1 0)), (1, .int p1), (2, .int p2)] [] := by
  unfold fX10_turned at hF
  refine ww_aload_n (pc := 0) X (j := 0) dX10_turned_0 rfl rfl ?_
  refine ww_iload_n (pc := 1) X (j := 1) dX10_turned_1 rfl rfl ?_
  refine ww_aload_n (pc := 2) X (j := 0) dX10_turned_2 rfl rfl ?_
  refine ww_get (pc := 3) X (ref := "PictureBlockModel") (T := TX10) (j := 37) dX10_turned_3 inX10_turned_RX10 shzM_0 clzM_10 (by decide) rfl (List.mem_of_getElem? (i := 1) rfl) rfl ?_
  refine ww_aload_n (pc := 6) X (j := 0) dX10_turned_6 rfl rfl ?_
  refine ww_iload_n (pc := 7) X (j := 1) dX10_turned_7 rfl rfl ?_
  obtain ⟨r2, h1, hF⟩ := bd_some hF
  refine ww_callVi (pc := 8) X (As := [.int p1]) (rest := [.ref (G.2.1 27), .int p1, .ref (G.2.1 0)]) dX10_turned_8 (kX10_pictureOf (mL M) G X.2.2.2.2.2.2.1 X.2.2.2.2.2.2.2.1 σ p1 r2 h1) rfl shzM_0 clzM_10 gX10_turned_X10_pictureOf hyX10_pictureOf ⟨rfl, rfl⟩ ⟨Nat.le_of_ble_eq_true rfl, Nat.le_of_ble_eq_true rfl⟩ rfl rfl (Nat.le_of_ble_eq_true rfl) ?_
  refine ww_iald (pc := 11) X dX10_turned_11 shzM_27 rfl hF (fun v3 ev3 bv3 hF => ?_)
  refine ww_iload_n (pc := 12) X (j := 2) dX10_turned_12 rfl rfl ?_
  obtain ⟨r5, h4, hF⟩ := bd_some hF
  refine ww_callVi (pc := 13) X (As := [.int p1, .int v3, .int p2]) (rest := []) dX10_turned_13 (kX10_turnedBy (mL M) G X.2.2.2.2.2.2.1 X.2.2.2.2.2.2.2.1 σ p1 v3 p2 r5 h4) rfl shzM_0 clzM_10 gX10_turned_X10_turnedBy hyX10_turnedBy ⟨rfl, rfl⟩ ⟨Nat.le_of_ble_eq_true rfl, Nat.le_of_ble_eq_true rfl⟩ rfl rfl (Nat.le_of_ble_eq_true rfl) ?_
  exact ww_iret (pc := 16) X dX10_turned_16 (Option.some.inj hF) rfl
set_option maxRecDepth 100000 in
set_option maxHeartbeats 4000000 in
theorem kX10_turned (l : Launch) (G : gG) (hG : gOK G zM.1) (hT : G.2.2.1.map (fun q => q.2) = zM.2.1) (σ : gS) (p1 : Int32) (p2 : Int32) (out : Int32) (hF : fX10_turned σ p1 p2 = some out) : gCi l yX10_turned wsX10_turned rmX10_turned G zM [.ref (G.2.1 0), .int p1, .int p2] σ out σ :=
  gEnter (by decide) rfl ⟨rfl, rfl⟩ hG hT (Nat.le_of_ble_eq_true rfl) rfl (fun M X hl => wX10_turned X σ p1 p2 hF)
noncomputable def fX10_put (σ : gS) (p1 : Int32) (p2 : Int32) : Option (Int32) :=
  bd (fX10_pictureOf σ p1) fun r2 => gd (gb ((38 * p2) + r2) 76) <| nm (σ.1 28 ((38 * p2) + r2).toNatClampNeg) fun v3 => bd (fX10_turned σ p1 p2) fun r5 => some (v3 + r5)
noncomputable abbrev rmX10_put : Room := { frames := 2, cells := 0, slots := 0, locals := 48 }
set_option maxRecDepth 100000 in
set_option maxHeartbeats 4000000 in
theorem wX10_put {M : gM} {G : gG} {out : Int32} (X : gX M G zM cX10_put RX10 3 wsX10_put rmX10_put (some .int)) (σ : gS) (p1 : Int32) (p2 : Int32) (hF : fX10_put σ p1 p2 = some out) : WW M (gQi M G zM out σ) G zM 3 σ 0 [(0, .ref (G.2.1 0)), (1, .int p1), (2, .int p2)] [] := by
  unfold fX10_put at hF
  refine ww_aload_n (pc := 0) X (j := 0) dX10_put_0 rfl rfl ?_
  refine ww_get (pc := 1) X (ref := "PictureBlockModel") (T := TX10) (j := 38) dX10_put_1 inX10_put_RX10 shzM_0 clzM_10 (by decide) rfl (List.mem_of_getElem? (i := 1) rfl) rfl ?_
  refine ww_bipush (pc := 4) X (v := 38) dX10_put_4 (by decide) ?_
  refine ww_iload_n (pc := 6) X (j := 2) dX10_put_6 rfl rfl ?_
  refine ww_imul (pc := 7) X dX10_put_7 ?_
  refine ww_aload_n (pc := 8) X (j := 0) dX10_put_8 rfl rfl ?_
  refine ww_iload_n (pc := 9) X (j := 1) dX10_put_9 rfl rfl ?_
  obtain ⟨r2, h1, hF⟩ := bd_some hF
  refine ww_callVi (pc := 10) X (As := [.int p1]) (rest := [.int (38 * p2), .ref (G.2.1 28)]) dX10_put_10 (kX10_pictureOf (mL M) G X.2.2.2.2.2.2.1 X.2.2.2.2.2.2.2.1 σ p1 r2 h1) rfl shzM_0 clzM_10 gX10_put_X10_pictureOf hyX10_pictureOf ⟨rfl, rfl⟩ ⟨Nat.le_of_ble_eq_true rfl, Nat.le_of_ble_eq_true rfl⟩ rfl rfl (Nat.le_of_ble_eq_true rfl) ?_
  refine ww_iadd (pc := 13) X dX10_put_13 ?_
  refine ww_iald (pc := 14) X dX10_put_14 shzM_28 rfl hF (fun v3 ev3 bv3 hF => ?_)
  refine ww_aload_n (pc := 15) X (j := 0) dX10_put_15 rfl rfl ?_
  refine ww_iload_n (pc := 16) X (j := 1) dX10_put_16 rfl rfl ?_
  refine ww_iload_n (pc := 17) X (j := 2) dX10_put_17 rfl rfl ?_
  obtain ⟨r5, h4, hF⟩ := bd_some hF
  refine ww_callVi (pc := 18) X (As := [.int p1, .int p2]) (rest := [.int v3]) dX10_put_18 (kX10_turned (mL M) G X.2.2.2.2.2.2.1 X.2.2.2.2.2.2.2.1 σ p1 p2 r5 h4) rfl shzM_0 clzM_10 gX10_put_X10_turned hyX10_turned ⟨rfl, rfl⟩ ⟨Nat.le_of_ble_eq_true rfl, Nat.le_of_ble_eq_true rfl⟩ rfl rfl (Nat.le_of_ble_eq_true rfl) ?_
  refine ww_iadd (pc := 21) X dX10_put_21 ?_
  exact ww_iret (pc := 22) X dX10_put_22 (Option.some.inj hF) rfl
set_option maxRecDepth 100000 in
set_option maxHeartbeats 4000000 in
theorem kX10_put (l : Launch) (G : gG) (hG : gOK G zM.1) (hT : G.2.2.1.map (fun q => q.2) = zM.2.1) (σ : gS) (p1 : Int32) (p2 : Int32) (out : Int32) (hF : fX10_put σ p1 p2 = some out) : gCi l yX10_put wsX10_put rmX10_put G zM [.ref (G.2.1 0), .int p1, .int p2] σ out σ :=
  gEnter (by decide) rfl ⟨rfl, rfl⟩ hG hT (Nat.le_of_ble_eq_true rfl) rfl (fun M X hl => wX10_put X σ p1 p2 hF)
noncomputable def bX10_rowOf_2 (σ : gS) (c2_1 : Int32) (c2_2 : Int32) (rec2 : Int32 → Option (Int32)) (a3 : Int32) : Option (Int32) :=
  bd (fX10_rows σ) fun r3 => (if r3 ≤ a3 then some ((-1)) else gd (gb a3 60) <| nm (σ.1 26 a3.toNatClampNeg) fun v5 => (if v5 = 0 then bd (fX10_pictureOf σ a3) fun r9 => (if r9 = c2_1 then bd (fX10_pointOf σ a3) fun r13 => (if r13 = c2_2 then some a3 else nm (a3 + 1 : Int32) fun x15 => rec2 x15) else nm (a3 + 1 : Int32) fun x11 => rec2 x11) else nm (a3 + 1 : Int32) fun x7 => rec2 x7))
noncomputable def fX10_rowOf (σ : gS) (p1 : Int32) (p2 : Int32) : Option (Int32) :=
  nm (0 : Int32) fun x1 => lpc (S := Int32) K9 (fun rec s => bX10_rowOf_2 σ p1 p2 (fun a3 => rec (a3)) s) (x1)
noncomputable abbrev rmX10_rowOf : Room := { frames := 1, cells := 0, slots := 0, locals := 21 }
set_option maxRecDepth 100000 in
set_option maxHeartbeats 4000000 in
theorem wbX10_rowOf_2 {M : gM} {G : gG} {out : Int32} (X : gX M G zM cX10_rowOf RX10 4 wsX10_rowOf rmX10_rowOf (some .int)) (σ : gS) (c2_1 : Int32) (c2_2 : Int32) (rec2 : Int32 → Option (Int32)) (ih2 : ∀ (a3 : Int32), rec2 a3 = some out → WW M (gQi M G zM out σ) G zM 4 σ 2 [(0, .ref (G.2.1 0)), (1, .int c2_1), (2, .int c2_2), (3, .int a3)] []) (a3 : Int32) (hF : bX10_rowOf_2 σ c2_1 c2_2 rec2 a3 = some out) : WW M (gQi M G zM out σ) G zM 4 σ 2 [(0, .ref (G.2.1 0)), (1, .int c2_1), (2, .int c2_2), (3, .int a3)] [] := by
  unfold bX10_rowOf_2 at hF
  refine ww_iload_n (pc := 2) X (j := 3) dX10_rowOf_2 rfl rfl ?_
  refine ww_aload_n (pc := 3) X (j := 0) dX10_rowOf_3 rfl rfl ?_
  obtain ⟨r3, h2, hF⟩ := bd_some hF
  refine ww_callVi (pc := 4) X (As := []) (rest := [.int a3]) dX10_rowOf_4 (kX10_rows (mL M) G X.2.2.2.2.2.2.1 X.2.2.2.2.2.2.2.1 σ r3 h2) rfl shzM_0 clzM_10 gX10_rowOf_X10_rows hyX10_rows ⟨rfl, rfl⟩ ⟨Nat.le_of_ble_eq_true rfl, Nat.le_of_ble_eq_true rfl⟩ rfl rfl (Nat.le_of_ble_eq_true rfl) ?_
  refine ww_icmp_ge (pc := 7) (tgt := 45) X dX10_rowOf_7 (by decide) hF (fun h4 hF => ?_) (fun h4 hF => ?_)
  · refine ww_iconst (pc := 45) X (v := (-1)) dX10_rowOf_45 (by decide) ?_
    exact ww_iret (pc := 46) X dX10_rowOf_46 (Option.some.inj hF) rfl
  · refine ww_aload_n (pc := 10) X (j := 0) dX10_rowOf_10 rfl rfl ?_
    refine ww_get (pc := 11) X (ref := "PictureBlockModel") (T := TX10) (j := 35) dX10_rowOf_11 inX10_rowOf_RX10 shzM_0 clzM_10 (by decide) rfl (List.mem_of_getElem? (i := 1) rfl) rfl ?_
    refine ww_iload_n (pc := 14) X (j := 3) dX10_rowOf_14 rfl rfl ?_
    refine ww_zald (pc := 15) X dX10_rowOf_15 shzM_26 rfl hF (fun v5 ev5 bv5 hF => ?_)
    refine ww_if_ne (pc := 16) (tgt := 39) X dX10_rowOf_16 (by decide) hF (fun h6 hF => ?_) (fun h6 hF => ?_)
    · refine ww_iinc (pc := 39) X (j := 3) (v := 1) (lv' := [(0, .ref (G.2.1 0)), (1, .int c2_1), (2, .int c2_2)]) dX10_rowOf_39 rfl rfl (by decide) rfl hF (fun x7 ex7 hF => ?_)
      refine ww_goto (pc := 42) X (tgt := 2) dX10_rowOf_42 (by decide) ?_
      exact ww_sub [1, 2, 3, 0] rfl (ih2 x7 hF)
    · refine ww_aload_n (pc := 19) X (j := 0) dX10_rowOf_19 rfl rfl ?_
      refine ww_iload_n (pc := 20) X (j := 3) dX10_rowOf_20 rfl rfl ?_
      obtain ⟨r9, h8, hF⟩ := bd_some hF
      refine ww_callVi (pc := 21) X (As := [.int a3]) (rest := []) dX10_rowOf_21 (kX10_pictureOf (mL M) G X.2.2.2.2.2.2.1 X.2.2.2.2.2.2.2.1 σ a3 r9 h8) rfl shzM_0 clzM_10 gX10_rowOf_X10_pictureOf hyX10_pictureOf ⟨rfl, rfl⟩ ⟨Nat.le_of_ble_eq_true rfl, Nat.le_of_ble_eq_true rfl⟩ rfl rfl (Nat.le_of_ble_eq_true rfl) ?_
      refine ww_iload_n (pc := 24) X (j := 1) dX10_rowOf_24 rfl rfl ?_
      refine ww_icmp_ne (pc := 25) (tgt := 39) X dX10_rowOf_25 (by decide) hF (fun h10 hF => ?_) (fun h10 hF => ?_)
      · refine ww_iinc (pc := 39) X (j := 3) (v := 1) (lv' := [(0, .ref (G.2.1 0)), (1, .int c2_1), (2, .int c2_2)]) dX10_rowOf_39 rfl rfl (by decide) rfl hF (fun x11 ex11 hF => ?_)
        refine ww_goto (pc := 42) X (tgt := 2) dX10_rowOf_42 (by decide) ?_
        exact ww_sub [1, 2, 3, 0] rfl (ih2 x11 hF)
      · refine ww_aload_n (pc := 28) X (j := 0) dX10_rowOf_28 rfl rfl ?_
        refine ww_iload_n (pc := 29) X (j := 3) dX10_rowOf_29 rfl rfl ?_
        obtain ⟨r13, h12, hF⟩ := bd_some hF
        refine ww_callVi (pc := 30) X (As := [.int a3]) (rest := []) dX10_rowOf_30 (kX10_pointOf (mL M) G X.2.2.2.2.2.2.1 X.2.2.2.2.2.2.2.1 σ a3 r13 h12) rfl shzM_0 clzM_10 gX10_rowOf_X10_pointOf hyX10_pointOf ⟨rfl, rfl⟩ ⟨Nat.le_of_ble_eq_true rfl, Nat.le_of_ble_eq_true rfl⟩ rfl rfl (Nat.le_of_ble_eq_true rfl) ?_
        refine ww_iload_n (pc := 33) X (j := 2) dX10_rowOf_33 rfl rfl ?_
        refine ww_icmp_ne (pc := 34) (tgt := 39) X dX10_rowOf_34 (by decide) hF (fun h14 hF => ?_) (fun h14 hF => ?_)
        · refine ww_iinc (pc := 39) X (j := 3) (v := 1) (lv' := [(0, .ref (G.2.1 0)), (1, .int c2_1), (2, .int c2_2)]) dX10_rowOf_39 rfl rfl (by decide) rfl hF (fun x15 ex15 hF => ?_)
          refine ww_goto (pc := 42) X (tgt := 2) dX10_rowOf_42 (by decide) ?_
          exact ww_sub [1, 2, 3, 0] rfl (ih2 x15 hF)
        · refine ww_iload_n (pc := 37) X (j := 3) dX10_rowOf_37 rfl rfl ?_
          exact ww_iret (pc := 38) X dX10_rowOf_38 (Option.some.inj hF) rfl
set_option maxRecDepth 100000 in
set_option maxHeartbeats 4000000 in
theorem wX10_rowOf {M : gM} {G : gG} {out : Int32} (X : gX M G zM cX10_rowOf RX10 4 wsX10_rowOf rmX10_rowOf (some .int)) (σ : gS) (p1 : Int32) (p2 : Int32) (hF : fX10_rowOf σ p1 p2 = some out) : WW M (gQi M G zM out σ) G zM 4 σ 0 [(0, .ref (G.2.1 0)), (1, .int p1), (2, .int p2)] [] := by
  unfold fX10_rowOf at hF
  refine ww_iconst (pc := 0) X (v := 0) dX10_rowOf_0 (by decide) ?_
  refine ww_istore_n (pc := 1) X (lv' := [(0, .ref (G.2.1 0)), (1, .int p1), (2, .int p2)]) dX10_rowOf_1 rfl (by decide) rfl hF (fun x1 ex1 hF => ?_)
  exact ww_sub [1, 2, 3, 0] rfl (lpc_ind (P := (fun (s : Int32) => WW M (gQi M G zM out σ) G zM 4 σ 2 [(0, .ref (G.2.1 0)), (1, .int p1), (2, .int p2), (3, .int s)] [])) (fun rec s ih hF => wbX10_rowOf_2 X σ p1 p2 (fun a3 => rec (a3)) (fun a3 h => ih (a3) h) s hF) K9 (x1) hF)
set_option maxRecDepth 100000 in
set_option maxHeartbeats 4000000 in
theorem kX10_rowOf (l : Launch) (G : gG) (hG : gOK G zM.1) (hT : G.2.2.1.map (fun q => q.2) = zM.2.1) (σ : gS) (p1 : Int32) (p2 : Int32) (out : Int32) (hF : fX10_rowOf σ p1 p2 = some out) : gCi l yX10_rowOf wsX10_rowOf rmX10_rowOf G zM [.ref (G.2.1 0), .int p1, .int p2] σ out σ :=
  gEnter (by decide) rfl ⟨rfl, rfl⟩ hG hT (Nat.le_of_ble_eq_true rfl) rfl (fun M X hl => wX10_rowOf X σ p1 p2 hF)
noncomputable def bX10_sharedMany_4 (σ : gS) (c4_1 : Int32) (rec4 : Int32 → Int32 → Option (Int32)) (a2 : Int32) (a3 : Int32) : Option (Int32) :=
  bd (fX10_points σ) fun r4 => (if r4 ≤ a3 then some a2 else bd (fX10_rowOf σ c4_1 a3) fun r7 => (if r7 = ((-1)) then nm (a3 + 1 : Int32) fun x9 => rec4 a2 x9 else bd (fX10_startedRow σ a3) fun r11 => (if r11 = ((-1)) then nm (a3 + 1 : Int32) fun x13 => rec4 a2 x13 else nm (a2 + 1 : Int32) fun x14 => nm (a3 + 1 : Int32) fun x15 => rec4 x14 x15)))
noncomputable def fX10_sharedMany (σ : gS) (p1 : Int32) : Option (Int32) :=
  nm (0 : Int32) fun x1 => nm (0 : Int32) fun x2 => lpc (S := Int32 × Int32) K9 (fun rec s => bX10_sharedMany_4 σ p1 (fun a2 a3 => rec (a2, a3)) s.1 s.2) (x1, x2)
noncomputable abbrev rmX10_sharedMany : Room := { frames := 2, cells := 0, slots := 0, locals := 44 }
set_option maxRecDepth 100000 in
set_option maxHeartbeats 4000000 in
theorem wbX10_sharedMany_4 {M : gM} {G : gG} {out : Int32} (X : gX M G zM cX10_sharedMany RX10 4 wsX10_sharedMany rmX10_sharedMany (some .int)) (σ : gS) (c4_1 : Int32) (rec4 : Int32 → Int32 → Option (Int32)) (ih4 : ∀ (a2 : Int32) (a3 : Int32), rec4 a2 a3 = some out → WW M (gQi M G zM out σ) G zM 4 σ 4 [(0, .ref (G.2.1 0)), (1, .int c4_1), (2, .int a2), (3, .int a3)] []) (a2 : Int32) (a3 : Int32) (hF : bX10_sharedMany_4 σ c4_1 rec4 a2 a3 = some out) : WW M (gQi M G zM out σ) G zM 4 σ 4 [(0, .ref (G.2.1 0)), (1, .int c4_1), (2, .int a2), (3, .int a3)] [] := by
  unfold bX10_sharedMany_4 at hF
  refine ww_iload_n (pc := 4) X (j := 3) dX10_sharedMany_4 rfl rfl ?_
  refine ww_aload_n (pc := 5) X (j := 0) dX10_sharedMany_5 rfl rfl ?_
  obtain ⟨r4, h3, hF⟩ := bd_some hF
  refine ww_callVi (pc := 6) X (As := []) (rest := [.int a3]) dX10_sharedMany_6 (kX10_points (mL M) G X.2.2.2.2.2.2.1 X.2.2.2.2.2.2.2.1 σ r4 h3) rfl shzM_0 clzM_10 gX10_sharedMany_X10_points hyX10_points ⟨rfl, rfl⟩ ⟨Nat.le_of_ble_eq_true rfl, Nat.le_of_ble_eq_true rfl⟩ rfl rfl (Nat.le_of_ble_eq_true rfl) ?_
  refine ww_icmp_ge (pc := 9) (tgt := 40) X dX10_sharedMany_9 (by decide) hF (fun h5 hF => ?_) (fun h5 hF => ?_)
  · refine ww_iload_n (pc := 40) X (j := 2) dX10_sharedMany_40 rfl rfl ?_
    exact ww_iret (pc := 41) X dX10_sharedMany_41 (Option.some.inj hF) rfl
  · refine ww_aload_n (pc := 12) X (j := 0) dX10_sharedMany_12 rfl rfl ?_
    refine ww_iload_n (pc := 13) X (j := 1) dX10_sharedMany_13 rfl rfl ?_
    refine ww_iload_n (pc := 14) X (j := 3) dX10_sharedMany_14 rfl rfl ?_
    obtain ⟨r7, h6, hF⟩ := bd_some hF
    refine ww_callVi (pc := 15) X (As := [.int c4_1, .int a3]) (rest := []) dX10_sharedMany_15 (kX10_rowOf (mL M) G X.2.2.2.2.2.2.1 X.2.2.2.2.2.2.2.1 σ c4_1 a3 r7 h6) rfl shzM_0 clzM_10 gX10_sharedMany_X10_rowOf hyX10_rowOf ⟨rfl, rfl⟩ ⟨Nat.le_of_ble_eq_true rfl, Nat.le_of_ble_eq_true rfl⟩ rfl rfl (Nat.le_of_ble_eq_true rfl) ?_
    refine ww_iconst (pc := 18) X (v := (-1)) dX10_sharedMany_18 (by decide) ?_
    refine ww_icmp_eq (pc := 19) (tgt := 34) X dX10_sharedMany_19 (by decide) hF (fun h8 hF => ?_) (fun h8 hF => ?_)
    · refine ww_iinc (pc := 34) X (j := 3) (v := 1) (lv' := [(0, .ref (G.2.1 0)), (1, .int c4_1), (2, .int a2)]) dX10_sharedMany_34 rfl rfl (by decide) rfl hF (fun x9 ex9 hF => ?_)
      refine ww_goto (pc := 37) X (tgt := 4) dX10_sharedMany_37 (by decide) ?_
      exact ww_sub [1, 2, 3, 0] rfl (ih4 a2 x9 hF)
    · refine ww_aload_n (pc := 22) X (j := 0) dX10_sharedMany_22 rfl rfl ?_
      refine ww_iload_n (pc := 23) X (j := 3) dX10_sharedMany_23 rfl rfl ?_
      obtain ⟨r11, h10, hF⟩ := bd_some hF
      refine ww_callVi (pc := 24) X (As := [.int a3]) (rest := []) dX10_sharedMany_24 (kX10_startedRow (mL M) G X.2.2.2.2.2.2.1 X.2.2.2.2.2.2.2.1 σ a3 r11 h10) rfl shzM_0 clzM_10 gX10_sharedMany_X10_startedRow hyX10_startedRow ⟨rfl, rfl⟩ ⟨Nat.le_of_ble_eq_true rfl, Nat.le_of_ble_eq_true rfl⟩ rfl rfl (Nat.le_of_ble_eq_true rfl) ?_
      refine ww_iconst (pc := 27) X (v := (-1)) dX10_sharedMany_27 (by decide) ?_
      refine ww_icmp_eq (pc := 28) (tgt := 34) X dX10_sharedMany_28 (by decide) hF (fun h12 hF => ?_) (fun h12 hF => ?_)
      · refine ww_iinc (pc := 34) X (j := 3) (v := 1) (lv' := [(0, .ref (G.2.1 0)), (1, .int c4_1), (2, .int a2)]) dX10_sharedMany_34 rfl rfl (by decide) rfl hF (fun x13 ex13 hF => ?_)
        refine ww_goto (pc := 37) X (tgt := 4) dX10_sharedMany_37 (by decide) ?_
        exact ww_sub [1, 2, 3, 0] rfl (ih4 a2 x13 hF)
      · refine ww_iinc (pc := 31) X (j := 2) (v := 1) (lv' := [(0, .ref (G.2.1 0)), (1, .int c4_1), (3, .int a3)]) dX10_sharedMany_31 rfl rfl (by decide) rfl hF (fun x14 ex14 hF => ?_)
        refine ww_iinc (pc := 34) X (j := 3) (v := 1) (lv' := [(2, .int x14), (0, .ref (G.2.1 0)), (1, .int c4_1)]) dX10_sharedMany_34 rfl rfl (by decide) rfl hF (fun x15 ex15 hF => ?_)
        refine ww_goto (pc := 37) X (tgt := 4) dX10_sharedMany_37 (by decide) ?_
        exact ww_sub [2, 3, 1, 0] rfl (ih4 x14 x15 hF)
set_option maxRecDepth 100000 in
set_option maxHeartbeats 4000000 in
theorem wX10_sharedMany {M : gM} {G : gG} {out : Int32} (X : gX M G zM cX10_sharedMany RX10 4 wsX10_sharedMany rmX10_sharedMany (some .int)) (σ : gS) (p1 : Int32) (hF : fX10_sharedMany σ p1 = some out) : WW M (gQi M G zM out σ) G zM 4 σ 0 [(0, .ref (G.2.1 0)), (1, .int p1)] [] := by
  unfold fX10_sharedMany at hF
  refine ww_iconst (pc := 0) X (v := 0) dX10_sharedMany_0 (by decide) ?_
  refine ww_istore_n (pc := 1) X (lv' := [(0, .ref (G.2.1 0)), (1, .int p1)]) dX10_sharedMany_1 rfl (by decide) rfl hF (fun x1 ex1 hF => ?_)
  refine ww_iconst (pc := 2) X (v := 0) dX10_sharedMany_2 (by decide) ?_
  refine ww_istore_n (pc := 3) X (lv' := [(2, .int x1), (0, .ref (G.2.1 0)), (1, .int p1)]) dX10_sharedMany_3 rfl (by decide) rfl hF (fun x2 ex2 hF => ?_)
  exact ww_sub [2, 3, 1, 0] rfl (lpc_ind (P := (fun (s : Int32 × Int32) => WW M (gQi M G zM out σ) G zM 4 σ 4 [(0, .ref (G.2.1 0)), (1, .int p1), (2, .int s.1), (3, .int s.2)] [])) (fun rec s ih hF => wbX10_sharedMany_4 X σ p1 (fun a2 a3 => rec (a2, a3)) (fun a2 a3 h => ih (a2, a3) h) s.1 s.2 hF) K9 (x1, x2) hF)
set_option maxRecDepth 100000 in
set_option maxHeartbeats 4000000 in
theorem kX10_sharedMany (l : Launch) (G : gG) (hG : gOK G zM.1) (hT : G.2.2.1.map (fun q => q.2) = zM.2.1) (σ : gS) (p1 : Int32) (out : Int32) (hF : fX10_sharedMany σ p1 = some out) : gCi l yX10_sharedMany wsX10_sharedMany rmX10_sharedMany G zM [.ref (G.2.1 0), .int p1] σ out σ :=
  gEnter (by decide) rfl ⟨rfl, rfl⟩ hG hT (Nat.le_of_ble_eq_true rfl) rfl (fun M X hl => wX10_sharedMany X σ p1 hF)
noncomputable def jX10_nextStarted_42 (σ : gS) (rec2 : Int32 → Option (Int32)) (a1 : Int32) (z0 : Int32) (z1 : Int32) : Option (Int32) :=
  if z1 < z0 then nm (a1 + 1 : Int32) fun x13 => rec2 x13 else some a1
noncomputable def bX10_nextStarted_2 (σ : gS) (rec2 : Int32 → Option (Int32)) (a1 : Int32) : Option (Int32) :=
  bd (fX10_pictures σ) fun r3 => (if r3 ≤ a1 then some ((-1)) else gd (gb a1 12) <| nm (σ.1 29 a1.toNatClampNeg) fun v5 => (if v5 = 0 then bd (fX10_sharedMany σ a1) fun r9 => gd (gb (12 + a1) 24) <| nm (σ.1 17 (12 + a1).toNatClampNeg) fun v10 => (if v10 = 4 then jX10_nextStarted_42 σ rec2 a1 2 r9 else jX10_nextStarted_42 σ rec2 a1 1 r9) else nm (a1 + 1 : Int32) fun x7 => rec2 x7))
noncomputable def fX10_nextStarted (σ : gS) : Option (Int32) :=
  nm (0 : Int32) fun x1 => lpc (S := Int32) K9 (fun rec s => bX10_nextStarted_2 σ (fun a1 => rec (a1)) s) (x1)
noncomputable abbrev rmX10_nextStarted : Room := { frames := 3, cells := 0, slots := 0, locals := 67 }
set_option maxRecDepth 100000 in
set_option maxHeartbeats 4000000 in
theorem wjX10_nextStarted_42 {M : gM} {G : gG} {out : Int32} (X : gX M G zM cX10_nextStarted RX10 2 wsX10_nextStarted rmX10_nextStarted (some .int)) (σ : gS) (rec2 : Int32 → Option (Int32)) (ih2 : ∀ (a1 : Int32), rec2 a1 = some out → WW M (gQi M G zM out σ) G zM 2 σ 2 [(0, .ref (G.2.1 0)), (1, .int a1)] []) (a1 : Int32) (z0 : Int32) (z1 : Int32) (hF : jX10_nextStarted_42 σ rec2 a1 z0 z1 = some out) : WW M (gQi M G zM out σ) G zM 2 σ 42 [(0, .ref (G.2.1 0)), (1, .int a1)] [.int z0, .int z1] := by
  unfold jX10_nextStarted_42 at hF
  refine ww_icmp_lt (pc := 42) (tgt := 47) X dX10_nextStarted_42 (by decide) hF (fun h12 hF => ?_) (fun h12 hF => ?_)
  · refine ww_iinc (pc := 47) X (j := 1) (v := 1) (lv' := [(0, .ref (G.2.1 0))]) dX10_nextStarted_47 rfl rfl (by decide) rfl hF (fun x13 ex13 hF => ?_)
    refine ww_goto (pc := 50) X (tgt := 2) dX10_nextStarted_50 (by decide) ?_
    exact ww_sub [1, 0] rfl (ih2 x13 hF)
  · refine ww_iload_n (pc := 45) X (j := 1) dX10_nextStarted_45 rfl rfl ?_
    exact ww_iret (pc := 46) X dX10_nextStarted_46 (Option.some.inj hF) rfl
set_option maxRecDepth 100000 in
set_option maxHeartbeats 4000000 in
theorem wbX10_nextStarted_2 {M : gM} {G : gG} {out : Int32} (X : gX M G zM cX10_nextStarted RX10 2 wsX10_nextStarted rmX10_nextStarted (some .int)) (σ : gS) (rec2 : Int32 → Option (Int32)) (ih2 : ∀ (a1 : Int32), rec2 a1 = some out → WW M (gQi M G zM out σ) G zM 2 σ 2 [(0, .ref (G.2.1 0)), (1, .int a1)] []) (a1 : Int32) (hF : bX10_nextStarted_2 σ rec2 a1 = some out) : WW M (gQi M G zM out σ) G zM 2 σ 2 [(0, .ref (G.2.1 0)), (1, .int a1)] [] := by
  unfold bX10_nextStarted_2 at hF
  refine ww_iload_n (pc := 2) X (j := 1) dX10_nextStarted_2 rfl rfl ?_
  refine ww_aload_n (pc := 3) X (j := 0) dX10_nextStarted_3 rfl rfl ?_
  obtain ⟨r3, h2, hF⟩ := bd_some hF
  refine ww_callVi (pc := 4) X (As := []) (rest := [.int a1]) dX10_nextStarted_4 (kX10_pictures (mL M) G X.2.2.2.2.2.2.1 X.2.2.2.2.2.2.2.1 σ r3 h2) rfl shzM_0 clzM_10 gX10_nextStarted_X10_pictures hyX10_pictures ⟨rfl, rfl⟩ ⟨Nat.le_of_ble_eq_true rfl, Nat.le_of_ble_eq_true rfl⟩ rfl rfl (Nat.le_of_ble_eq_true rfl) ?_
  refine ww_icmp_ge (pc := 7) (tgt := 53) X dX10_nextStarted_7 (by decide) hF (fun h4 hF => ?_) (fun h4 hF => ?_)
  · refine ww_iconst (pc := 53) X (v := (-1)) dX10_nextStarted_53 (by decide) ?_
    exact ww_iret (pc := 54) X dX10_nextStarted_54 (Option.some.inj hF) rfl
  · refine ww_aload_n (pc := 10) X (j := 0) dX10_nextStarted_10 rfl rfl ?_
    refine ww_get (pc := 11) X (ref := "PictureBlockModel") (T := TX10) (j := 39) dX10_nextStarted_11 inX10_nextStarted_RX10 shzM_0 clzM_10 (by decide) rfl (List.mem_of_getElem? (i := 1) rfl) rfl ?_
    refine ww_iload_n (pc := 14) X (j := 1) dX10_nextStarted_14 rfl rfl ?_
    refine ww_zald (pc := 15) X dX10_nextStarted_15 shzM_29 rfl hF (fun v5 ev5 bv5 hF => ?_)
    refine ww_if_ne (pc := 16) (tgt := 47) X dX10_nextStarted_16 (by decide) hF (fun h6 hF => ?_) (fun h6 hF => ?_)
    · refine ww_iinc (pc := 47) X (j := 1) (v := 1) (lv' := [(0, .ref (G.2.1 0))]) dX10_nextStarted_47 rfl rfl (by decide) rfl hF (fun x7 ex7 hF => ?_)
      refine ww_goto (pc := 50) X (tgt := 2) dX10_nextStarted_50 (by decide) ?_
      exact ww_sub [1, 0] rfl (ih2 x7 hF)
    · refine ww_aload_n (pc := 19) X (j := 0) dX10_nextStarted_19 rfl rfl ?_
      refine ww_iload_n (pc := 20) X (j := 1) dX10_nextStarted_20 rfl rfl ?_
      obtain ⟨r9, h8, hF⟩ := bd_some hF
      refine ww_callVi (pc := 21) X (As := [.int a1]) (rest := []) dX10_nextStarted_21 (kX10_sharedMany (mL M) G X.2.2.2.2.2.2.1 X.2.2.2.2.2.2.2.1 σ a1 r9 h8) rfl shzM_0 clzM_10 gX10_nextStarted_X10_sharedMany hyX10_sharedMany ⟨rfl, rfl⟩ ⟨Nat.le_of_ble_eq_true rfl, Nat.le_of_ble_eq_true rfl⟩ rfl rfl (Nat.le_of_ble_eq_true rfl) ?_
      refine ww_aload_n (pc := 24) X (j := 0) dX10_nextStarted_24 rfl rfl ?_
      refine ww_get (pc := 25) X (ref := "PictureBlockModel") (T := TX10) (j := 25) dX10_nextStarted_25 inX10_nextStarted_RX10 shzM_0 clzM_10 (by decide) rfl (List.mem_of_getElem? (i := 2) rfl) rfl ?_
      refine ww_bipush (pc := 28) X (v := 12) dX10_nextStarted_28 (by decide) ?_
      refine ww_iload_n (pc := 30) X (j := 1) dX10_nextStarted_30 rfl rfl ?_
      refine ww_iadd (pc := 31) X dX10_nextStarted_31 ?_
      refine ww_iald (pc := 32) X dX10_nextStarted_32 shzM_17 rfl hF (fun v10 ev10 bv10 hF => ?_)
      refine ww_iconst (pc := 33) X (v := 4) dX10_nextStarted_33 (by decide) ?_
      refine ww_icmp_ne (pc := 34) (tgt := 41) X dX10_nextStarted_34 (by decide) hF (fun h11 hF => ?_) (fun h11 hF => ?_)
      · refine ww_iconst (pc := 41) X (v := 1) dX10_nextStarted_41 (by decide) ?_
        exact ww_sub [0, 1] rfl (wjX10_nextStarted_42 X σ rec2 ih2 a1 1 r9 hF)
      · refine ww_iconst (pc := 37) X (v := 2) dX10_nextStarted_37 (by decide) ?_
        refine ww_goto (pc := 38) X (tgt := 42) dX10_nextStarted_38 (by decide) ?_
        exact ww_sub [0, 1] rfl (wjX10_nextStarted_42 X σ rec2 ih2 a1 2 r9 hF)
set_option maxRecDepth 100000 in
set_option maxHeartbeats 4000000 in
theorem wX10_nextStarted {M : gM} {G : gG} {out : Int32} (X : gX M G zM cX10_nextStarted RX10 2 wsX10_nextStarted rmX10_nextStarted (some .int)) (σ : gS) (hF : fX10_nextStarted σ = some out) : WW M (gQi M G zM out σ) G zM 2 σ 0 [(0, .ref (G.2.1 0))] [] := by
  unfold fX10_nextStarted at hF
  refine ww_iconst (pc := 0) X (v := 0) dX10_nextStarted_0 (by decide) ?_
  refine ww_istore_n (pc := 1) X (lv' := [(0, .ref (G.2.1 0))]) dX10_nextStarted_1 rfl (by decide) rfl hF (fun x1 ex1 hF => ?_)
  exact ww_sub [1, 0] rfl (lpc_ind (P := (fun (s : Int32) => WW M (gQi M G zM out σ) G zM 2 σ 2 [(0, .ref (G.2.1 0)), (1, .int s)] [])) (fun rec s ih hF => wbX10_nextStarted_2 X σ (fun a1 => rec (a1)) (fun a1 h => ih (a1) h) s hF) K9 (x1) hF)
set_option maxRecDepth 100000 in
set_option maxHeartbeats 4000000 in
theorem kX10_nextStarted (l : Launch) (G : gG) (hG : gOK G zM.1) (hT : G.2.2.1.map (fun q => q.2) = zM.2.1) (σ : gS) (out : Int32) (hF : fX10_nextStarted σ = some out) : gCi l yX10_nextStarted wsX10_nextStarted rmX10_nextStarted G zM [.ref (G.2.1 0)] σ out σ :=
  gEnter (by decide) rfl ⟨rfl, rfl⟩ hG hT (Nat.le_of_ble_eq_true rfl) rfl (fun M X hl => wX10_nextStarted X σ hF)
noncomputable def fX10_apart (σ : gS) (p0 : Int64) (p2 : Int64) : Option (Int64) :=
  if p0 ≤ p2 then some (p2 - p0) else some (p0 - p2)
noncomputable abbrev rmX10_apart : Room := { frames := 0, cells := 0, slots := 0, locals := 0 }
set_option maxRecDepth 100000 in
set_option maxHeartbeats 4000000 in
theorem wX10_apart {M : gM} {G : gG} {out : Int64} (X : gX M G zM cX10_apart RX10 4 wsX10_apart rmX10_apart (some .long)) (σ : gS) (p0 : Int64) (p2 : Int64) (hF : fX10_apart σ p0 p2 = some out) : WW M (gQl M G zM out σ) G zM 4 σ 0 [(0, .long p0), (2, .long p2)] [] := by
  unfold fX10_apart at hF
  refine ww_lload_n (pc := 0) X (j := 0) dX10_apart_0 rfl rfl ?_
  refine ww_lload_n (pc := 1) X (j := 1) dX10_apart_1 rfl rfl ?_
  refine ww_lcmp_le (pc := 2) (tgt := 12) X dX10_apart_2 dX10_apart_3 (by decide) hF (fun h1 hF => ?_) (fun h1 hF => ?_)
  · refine ww_lload_n (pc := 12) X (j := 1) dX10_apart_12 rfl rfl ?_
    refine ww_lload_n (pc := 13) X (j := 0) dX10_apart_13 rfl rfl ?_
    refine ww_lsub (pc := 14) X dX10_apart_14 ?_
    exact ww_lret (pc := 15) X dX10_apart_15 (Option.some.inj hF) rfl
  · refine ww_lload_n (pc := 6) X (j := 0) dX10_apart_6 rfl rfl ?_
    refine ww_lload_n (pc := 7) X (j := 1) dX10_apart_7 rfl rfl ?_
    refine ww_lsub (pc := 8) X dX10_apart_8 ?_
    refine ww_goto (pc := 9) X (tgt := 15) dX10_apart_9 (by decide) ?_
    exact ww_lret (pc := 15) X dX10_apart_15 (Option.some.inj hF) rfl
set_option maxRecDepth 100000 in
set_option maxHeartbeats 4000000 in
theorem kX10_apart (l : Launch) (G : gG) (hG : gOK G zM.1) (hT : G.2.2.1.map (fun q => q.2) = zM.2.1) (σ : gS) (p0 : Int64) (p2 : Int64) (out : Int64) (hF : fX10_apart σ p0 p2 = some out) : gCl l yX10_apart wsX10_apart rmX10_apart G zM [.long p0, .long p2] σ out σ :=
  gEnter (by decide) rfl ⟨rfl, rfl⟩ hG hT (Nat.le_of_ble_eq_true rfl) rfl (fun M X hl => wX10_apart X σ p0 p2 hF)
noncomputable def bX10_unlike_60 (σ : gS) (c8_1 : Int32) (c8_2 : Int32) (c60_3 : Int32) (c60_6 : Int32) (c60_7 : Int32) (c60_8 : Int32) (rec8 : Int32 → Int64 → Int32 → Option (Int64)) (rec60 : Int64 → Int32 → Option (Int64)) (a4 : Int64) (a9 : Int32) : Option (Int64) :=
  if 2 ≤ a9 then nm (c60_6 + 1 : Int32) fun x19 => rec8 c60_3 a4 x19 else bd (fX10_turnedBy σ c60_7 c8_2 a9) fun r21 => bd (fX10_rowOf σ c8_1 c60_3) fun r23 => bd (fX10_turnedBy σ r23 c8_2 a9) fun r25 => bd (fX10_put σ c60_8 a9) fun r27 => bd (fX10_startedRow σ c60_3) fun r29 => bd (fX10_put σ r29 a9) fun r31 => bd (fX10_apart σ ((r21 - r25).toInt64) ((r27 - r31).toInt64)) fun r33 => nm (a4 + r33 : Int64) fun x34 => nm (a9 + 1 : Int32) fun x35 => rec60 x34 x35
noncomputable def bX10_unlike_8 (σ : gS) (c8_1 : Int32) (c8_2 : Int32) (rec8 : Int32 → Int64 → Int32 → Option (Int64)) (a3 : Int32) (a4 : Int64) (a6 : Int32) : Option (Int64) :=
  bd (fX10_points σ) fun r5 => (if r5 ≤ a6 then some a4 else bd (fX10_rowOf σ c8_1 a6) fun r8 => nm (r8 : Int32) fun x9 => bd (fX10_startedRow σ a6) fun r11 => nm (r11 : Int32) fun x12 => (if x9 = ((-1)) then nm (a6 + 1 : Int32) fun x14 => rec8 a3 a4 x14 else if x12 = ((-1)) then nm (a6 + 1 : Int32) fun x38 => rec8 a3 a4 x38 else if a3 = ((-1)) then nm (a6 : Int32) fun x36 => nm (0 : Int32) fun x37 => lpc (S := Int64 × Int32) K9 (fun rec s => bX10_unlike_60 σ c8_1 c8_2 x36 a6 x9 x12 rec8 (fun a4 a9 => rec (a4, a9)) s.1 s.2) (a4, x37) else nm (0 : Int32) fun x17 => lpc (S := Int64 × Int32) K9 (fun rec s => bX10_unlike_60 σ c8_1 c8_2 a3 a6 x9 x12 rec8 (fun a4 a9 => rec (a4, a9)) s.1 s.2) (a4, x17)))
noncomputable def fX10_unlike (σ : gS) (p1 : Int32) (p2 : Int32) : Option (Int64) :=
  nm ((-1) : Int32) fun x1 => nm (0 : Int64) fun x2 => nm (0 : Int32) fun x3 => lpc (S := Int32 × Int64 × Int32) K9 (fun rec s => bX10_unlike_8 σ p1 p2 (fun a3 a4 a6 => rec (a3, a4, a6)) s.1 s.2.1 s.2.2) (x1, x2, x3)
noncomputable abbrev rmX10_unlike : Room := { frames := 3, cells := 0, slots := 0, locals := 70 }
set_option maxRecDepth 100000 in
set_option maxHeartbeats 4000000 in
theorem wbX10_unlike_60 {M : gM} {G : gG} {out : Int64} (X : gX M G zM cX10_unlike RX10 10 wsX10_unlike rmX10_unlike (some .long)) (σ : gS) (c8_1 : Int32) (c8_2 : Int32) (c60_3 : Int32) (c60_6 : Int32) (c60_7 : Int32) (c60_8 : Int32) (rec8 : Int32 → Int64 → Int32 → Option (Int64)) (ih8 : ∀ (a3 : Int32) (a4 : Int64) (a6 : Int32), rec8 a3 a4 a6 = some out → WW M (gQl M G zM out σ) G zM 10 σ 8 [(0, .ref (G.2.1 0)), (1, .int c8_1), (2, .int c8_2), (3, .int a3), (4, .long a4), (6, .int a6)] []) (rec60 : Int64 → Int32 → Option (Int64)) (ih60 : ∀ (a4 : Int64) (a9 : Int32), rec60 a4 a9 = some out → WW M (gQl M G zM out σ) G zM 10 σ 60 [(0, .ref (G.2.1 0)), (1, .int c8_1), (2, .int c8_2), (3, .int c60_3), (4, .long a4), (6, .int c60_6), (7, .int c60_7), (8, .int c60_8), (9, .int a9)] []) (a4 : Int64) (a9 : Int32) (hF : bX10_unlike_60 σ c8_1 c8_2 c60_3 c60_6 c60_7 c60_8 rec8 rec60 a4 a9 = some out) : WW M (gQl M G zM out σ) G zM 10 σ 60 [(0, .ref (G.2.1 0)), (1, .int c8_1), (2, .int c8_2), (3, .int c60_3), (4, .long a4), (6, .int c60_6), (7, .int c60_7), (8, .int c60_8), (9, .int a9)] [] := by
  unfold bX10_unlike_60 at hF
  refine ww_iload (pc := 60) X (j := 8) dX10_unlike_60 rfl ?_
  refine ww_iconst (pc := 62) X (v := 2) dX10_unlike_62 (by decide) ?_
  refine ww_icmp_ge (pc := 63) (tgt := 125) X dX10_unlike_63 (by decide) hF (fun h18 hF => ?_) (fun h18 hF => ?_)
  · refine ww_iinc (pc := 125) X (j := 5) (v := 1) (lv' := [(0, .ref (G.2.1 0)), (1, .int c8_1), (2, .int c8_2), (3, .int c60_3), (4, .long a4), (7, .int c60_7), (8, .int c60_8), (9, .int a9)]) dX10_unlike_125 rfl rfl (by decide) rfl hF (fun x19 ex19 hF => ?_)
    refine ww_goto (pc := 128) X (tgt := 8) dX10_unlike_128 (by decide) ?_
    exact ww_sub [1, 2, 3, 4, 5, 0] rfl (ih8 c60_3 a4 x19 hF)
  · refine ww_lload (pc := 66) X (j := 4) dX10_unlike_66 rfl ?_
    refine ww_aload_n (pc := 68) X (j := 0) dX10_unlike_68 rfl rfl ?_
    refine ww_iload (pc := 69) X (j := 6) dX10_unlike_69 rfl ?_
    refine ww_iload_n (pc := 71) X (j := 2) dX10_unlike_71 rfl rfl ?_
    refine ww_iload (pc := 72) X (j := 8) dX10_unlike_72 rfl ?_
    obtain ⟨r21, h20, hF⟩ := bd_some hF
    refine ww_callVi (pc := 74) X (As := [.int c60_7, .int c8_2, .int a9]) (rest := [.long a4]) dX10_unlike_74 (kX10_turnedBy (mL M) G X.2.2.2.2.2.2.1 X.2.2.2.2.2.2.2.1 σ c60_7 c8_2 a9 r21 h20) rfl shzM_0 clzM_10 gX10_unlike_X10_turnedBy hyX10_turnedBy ⟨rfl, rfl⟩ ⟨Nat.le_of_ble_eq_true rfl, Nat.le_of_ble_eq_true rfl⟩ rfl rfl (Nat.le_of_ble_eq_true rfl) ?_
    refine ww_aload_n (pc := 77) X (j := 0) dX10_unlike_77 rfl rfl ?_
    refine ww_aload_n (pc := 78) X (j := 0) dX10_unlike_78 rfl rfl ?_
    refine ww_iload_n (pc := 79) X (j := 1) dX10_unlike_79 rfl rfl ?_
    refine ww_iload_n (pc := 80) X (j := 3) dX10_unlike_80 rfl rfl ?_
    obtain ⟨r23, h22, hF⟩ := bd_some hF
    refine ww_callVi (pc := 81) X (As := [.int c8_1, .int c60_3]) (rest := [.ref (G.2.1 0), .int r21, .long a4]) dX10_unlike_81 (kX10_rowOf (mL M) G X.2.2.2.2.2.2.1 X.2.2.2.2.2.2.2.1 σ c8_1 c60_3 r23 h22) rfl shzM_0 clzM_10 gX10_unlike_X10_rowOf hyX10_rowOf ⟨rfl, rfl⟩ ⟨Nat.le_of_ble_eq_true rfl, Nat.le_of_ble_eq_true rfl⟩ rfl rfl (Nat.le_of_ble_eq_true rfl) ?_
    refine ww_iload_n (pc := 84) X (j := 2) dX10_unlike_84 rfl rfl ?_
    refine ww_iload (pc := 85) X (j := 8) dX10_unlike_85 rfl ?_
    obtain ⟨r25, h24, hF⟩ := bd_some hF
    refine ww_callVi (pc := 87) X (As := [.int r23, .int c8_2, .int a9]) (rest := [.int r21, .long a4]) dX10_unlike_87 (kX10_turnedBy (mL M) G X.2.2.2.2.2.2.1 X.2.2.2.2.2.2.2.1 σ r23 c8_2 a9 r25 h24) rfl shzM_0 clzM_10 gX10_unlike_X10_turnedBy hyX10_turnedBy ⟨rfl, rfl⟩ ⟨Nat.le_of_ble_eq_true rfl, Nat.le_of_ble_eq_true rfl⟩ rfl rfl (Nat.le_of_ble_eq_true rfl) ?_
    refine ww_isub (pc := 90) X dX10_unlike_90 ?_
    refine ww_i2l (pc := 91) X dX10_unlike_91 ?_
    refine ww_aload_n (pc := 92) X (j := 0) dX10_unlike_92 rfl rfl ?_
    refine ww_iload (pc := 93) X (j := 7) dX10_unlike_93 rfl ?_
    refine ww_iload (pc := 95) X (j := 8) dX10_unlike_95 rfl ?_
    obtain ⟨r27, h26, hF⟩ := bd_some hF
    refine ww_callVi (pc := 97) X (As := [.int c60_8, .int a9]) (rest := [.long ((r21 - r25).toInt64), .long a4]) dX10_unlike_97 (kX10_put (mL M) G X.2.2.2.2.2.2.1 X.2.2.2.2.2.2.2.1 σ c60_8 a9 r27 h26) rfl shzM_0 clzM_10 gX10_unlike_X10_put hyX10_put ⟨rfl, rfl⟩ ⟨Nat.le_of_ble_eq_true rfl, Nat.le_of_ble_eq_true rfl⟩ rfl rfl (Nat.le_of_ble_eq_true rfl) ?_
    refine ww_aload_n (pc := 100) X (j := 0) dX10_unlike_100 rfl rfl ?_
    refine ww_aload_n (pc := 101) X (j := 0) dX10_unlike_101 rfl rfl ?_
    refine ww_iload_n (pc := 102) X (j := 3) dX10_unlike_102 rfl rfl ?_
    obtain ⟨r29, h28, hF⟩ := bd_some hF
    refine ww_callVi (pc := 103) X (As := [.int c60_3]) (rest := [.ref (G.2.1 0), .int r27, .long ((r21 - r25).toInt64), .long a4]) dX10_unlike_103 (kX10_startedRow (mL M) G X.2.2.2.2.2.2.1 X.2.2.2.2.2.2.2.1 σ c60_3 r29 h28) rfl shzM_0 clzM_10 gX10_unlike_X10_startedRow hyX10_startedRow ⟨rfl, rfl⟩ ⟨Nat.le_of_ble_eq_true rfl, Nat.le_of_ble_eq_true rfl⟩ rfl rfl (Nat.le_of_ble_eq_true rfl) ?_
    refine ww_iload (pc := 106) X (j := 8) dX10_unlike_106 rfl ?_
    obtain ⟨r31, h30, hF⟩ := bd_some hF
    refine ww_callVi (pc := 108) X (As := [.int r29, .int a9]) (rest := [.int r27, .long ((r21 - r25).toInt64), .long a4]) dX10_unlike_108 (kX10_put (mL M) G X.2.2.2.2.2.2.1 X.2.2.2.2.2.2.2.1 σ r29 a9 r31 h30) rfl shzM_0 clzM_10 gX10_unlike_X10_put hyX10_put ⟨rfl, rfl⟩ ⟨Nat.le_of_ble_eq_true rfl, Nat.le_of_ble_eq_true rfl⟩ rfl rfl (Nat.le_of_ble_eq_true rfl) ?_
    refine ww_isub (pc := 111) X dX10_unlike_111 ?_
    refine ww_i2l (pc := 112) X dX10_unlike_112 ?_
    obtain ⟨r33, h32, hF⟩ := bd_some hF
    refine ww_callSl (pc := 113) X (As := [.long ((r21 - r25).toInt64), .long ((r27 - r31).toInt64)]) (rest := [.long a4]) dX10_unlike_113 (kX10_apart (mL M) G X.2.2.2.2.2.2.1 X.2.2.2.2.2.2.2.1 σ ((r21 - r25).toInt64) ((r27 - r31).toInt64) r33 h32) rfl gX10_unlike_X10_apart hyX10_apart ⟨rfl, rfl⟩ ⟨Nat.le_of_ble_eq_true rfl, Nat.le_of_ble_eq_true rfl⟩ rfl rfl (Nat.le_of_ble_eq_true rfl) ?_
    refine ww_ladd (pc := 116) X dX10_unlike_116 ?_
    refine ww_lstore (pc := 117) X (lv' := [(0, .ref (G.2.1 0)), (1, .int c8_1), (2, .int c8_2), (3, .int c60_3), (6, .int c60_6), (7, .int c60_7), (8, .int c60_8), (9, .int a9)]) dX10_unlike_117 (by decide) rfl hF (fun x34 ex34 hF => ?_)
    refine ww_iinc (pc := 119) X (j := 8) (v := 1) (lv' := [(4, .long x34), (0, .ref (G.2.1 0)), (1, .int c8_1), (2, .int c8_2), (3, .int c60_3), (6, .int c60_6), (7, .int c60_7), (8, .int c60_8)]) dX10_unlike_119 rfl rfl (by decide) rfl hF (fun x35 ex35 hF => ?_)
    refine ww_goto (pc := 122) X (tgt := 60) dX10_unlike_122 (by decide) ?_
    exact ww_sub [2, 3, 4, 5, 1, 6, 7, 8, 0] rfl (ih60 x34 x35 hF)
set_option maxRecDepth 100000 in
set_option maxHeartbeats 4000000 in
theorem wbX10_unlike_8 {M : gM} {G : gG} {out : Int64} (X : gX M G zM cX10_unlike RX10 10 wsX10_unlike rmX10_unlike (some .long)) (σ : gS) (c8_1 : Int32) (c8_2 : Int32) (rec8 : Int32 → Int64 → Int32 → Option (Int64)) (ih8 : ∀ (a3 : Int32) (a4 : Int64) (a6 : Int32), rec8 a3 a4 a6 = some out → WW M (gQl M G zM out σ) G zM 10 σ 8 [(0, .ref (G.2.1 0)), (1, .int c8_1), (2, .int c8_2), (3, .int a3), (4, .long a4), (6, .int a6)] []) (a3 : Int32) (a4 : Int64) (a6 : Int32) (hF : bX10_unlike_8 σ c8_1 c8_2 rec8 a3 a4 a6 = some out) : WW M (gQl M G zM out σ) G zM 10 σ 8 [(0, .ref (G.2.1 0)), (1, .int c8_1), (2, .int c8_2), (3, .int a3), (4, .long a4), (6, .int a6)] [] := by
  unfold bX10_unlike_8 at hF
  refine ww_iload (pc := 8) X (j := 5) dX10_unlike_8 rfl ?_
  refine ww_aload_n (pc := 10) X (j := 0) dX10_unlike_10 rfl rfl ?_
  obtain ⟨r5, h4, hF⟩ := bd_some hF
  refine ww_callVi (pc := 11) X (As := []) (rest := [.int a6]) dX10_unlike_11 (kX10_points (mL M) G X.2.2.2.2.2.2.1 X.2.2.2.2.2.2.2.1 σ r5 h4) rfl shzM_0 clzM_10 gX10_unlike_X10_points hyX10_points ⟨rfl, rfl⟩ ⟨Nat.le_of_ble_eq_true rfl, Nat.le_of_ble_eq_true rfl⟩ rfl rfl (Nat.le_of_ble_eq_true rfl) ?_
  refine ww_icmp_ge (pc := 14) (tgt := 131) X dX10_unlike_14 (by decide) hF (fun h6 hF => ?_) (fun h6 hF => ?_)
  · refine ww_lload (pc := 131) X (j := 4) dX10_unlike_131 rfl ?_
    exact ww_lret (pc := 133) X dX10_unlike_133 (Option.some.inj hF) rfl
  · refine ww_aload_n (pc := 17) X (j := 0) dX10_unlike_17 rfl rfl ?_
    refine ww_iload_n (pc := 18) X (j := 1) dX10_unlike_18 rfl rfl ?_
    refine ww_iload (pc := 19) X (j := 5) dX10_unlike_19 rfl ?_
    obtain ⟨r8, h7, hF⟩ := bd_some hF
    refine ww_callVi (pc := 21) X (As := [.int c8_1, .int a6]) (rest := []) dX10_unlike_21 (kX10_rowOf (mL M) G X.2.2.2.2.2.2.1 X.2.2.2.2.2.2.2.1 σ c8_1 a6 r8 h7) rfl shzM_0 clzM_10 gX10_unlike_X10_rowOf hyX10_rowOf ⟨rfl, rfl⟩ ⟨Nat.le_of_ble_eq_true rfl, Nat.le_of_ble_eq_true rfl⟩ rfl rfl (Nat.le_of_ble_eq_true rfl) ?_
    refine ww_istore (pc := 24) X (lv' := [(0, .ref (G.2.1 0)), (1, .int c8_1), (2, .int c8_2), (3, .int a3), (4, .long a4), (6, .int a6)]) dX10_unlike_24 (by decide) rfl hF (fun x9 ex9 hF => ?_)
    refine ww_aload_n (pc := 26) X (j := 1) dX10_unlike_26 rfl rfl ?_
    refine ww_iload (pc := 27) X (j := 6) dX10_unlike_27 rfl ?_
    obtain ⟨r11, h10, hF⟩ := bd_some hF
    refine ww_callVi (pc := 29) X (As := [.int a6]) (rest := []) dX10_unlike_29 (kX10_startedRow (mL M) G X.2.2.2.2.2.2.1 X.2.2.2.2.2.2.2.1 σ a6 r11 h10) rfl shzM_0 clzM_10 gX10_unlike_X10_startedRow hyX10_startedRow ⟨rfl, rfl⟩ ⟨Nat.le_of_ble_eq_true rfl, Nat.le_of_ble_eq_true rfl⟩ rfl rfl (Nat.le_of_ble_eq_true rfl) ?_
    refine ww_istore (pc := 32) X (lv' := [(7, .int x9), (0, .ref (G.2.1 0)), (1, .int c8_1), (2, .int c8_2), (3, .int a3), (4, .long a4), (6, .int a6)]) dX10_unlike_32 (by decide) rfl hF (fun x12 ex12 hF => ?_)
    refine ww_iload (pc := 34) X (j := 1) dX10_unlike_34 rfl ?_
    refine ww_iconst (pc := 36) X (v := (-1)) dX10_unlike_36 (by decide) ?_
    refine ww_icmp_eq (pc := 37) (tgt := 125) X dX10_unlike_37 (by decide) hF (fun h13 hF => ?_) (fun h13 hF => ?_)
    · refine ww_iinc (pc := 125) X (j := 7) (v := 1) (lv' := [(8, .int x12), (7, .int x9), (0, .ref (G.2.1 0)), (1, .int c8_1), (2, .int c8_2), (3, .int a3), (4, .long a4)]) dX10_unlike_125 rfl rfl (by decide) rfl hF (fun x14 ex14 hF => ?_)
      refine ww_goto (pc := 128) X (tgt := 8) dX10_unlike_128 (by decide) ?_
      exact ww_sub [3, 4, 5, 6, 7, 0] rfl (ih8 a3 a4 x14 hF)
    · refine ww_iload (pc := 40) X (j := 0) dX10_unlike_40 rfl ?_
      refine ww_iconst (pc := 42) X (v := (-1)) dX10_unlike_42 (by decide) ?_
      refine ww_icmp_ne (pc := 43) (tgt := 49) X dX10_unlike_43 (by decide) hF (fun h15 hF => ?_) (fun h15 hF => ?_)
      · refine ww_iload_n (pc := 49) X (j := 5) dX10_unlike_49 rfl rfl ?_
        refine ww_iconst (pc := 50) X (v := (-1)) dX10_unlike_50 (by decide) ?_
        refine ww_icmp_ne (pc := 51) (tgt := 57) X dX10_unlike_51 (by decide) hF (fun h16 hF => ?_) (fun h16 hF => ?_)
        · refine ww_iconst (pc := 57) X (v := 0) dX10_unlike_57 (by decide) ?_
          refine ww_istore (pc := 58) X (lv' := [(8, .int x12), (7, .int x9), (0, .ref (G.2.1 0)), (1, .int c8_1), (2, .int c8_2), (3, .int a3), (4, .long a4), (6, .int a6)]) dX10_unlike_58 (by decide) rfl hF (fun x17 ex17 hF => ?_)
          exact ww_sub [3, 4, 5, 6, 7, 8, 2, 1, 0] rfl (lpc_ind (P := (fun (s : Int64 × Int32) => WW M (gQl M G zM out σ) G zM 10 σ 60 [(0, .ref (G.2.1 0)), (1, .int c8_1), (2, .int c8_2), (3, .int a3), (4, .long s.1), (6, .int a6), (7, .int x9), (8, .int x12), (9, .int s.2)] [])) (fun rec s ih hF => wbX10_unlike_60 X σ c8_1 c8_2 a3 a6 x9 x12 rec8  ih8 (fun a4 a9 => rec (a4, a9)) (fun a4 a9 h => ih (a4, a9) h) s.1 s.2 hF) K9 (a4, x17) hF)
        · refine ww_iload (pc := 54) X (j := 7) dX10_unlike_54 rfl ?_
          refine ww_istore_n (pc := 56) X (lv' := [(8, .int x12), (7, .int x9), (0, .ref (G.2.1 0)), (1, .int c8_1), (2, .int c8_2), (4, .long a4), (6, .int a6)]) dX10_unlike_56 rfl (by decide) rfl hF (fun x36 ex36 hF => ?_)
          refine ww_iconst (pc := 57) X (v := 0) dX10_unlike_57 (by decide) ?_
          refine ww_istore (pc := 58) X (lv' := [(3, .int x36), (8, .int x12), (7, .int x9), (0, .ref (G.2.1 0)), (1, .int c8_1), (2, .int c8_2), (4, .long a4), (6, .int a6)]) dX10_unlike_58 (by decide) rfl hF (fun x37 ex37 hF => ?_)
          exact ww_sub [4, 5, 6, 1, 7, 8, 3, 2, 0] rfl (lpc_ind (P := (fun (s : Int64 × Int32) => WW M (gQl M G zM out σ) G zM 10 σ 60 [(0, .ref (G.2.1 0)), (1, .int c8_1), (2, .int c8_2), (3, .int x36), (4, .long s.1), (6, .int a6), (7, .int x9), (8, .int x12), (9, .int s.2)] [])) (fun rec s ih hF => wbX10_unlike_60 X σ c8_1 c8_2 x36 a6 x9 x12 rec8  ih8 (fun a4 a9 => rec (a4, a9)) (fun a4 a9 h => ih (a4, a9) h) s.1 s.2 hF) K9 (a4, x37) hF)
      · refine ww_goto (pc := 46) X (tgt := 125) dX10_unlike_46 (by decide) ?_
        refine ww_iinc (pc := 125) X (j := 7) (v := 1) (lv' := [(8, .int x12), (7, .int x9), (0, .ref (G.2.1 0)), (1, .int c8_1), (2, .int c8_2), (3, .int a3), (4, .long a4)]) dX10_unlike_125 rfl rfl (by decide) rfl hF (fun x38 ex38 hF => ?_)
        refine ww_goto (pc := 128) X (tgt := 8) dX10_unlike_128 (by decide) ?_
        exact ww_sub [3, 4, 5, 6, 7, 0] rfl (ih8 a3 a4 x38 hF)
set_option maxRecDepth 100000 in
set_option maxHeartbeats 4000000 in
theorem wX10_unlike {M : gM} {G : gG} {out : Int64} (X : gX M G zM cX10_unlike RX10 10 wsX10_unlike rmX10_unlike (some .long)) (σ : gS) (p1 : Int32) (p2 : Int32) (hF : fX10_unlike σ p1 p2 = some out) : WW M (gQl M G zM out σ) G zM 10 σ 0 [(0, .ref (G.2.1 0)), (1, .int p1), (2, .int p2)] [] := by
  unfold fX10_unlike at hF
  refine ww_iconst (pc := 0) X (v := (-1)) dX10_unlike_0 (by decide) ?_
  refine ww_istore_n (pc := 1) X (lv' := [(0, .ref (G.2.1 0)), (1, .int p1), (2, .int p2)]) dX10_unlike_1 rfl (by decide) rfl hF (fun x1 ex1 hF => ?_)
  refine ww_lconst (pc := 2) X (v := 0) dX10_unlike_2 (by decide) ?_
  refine ww_lstore (pc := 3) X (lv' := [(3, .int x1), (0, .ref (G.2.1 0)), (1, .int p1), (2, .int p2)]) dX10_unlike_3 (by decide) rfl hF (fun x2 ex2 hF => ?_)
  refine ww_iconst (pc := 5) X (v := 0) dX10_unlike_5 (by decide) ?_
  refine ww_istore (pc := 6) X (lv' := [(4, .long x2), (3, .int x1), (0, .ref (G.2.1 0)), (1, .int p1), (2, .int p2)]) dX10_unlike_6 (by decide) rfl hF (fun x3 ex3 hF => ?_)
  exact ww_sub [3, 4, 5, 2, 1, 0] rfl (lpc_ind (P := (fun (s : Int32 × Int64 × Int32) => WW M (gQl M G zM out σ) G zM 10 σ 8 [(0, .ref (G.2.1 0)), (1, .int p1), (2, .int p2), (3, .int s.1), (4, .long s.2.1), (6, .int s.2.2)] [])) (fun rec s ih hF => wbX10_unlike_8 X σ p1 p2 (fun a3 a4 a6 => rec (a3, a4, a6)) (fun a3 a4 a6 h => ih (a3, a4, a6) h) s.1 s.2.1 s.2.2 hF) K9 (x1, x2, x3) hF)
set_option maxRecDepth 100000 in
set_option maxHeartbeats 4000000 in
theorem kX10_unlike (l : Launch) (G : gG) (hG : gOK G zM.1) (hT : G.2.2.1.map (fun q => q.2) = zM.2.1) (σ : gS) (p1 : Int32) (p2 : Int32) (out : Int64) (hF : fX10_unlike σ p1 p2 = some out) : gCl l yX10_unlike wsX10_unlike rmX10_unlike G zM [.ref (G.2.1 0), .int p1, .int p2] σ out σ :=
  gEnter (by decide) rfl ⟨rfl, rfl⟩ hG hT (Nat.le_of_ble_eq_true rfl) rfl (fun M X hl => wX10_unlike X σ p1 p2 hF)
