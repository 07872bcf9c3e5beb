noncomputable def jX10_feed_71 (σ : gS) (c18_1 : Int32) (c18_2 : Int32) (c18_3 : Int32) (c18_4 : Int32) (c18_5 : Int32) (rec18 : Int32 → gS → Option (Int32 × gS)) (a6 : Int32) (z0 : Int32) : Option (Int32 × gS) :=
  nm (z0 : Int32) fun x8 => gd (gb (σ.1 0 1) 1600) <| nm (gsI σ 1 (σ.1 0 1).toNatClampNeg ((x8 >>> ((8 * (3 - (irm a6 4))) &&& 31)) &&& 255)) fun σ9 => nm (gsI σ9 0 1 ((σ9.1 0 1) + 1)) fun σ10 => nm (a6 + 1 : Int32) fun x11 => rec18 x11 σ10
noncomputable def bX10_feed_18 (σ : gS) (c18_1 : Int32) (c18_2 : Int32) (c18_3 : Int32) (c18_4 : Int32) (c18_5 : Int32) (rec18 : Int32 → gS → Option (Int32 × gS)) (a6 : Int32) (σ1 : gS) : Option (Int32 × gS) :=
  if 20 ≤ a6 then some (σ1.1 0 1, σ1) else if 4 ≤ a6 then if 8 ≤ a6 then if 12 ≤ a6 then if 16 ≤ a6 then jX10_feed_71 σ1 c18_1 c18_2 c18_3 c18_4 c18_5 rec18 a6 c18_5 else jX10_feed_71 σ1 c18_1 c18_2 c18_3 c18_4 c18_5 rec18 a6 c18_4 else jX10_feed_71 σ1 c18_1 c18_2 c18_3 c18_4 c18_5 rec18 a6 c18_3 else jX10_feed_71 σ1 c18_1 c18_2 c18_3 c18_4 c18_5 rec18 a6 c18_2 else jX10_feed_71 σ1 c18_1 c18_2 c18_3 c18_4 c18_5 rec18 a6 c18_1
noncomputable def fX10_feed (σ : gS) (p1 : Int32) (p2 : Int32) (p3 : Int32) (p4 : Int32) (p5 : Int32) : Option (Int32 × gS) :=
  if ((σ.1 0 1) + 20) ≤ 1600 then nm (0 : Int32) fun x2 => lpc (S := Int32 × gS) K9 (fun rec s => bX10_feed_18 σ p1 p2 p3 p4 p5 (fun a6 σ1 => rec (a6, σ1)) s.1 s.2) (x2, σ) else some ((-1), σ)
abbrev rmX10_feed : Room := { frames := 0, cells := 0, slots := 0, locals := 0 }
set_option maxRecDepth 100000 in
set_option maxHeartbeats 4000000 in
theorem wjX10_feed_71 {M : gM} {G : gG} {out : Int32 × gS} (X : gX M G zM cX10_feed RX10 8 wsX10_feed rmX10_feed (some .int)) (σ : gS) (c18_1 : Int32) (c18_2 : Int32) (c18_3 : Int32) (c18_4 : Int32) (c18_5 : Int32) (rec18 : Int32 → gS → Option (Int32 × gS)) (ih18 : ∀ (a6 : Int32) (σ1 : gS), rec18 a6 σ1 = some out → WW M (gQi M G zM out.1 out.2) G zM 8 σ1 18 [(0, .ref (G.2.1 0)), (1, .int c18_1), (2, .int c18_2), (3, .int c18_3), (4, .int c18_4), (5, .int c18_5), (6, .int a6)] []) (a6 : Int32) (z0 : Int32) (hF : jX10_feed_71 σ c18_1 c18_2 c18_3 c18_4 c18_5 rec18 a6 z0 = some out) : WW M (gQi M G zM out.1 out.2) G zM 8 σ 71 [(0, .ref (G.2.1 0)), (1, .int c18_1), (2, .int c18_2), (3, .int c18_3), (4, .int c18_4), (5, .int c18_5), (6, .int a6)] [.int z0] := by
  unfold jX10_feed_71 at hF
  refine ww_istore (pc := 71) X (lv' := [(0, .ref (G.2.1 0)), (1, .int c18_1), (2, .int c18_2), (3, .int c18_3), (4, .int c18_4), (5, .int c18_5), (6, .int a6)]) dX10_feed_71 (by decide) rfl hF (fun x8 ex8 hF => ?_)
  refine ww_aload_n (pc := 73) X (j := 1) dX10_feed_73 rfl rfl ?_
  refine ww_get (pc := 74) X (ref := "PictureBlockModel") (T := TX10) (j := 0) dX10_feed_74 inX10_feed_RX10 shzM_0 clzM_10 (by decide) rfl (List.mem_of_getElem? (i := 2) rfl) rfl ?_
  refine ww_aload_n (pc := 77) X (j := 1) dX10_feed_77 rfl rfl ?_
  refine ww_get (pc := 78) X (ref := "PictureBlockModel") (T := TX10) (j := 1) dX10_feed_78 inX10_feed_RX10 shzM_0 clzM_10 (by decide) rfl (List.mem_of_getElem? (i := 1) rfl) rfl ?_
  refine ww_iload (pc := 81) X (j := 0) dX10_feed_81 rfl ?_
  refine ww_bipush (pc := 83) X (v := 8) dX10_feed_83 (by decide) ?_
  refine ww_iconst (pc := 85) X (v := 3) dX10_feed_85 (by decide) ?_
  refine ww_iload (pc := 86) X (j := 7) dX10_feed_86 rfl ?_
  refine ww_iconst (pc := 88) X (v := 4) dX10_feed_88 (by decide) ?_
  refine ww_irem (pc := 89) X dX10_feed_89 (by decide) ?_
  refine ww_isub (pc := 90) X dX10_feed_90 ?_
  refine ww_imul (pc := 91) X dX10_feed_91 ?_
  refine ww_ishr (pc := 92) X dX10_feed_92 ?_
  refine ww_sipush (pc := 93) X (v := 255) dX10_feed_93 (by decide) ?_
  refine ww_iand (pc := 96) X dX10_feed_96 ?_
  refine ww_iast (pc := 97) X dX10_feed_97 shzM_1 rfl hF (fun σ9 eσ9 bσ9 hF => ?_)
  refine ww_aload_n (pc := 98) X (j := 1) dX10_feed_98 rfl rfl ?_
  refine ww_dup (pc := 99) X dX10_feed_99 rfl ?_
  refine ww_get (pc := 100) X (ref := "PictureBlockModel") (T := TX10) (j := 1) dX10_feed_100 inX10_feed_RX10 shzM_0 clzM_10 (by decide) rfl (List.mem_of_getElem? (i := 1) rfl) rfl ?_
  refine ww_iconst (pc := 103) X (v := 1) dX10_feed_103 (by decide) ?_
  refine ww_iadd (pc := 104) X dX10_feed_104 ?_
  refine ww_putI (pc := 105) X (ref := "PictureBlockModel") (T := TX10) (j := 1) dX10_feed_105 inX10_feed_RX10 tyX10 tyX10_ok nmX10 shzM_0 clzM_10 (by decide) rfl (List.mem_of_getElem? (i := 1) rfl) rfl rfl (by decide +kernel) hF (fun σ10 eσ10 hF => ?_)
  refine ww_iinc (pc := 108) X (j := 7) (v := 1) (lv' := [(7, .int x8), (0, .ref (G.2.1 0)), (1, .int c18_1), (2, .int c18_2), (3, .int c18_3), (4, .int c18_4), (5, .int c18_5)]) dX10_feed_108 rfl rfl (by decide) rfl hF (fun x11 ex11 hF => ?_)
  refine ww_goto (pc := 111) X (tgt := 18) dX10_feed_111 (by decide) ?_
  exact ww_sub [2, 3, 4, 5, 6, 7, 0] rfl (ih18 x11 σ10 hF)
set_option maxRecDepth 100000 in
set_option maxHeartbeats 4000000 in
theorem wbX10_feed_18 {M : gM} {G : gG} {out : Int32 × gS} (X : gX M G zM cX10_feed RX10 8 wsX10_feed rmX10_feed (some .int)) (σ : gS) (c18_1 : Int32) (c18_2 : Int32) (c18_3 : Int32) (c18_4 : Int32) (c18_5 : Int32) (rec18 : Int32 → gS → Option (Int32 × gS)) (ih18 : ∀ (a6 : Int32) (σ1 : gS), rec18 a6 σ1 = some out → WW M (gQi M G zM out.1 out.2) G zM 8 σ1 18 [(0, .ref (G.2.1 0)), (1, .int c18_1), (2, .int c18_2), (3, .int c18_3), (4, .int c18_4), (5, .int c18_5), (6, .int a6)] []) (a6 : Int32) (σ1 : gS) (hF : bX10_feed_18 σ c18_1 c18_2 c18_3 c18_4 c18_5 rec18 a6 σ1 = some out) : WW M (gQi M G zM out.1 out.2) G zM 8 σ1 18 [(0, .ref (G.2.1 0)), (1, .int c18_1), (2, .int c18_2), (3, .int c18_3), (4, .int c18_4), (5, .int c18_5), (6, .int a6)] [] := by
  unfold bX10_feed_18 at hF
  refine ww_iload (pc := 18) X (j := 6) dX10_feed_18 rfl ?_
  refine ww_bipush (pc := 20) X (v := 20) dX10_feed_20 (by decide) ?_
  refine ww_icmp_ge (pc := 22) (tgt := 114) X dX10_feed_22 (by decide) hF (fun h3 hF => ?_) (fun h3 hF => ?_)
  · refine ww_aload_n (pc := 114) X (j := 0) dX10_feed_114 rfl rfl ?_
    refine ww_get (pc := 115) X (ref := "PictureBlockModel") (T := TX10) (j := 1) dX10_feed_115 inX10_feed_RX10 shzM_0 clzM_10 (by decide) rfl (List.mem_of_getElem? (i := 1) rfl) rfl ?_
    exact ww_iret (pc := 118) X dX10_feed_118 (by cases hF; rfl) (by cases hF; rfl)
  · refine ww_iload (pc := 25) X (j := 6) dX10_feed_25 rfl ?_
    refine ww_iconst (pc := 27) X (v := 4) dX10_feed_27 (by decide) ?_
    refine ww_icmp_ge (pc := 28) (tgt := 35) X dX10_feed_28 (by decide) hF (fun h4 hF => ?_) (fun h4 hF => ?_)
    · refine ww_iload (pc := 35) X (j := 6) dX10_feed_35 rfl ?_
      refine ww_bipush (pc := 37) X (v := 8) dX10_feed_37 (by decide) ?_
      refine ww_icmp_ge (pc := 39) (tgt := 46) X dX10_feed_39 (by decide) hF (fun h5 hF => ?_) (fun h5 hF => ?_)
      · refine ww_iload (pc := 46) X (j := 6) dX10_feed_46 rfl ?_
        refine ww_bipush (pc := 48) X (v := 12) dX10_feed_48 (by decide) ?_
        refine ww_icmp_ge (pc := 50) (tgt := 57) X dX10_feed_50 (by decide) hF (fun h6 hF => ?_) (fun h6 hF => ?_)
        · refine ww_iload (pc := 57) X (j := 6) dX10_feed_57 rfl ?_
          refine ww_bipush (pc := 59) X (v := 16) dX10_feed_59 (by decide) ?_
          refine ww_icmp_ge (pc := 61) (tgt := 69) X dX10_feed_61 (by decide) hF (fun h7 hF => ?_) (fun h7 hF => ?_)
          · refine ww_iload (pc := 69) X (j := 5) dX10_feed_69 rfl ?_
            exact ww_sub [0, 1, 2, 3, 4, 5, 6] rfl (wjX10_feed_71 X σ1 c18_1 c18_2 c18_3 c18_4 c18_5 rec18 ih18 a6 c18_5 hF)
          · refine ww_iload (pc := 64) X (j := 4) dX10_feed_64 rfl ?_
            refine ww_goto (pc := 66) X (tgt := 71) dX10_feed_66 (by decide) ?_
            exact ww_sub [0, 1, 2, 3, 4, 5, 6] rfl (wjX10_feed_71 X σ1 c18_1 c18_2 c18_3 c18_4 c18_5 rec18 ih18 a6 c18_4 hF)
        · refine ww_iload_n (pc := 53) X (j := 3) dX10_feed_53 rfl rfl ?_
          refine ww_goto (pc := 54) X (tgt := 71) dX10_feed_54 (by decide) ?_
          exact ww_sub [0, 1, 2, 3, 4, 5, 6] rfl (wjX10_feed_71 X σ1 c18_1 c18_2 c18_3 c18_4 c18_5 rec18 ih18 a6 c18_3 hF)
      · refine ww_iload_n (pc := 42) X (j := 2) dX10_feed_42 rfl rfl ?_
        refine ww_goto (pc := 43) X (tgt := 71) dX10_feed_43 (by decide) ?_
        exact ww_sub [0, 1, 2, 3, 4, 5, 6] rfl (wjX10_feed_71 X σ1 c18_1 c18_2 c18_3 c18_4 c18_5 rec18 ih18 a6 c18_2 hF)
    · refine ww_iload_n (pc := 31) X (j := 1) dX10_feed_31 rfl rfl ?_
      refine ww_goto (pc := 32) X (tgt := 71) dX10_feed_32 (by decide) ?_
      exact ww_sub [0, 1, 2, 3, 4, 5, 6] rfl (wjX10_feed_71 X σ1 c18_1 c18_2 c18_3 c18_4 c18_5 rec18 ih18 a6 c18_1 hF)
set_option maxRecDepth 100000 in
set_option maxHeartbeats 4000000 in
theorem wX10_feed {M : gM} {G : gG} {out : Int32 × gS} (X : gX M G zM cX10_feed RX10 8 wsX10_feed rmX10_feed (some .int)) (σ : gS) (p1 : Int32) (p2 : Int32) (p3 : Int32) (p4 : Int32) (p5 : Int32) (hF : fX10_feed σ p1 p2 p3 p4 p5 = some out) : WW M (gQi M G zM out.1 out.2) G zM 8 σ 0 [(0, .ref (G.2.1 0)), (1, .int p1), (2, .int p2), (3, .int p3), (4, .int p4), (5, .int p5)] [] := by
  unfold fX10_feed at hF
  refine ww_aload_n (pc := 0) X (j := 0) dX10_feed_0 rfl rfl ?_
  refine ww_get (pc := 1) X (ref := "PictureBlockModel") (T := TX10) (j := 1) dX10_feed_1 inX10_feed_RX10 shzM_0 clzM_10 (by decide) rfl (List.mem_of_getElem? (i := 1) rfl) rfl ?_
  refine ww_bipush (pc := 4) X (v := 20) dX10_feed_4 (by decide) ?_
  refine ww_iadd (pc := 6) X dX10_feed_6 ?_
  refine ww_sipush (pc := 7) X (v := 1600) dX10_feed_7 (by decide) ?_
  refine ww_icmp_le (pc := 10) (tgt := 15) X dX10_feed_10 (by decide) hF (fun h1 hF => ?_) (fun h1 hF => ?_)
  · refine ww_iconst (pc := 15) X (v := 0) dX10_feed_15 (by decide) ?_
    refine ww_istore (pc := 16) X (lv' := [(0, .ref (G.2.1 0)), (1, .int p1), (2, .int p2), (3, .int p3), (4, .int p4), (5, .int p5)]) dX10_feed_16 (by decide) rfl hF (fun x2 ex2 hF => ?_)
    exact ww_sub [1, 2, 3, 4, 5, 6, 0] rfl (lpc_ind (P := (fun (s : Int32 × gS) => WW M (gQi M G zM out.1 out.2) G zM 8 s.2 18 [(0, .ref (G.2.1 0)), (1, .int p1), (2, .int p2), (3, .int p3), (4, .int p4), (5, .int p5), (6, .int s.1)] [])) (fun rec s ih hF => wbX10_feed_18 X σ p1 p2 p3 p4 p5 (fun a6 σ1 => rec (a6, σ1)) (fun a6 σ1 h => ih (a6, σ1) h) s.1 s.2 hF) K9 (x2, σ) hF)
  · refine ww_iconst (pc := 13) X (v := (-1)) dX10_feed_13 (by decide) ?_
    exact ww_iret (pc := 14) X dX10_feed_14 (by cases hF; rfl) (by cases hF; rfl)
set_option maxRecDepth 100000 in
set_option maxHeartbeats 4000000 in
theorem kX10_feed (l : Launch) (G : gG) (hG : gOK G zM.1) (hT : G.2.2.map (fun q => q.2) = zM.2.1) (σ : gS) (p1 : Int32) (p2 : Int32) (p3 : Int32) (p4 : Int32) (p5 : Int32) (out : Int32 × gS) (hF : fX10_feed σ p1 p2 p3 p4 p5 = some out) : gCi l yX10_feed wsX10_feed rmX10_feed G zM [.ref (G.2.1 0), .int p1, .int p2, .int p3, .int p4, .int p5] σ out.1 out.2 :=
  gEnter (by decide) rfl ⟨rfl, rfl⟩ hG hT (Nat.le_of_ble_eq_true rfl) rfl (fun M X hl => wX10_feed X σ p1 p2 p3 p4 p5 hF)
