noncomputable def bX10_isRound_105 (σ : gS) (c105_2 : Int32) (rec92 : Int32 → Int32 → gS → Option (Int32 × gS)) (rec105 : Int32 → Int32 → gS → Option (Int32 × gS)) (a1 : Int32) (a3 : Int32) (σ1 : gS) : Option (Int32 × gS) :=
  if 2 ≤ a3 then nm (c105_2 + 1 : Int32) fun x15 => rec92 a1 x15 σ1 else bd2 (fX10_isDriftAltered σ1 c105_2 a3) fun r17 σ18 => (if r17 = 0 then nm (a3 + 1 : Int32) fun x20 => rec105 a1 x20 σ18 else nm (1 : Int32) fun x21 => nm (a3 + 1 : Int32) fun x22 => rec105 x21 x22 σ18)
noncomputable def bX10_isRound_92 (σ : gS) (rec92 : Int32 → Int32 → gS → Option (Int32 × gS)) (a1 : Int32) (a2 : Int32) (σ1 : gS) : Option (Int32 × gS) :=
  gd (gb 6 12) <| nm (σ1.1 15 ((6 : Int32).toNatClampNeg)) fun v11 => (if v11 ≤ a2 then some (vp_nar .boolean a1, σ1) else nm (0 : Int32) fun x13 => lpc (S := Int32 × Int32 × gS) K9 (fun rec s => bX10_isRound_105 σ1 a2 rec92 (fun a1 a3 σ1 => rec (a1, a3, σ1)) s.1 s.2.1 s.2.2) (a1, x13, σ1))
noncomputable def bX10_isRound_62 (σ : gS) (c62_2 : Int32) (rec52 : Int32 → Int32 → gS → Option (Int32 × gS)) (rec62 : Int32 → Int32 → gS → Option (Int32 × gS)) (a1 : Int32) (a3 : Int32) (σ1 : gS) : Option (Int32 × gS) :=
  if 2 ≤ a3 then nm (c62_2 + 1 : Int32) fun x25 => rec52 a1 x25 σ1 else bd2 (fX10_isPictureAltered σ1 c62_2 a3) fun r27 σ28 => (if r27 = 0 then nm (a3 + 1 : Int32) fun x30 => rec62 a1 x30 σ28 else nm (1 : Int32) fun x31 => nm (a3 + 1 : Int32) fun x32 => rec62 x31 x32 σ28)
noncomputable def bX10_isRound_52 (σ : gS) (rec52 : Int32 → Int32 → gS → Option (Int32 × gS)) (a1 : Int32) (a2 : Int32) (σ1 : gS) : Option (Int32 × gS) :=
  bd (fX10_pictures σ1) fun r8 => (if r8 ≤ a2 then nm (0 : Int32) fun x10 => lpc (S := Int32 × Int32 × gS) K9 (fun rec s => bX10_isRound_92 σ1 (fun a1 a2 σ1 => rec (a1, a2, σ1)) s.1 s.2.1 s.2.2) (a1, x10, σ1) else nm (0 : Int32) fun x23 => lpc (S := Int32 × Int32 × gS) K9 (fun rec s => bX10_isRound_62 σ1 a2 rec52 (fun a1 a3 σ1 => rec (a1, a3, σ1)) s.1 s.2.1 s.2.2) (a1, x23, σ1))
noncomputable def bX10_isRound_14 (σ : gS) (c14_2 : Int32) (rec4 : Int32 → Int32 → gS → Option (Int32 × gS)) (rec14 : Int32 → Int32 → gS → Option (Int32 × gS)) (a1 : Int32) (a3 : Int32) (σ1 : gS) : Option (Int32 × gS) :=
  if 2 ≤ a3 then nm (c14_2 + 1 : Int32) fun x35 => rec4 a1 x35 σ1 else bd (fX10_isControl σ1 c14_2) fun r37 => (if r37 = 0 then bd2 (fX10_isPointAltered σ1 c14_2 a3) fun r41 σ42 => (if r41 = 0 then nm (a3 + 1 : Int32) fun x44 => rec14 a1 x44 σ42 else nm (1 : Int32) fun x45 => nm (a3 + 1 : Int32) fun x46 => rec14 x45 x46 σ42) else nm (a3 + 1 : Int32) fun x39 => rec14 a1 x39 σ1)
noncomputable def bX10_isRound_4 (σ : gS) (rec4 : Int32 → Int32 → gS → Option (Int32 × gS)) (a1 : Int32) (a2 : Int32) (σ1 : gS) : Option (Int32 × gS) :=
  bd (fX10_points σ1) fun r4 => (if r4 ≤ a2 then nm (0 : Int32) fun x6 => lpc (S := Int32 × Int32 × gS) K9 (fun rec s => bX10_isRound_52 σ1 (fun a1 a2 σ1 => rec (a1, a2, σ1)) s.1 s.2.1 s.2.2) (a1, x6, σ1) else nm (0 : Int32) fun x33 => lpc (S := Int32 × Int32 × gS) K9 (fun rec s => bX10_isRound_14 σ1 a2 rec4 (fun a1 a3 σ1 => rec (a1, a3, σ1)) s.1 s.2.1 s.2.2) (a1, x33, σ1))
noncomputable def fX10_isRound (σ : gS) : Option (Int32 × gS) :=
  nm (0 : Int32) fun x1 => nm (0 : Int32) fun x2 => lpc (S := Int32 × Int32 × gS) K9 (fun rec s => bX10_isRound_4 σ (fun a1 a2 σ1 => rec (a1, a2, σ1)) s.1 s.2.1 s.2.2) (x1, x2, σ)
noncomputable abbrev rmX10_isRound : Room := { frames := 4, cells := 0, slots := 0, locals := 93 }
set_option maxRecDepth 100000 in
set_option maxHeartbeats 4000000 in
theorem wbX10_isRound_105 {M : gM} {G : gG} {out : Int32 × gS} (X : gX M G zM cX10_isRound RX10 4 wsX10_isRound rmX10_isRound (some .boolean)) (σ : gS) (c105_2 : Int32) (rec92 : Int32 → Int32 → gS → Option (Int32 × gS)) (ih92 : ∀ (a1 : Int32) (a2 : Int32) (σ1 : gS), rec92 a1 a2 σ1 = some out → WW M (gQi M G zM out.1 out.2) G zM 4 σ1 92 [(0, .ref (G.2.1 0)), (1, .int a1), (2, .int a2)] []) (rec105 : Int32 → Int32 → gS → Option (Int32 × gS)) (ih105 : ∀ (a1 : Int32) (a3 : Int32) (σ1 : gS), rec105 a1 a3 σ1 = some out → WW M (gQi M G zM out.1 out.2) G zM 4 σ1 105 [(0, .ref (G.2.1 0)), (1, .int a1), (2, .int c105_2), (3, .int a3)] []) (a1 : Int32) (a3 : Int32) (σ1 : gS) (hF : bX10_isRound_105 σ c105_2 rec92 rec105 a1 a3 σ1 = some out) : WW M (gQi M G zM out.1 out.2) G zM 4 σ1 105 [(0, .ref (G.2.1 0)), (1, .int a1), (2, .int c105_2), (3, .int a3)] [] := by
  unfold bX10_isRound_105 at hF
  refine ww_iload_n (pc := 105) X (j := 3) dX10_isRound_105 rfl rfl ?_
  refine ww_iconst (pc := 106) X (v := 2) dX10_isRound_106 (by decide) ?_
  refine ww_icmp_ge (pc := 107) (tgt := 127) X dX10_isRound_107 (by decide) hF (fun h14 hF => ?_) (fun h14 hF => ?_)
  · refine ww_iinc (pc := 127) X (j := 2) (v := 1) (lv' := [(0, .ref (G.2.1 0)), (1, .int a1), (3, .int a3)]) dX10_isRound_127 rfl rfl (by decide) rfl hF (fun x15 ex15 hF => ?_)
    refine ww_goto (pc := 130) X (tgt := 92) dX10_isRound_130 (by decide) ?_
    exact ww_sub [1, 2, 0] rfl (ih92 a1 x15 σ1 hF)
  · refine ww_aload_n (pc := 110) X (j := 0) dX10_isRound_110 rfl rfl ?_
    refine ww_iload_n (pc := 111) X (j := 2) dX10_isRound_111 rfl rfl ?_
    refine ww_iload_n (pc := 112) X (j := 3) dX10_isRound_112 rfl rfl ?_
    obtain ⟨r17, σ18, h16, hF⟩ := bd2_some hF
    refine ww_callVi (pc := 113) X (As := [.int c105_2, .int a3]) (rest := []) dX10_isRound_113 (kX10_isDriftAltered (mL M) G X.2.2.2.2.2.2.1 X.2.2.2.2.2.2.2.1 σ1 c105_2 a3 (r17, σ18) h16) rfl shzM_0 clzM_10 gX10_isRound_X10_isDriftAltered hyX10_isDriftAltered ⟨rfl, rfl⟩ ⟨Nat.le_of_ble_eq_true rfl, Nat.le_of_ble_eq_true rfl⟩ rfl rfl (Nat.le_of_ble_eq_true rfl) ?_
    refine ww_if_eq (pc := 116) (tgt := 121) X dX10_isRound_116 (by decide) hF (fun h19 hF => ?_) (fun h19 hF => ?_)
    · refine ww_iinc (pc := 121) X (j := 3) (v := 1) (lv' := [(0, .ref (G.2.1 0)), (1, .int a1), (2, .int c105_2)]) dX10_isRound_121 rfl rfl (by decide) rfl hF (fun x20 ex20 hF => ?_)
      refine ww_goto (pc := 124) X (tgt := 105) dX10_isRound_124 (by decide) ?_
      exact ww_sub [1, 2, 3, 0] rfl (ih105 a1 x20 σ18 hF)
    · refine ww_iconst (pc := 119) X (v := 1) dX10_isRound_119 (by decide) ?_
      refine ww_istore_n (pc := 120) X (lv' := [(0, .ref (G.2.1 0)), (2, .int c105_2), (3, .int a3)]) dX10_isRound_120 rfl (by decide) rfl hF (fun x21 ex21 hF => ?_)
      refine ww_iinc (pc := 121) X (j := 3) (v := 1) (lv' := [(1, .int x21), (0, .ref (G.2.1 0)), (2, .int c105_2)]) dX10_isRound_121 rfl rfl (by decide) rfl hF (fun x22 ex22 hF => ?_)
      refine ww_goto (pc := 124) X (tgt := 105) dX10_isRound_124 (by decide) ?_
      exact ww_sub [2, 1, 3, 0] rfl (ih105 x21 x22 σ18 hF)
set_option maxRecDepth 100000 in
set_option maxHeartbeats 4000000 in
theorem wbX10_isRound_92 {M : gM} {G : gG} {out : Int32 × gS} (X : gX M G zM cX10_isRound RX10 4 wsX10_isRound rmX10_isRound (some .boolean)) (σ : gS) (rec92 : Int32 → Int32 → gS → Option (Int32 × gS)) (ih92 : ∀ (a1 : Int32) (a2 : Int32) (σ1 : gS), rec92 a1 a2 σ1 = some out → WW M (gQi M G zM out.1 out.2) G zM 4 σ1 92 [(0, .ref (G.2.1 0)), (1, .int a1), (2, .int a2)] []) (a1 : Int32) (a2 : Int32) (σ1 : gS) (hF : bX10_isRound_92 σ rec92 a1 a2 σ1 = some out) : WW M (gQi M G zM out.1 out.2) G zM 4 σ1 92 [(0, .ref (G.2.1 0)), (1, .int a1), (2, .int a2)] [] := by
  unfold bX10_isRound_92 at hF
  refine ww_iload_n (pc := 92) X (j := 2) dX10_isRound_92 rfl rfl ?_
  refine ww_aload_n (pc := 93) X (j := 0) dX10_isRound_93 rfl rfl ?_
  refine ww_get (pc := 94) X (ref := "PictureBlockModel") (T := TX10) (j := 23) dX10_isRound_94 inX10_isRound_RX10 shzM_0 clzM_10 (by decide) rfl (List.mem_of_getElem? (i := 1) rfl) rfl ?_
  refine ww_bipush (pc := 97) X (v := 6) dX10_isRound_97 (by decide) ?_
  refine ww_iald (pc := 99) X dX10_isRound_99 shzM_15 rfl hF (fun v11 ev11 bv11 hF => ?_)
  refine ww_icmp_ge (pc := 100) (tgt := 133) X dX10_isRound_100 (by decide) hF (fun h12 hF => ?_) (fun h12 hF => ?_)
  · refine ww_iload_n (pc := 133) X (j := 1) dX10_isRound_133 rfl rfl ?_
    exact ww_zret (pc := 134) X dX10_isRound_134 (by cases hF; rfl) (by cases hF; rfl)
  · refine ww_iconst (pc := 103) X (v := 0) dX10_isRound_103 (by decide) ?_
    refine ww_istore_n (pc := 104) X (lv' := [(0, .ref (G.2.1 0)), (1, .int a1), (2, .int a2)]) dX10_isRound_104 rfl (by decide) rfl hF (fun x13 ex13 hF => ?_)
    exact ww_sub [1, 2, 3, 0] rfl (lpc_ind (P := (fun (s : Int32 × Int32 × gS) => WW M (gQi M G zM out.1 out.2) G zM 4 s.2.2 105 [(0, .ref (G.2.1 0)), (1, .int s.1), (2, .int a2), (3, .int s.2.1)] [])) (fun rec s ih hF => wbX10_isRound_105 X σ1 a2 rec92  ih92 (fun a1 a3 σ1 => rec (a1, a3, σ1)) (fun a1 a3 σ1 h => ih (a1, a3, σ1) h) s.1 s.2.1 s.2.2 hF) K9 (a1, x13, σ1) hF)
set_option maxRecDepth 100000 in
set_option maxHeartbeats 4000000 in
theorem wbX10_isRound_62 {M : gM} {G : gG} {out : Int32 × gS} (X : gX M G zM cX10_isRound RX10 4 wsX10_isRound rmX10_isRound (some .boolean)) (σ : gS) (c62_2 : Int32) (rec52 : Int32 → Int32 → gS → Option (Int32 × gS)) (ih52 : ∀ (a1 : Int32) (a2 : Int32) (σ1 : gS), rec52 a1 a2 σ1 = some out → WW M (gQi M G zM out.1 out.2) G zM 4 σ1 52 [(0, .ref (G.2.1 0)), (1, .int a1), (2, .int a2)] []) (rec62 : Int32 → Int32 → gS → Option (Int32 × gS)) (ih62 : ∀ (a1 : Int32) (a3 : Int32) (σ1 : gS), rec62 a1 a3 σ1 = some out → WW M (gQi M G zM out.1 out.2) G zM 4 σ1 62 [(0, .ref (G.2.1 0)), (1, .int a1), (2, .int c62_2), (3, .int a3)] []) (a1 : Int32) (a3 : Int32) (σ1 : gS) (hF : bX10_isRound_62 σ c62_2 rec52 rec62 a1 a3 σ1 = some out) : WW M (gQi M G zM out.1 out.2) G zM 4 σ1 62 [(0, .ref (G.2.1 0)), (1, .int a1), (2, .int c62_2), (3, .int a3)] [] := by
  unfold bX10_isRound_62 at hF
  refine ww_iload_n (pc := 62) X (j := 3) dX10_isRound_62 rfl rfl ?_
  refine ww_iconst (pc := 63) X (v := 2) dX10_isRound_63 (by decide) ?_
  refine ww_icmp_ge (pc := 64) (tgt := 84) X dX10_isRound_64 (by decide) hF (fun h24 hF => ?_) (fun h24 hF => ?_)
  · refine ww_iinc (pc := 84) X (j := 2) (v := 1) (lv' := [(0, .ref (G.2.1 0)), (1, .int a1), (3, .int a3)]) dX10_isRound_84 rfl rfl (by decide) rfl hF (fun x25 ex25 hF => ?_)
    refine ww_goto (pc := 87) X (tgt := 52) dX10_isRound_87 (by decide) ?_
    exact ww_sub [1, 2, 0] rfl (ih52 a1 x25 σ1 hF)
  · refine ww_aload_n (pc := 67) X (j := 0) dX10_isRound_67 rfl rfl ?_
    refine ww_iload_n (pc := 68) X (j := 2) dX10_isRound_68 rfl rfl ?_
    refine ww_iload_n (pc := 69) X (j := 3) dX10_isRound_69 rfl rfl ?_
    obtain ⟨r27, σ28, h26, hF⟩ := bd2_some hF
    refine ww_callVi (pc := 70) X (As := [.int c62_2, .int a3]) (rest := []) dX10_isRound_70 (kX10_isPictureAltered (mL M) G X.2.2.2.2.2.2.1 X.2.2.2.2.2.2.2.1 σ1 c62_2 a3 (r27, σ28) h26) rfl shzM_0 clzM_10 gX10_isRound_X10_isPictureAltered hyX10_isPictureAltered ⟨rfl, rfl⟩ ⟨Nat.le_of_ble_eq_true rfl, Nat.le_of_ble_eq_true rfl⟩ rfl rfl (Nat.le_of_ble_eq_true rfl) ?_
    refine ww_if_eq (pc := 73) (tgt := 78) X dX10_isRound_73 (by decide) hF (fun h29 hF => ?_) (fun h29 hF => ?_)
    · refine ww_iinc (pc := 78) X (j := 3) (v := 1) (lv' := [(0, .ref (G.2.1 0)), (1, .int a1), (2, .int c62_2)]) dX10_isRound_78 rfl rfl (by decide) rfl hF (fun x30 ex30 hF => ?_)
      refine ww_goto (pc := 81) X (tgt := 62) dX10_isRound_81 (by decide) ?_
      exact ww_sub [1, 2, 3, 0] rfl (ih62 a1 x30 σ28 hF)
    · refine ww_iconst (pc := 76) X (v := 1) dX10_isRound_76 (by decide) ?_
      refine ww_istore_n (pc := 77) X (lv' := [(0, .ref (G.2.1 0)), (2, .int c62_2), (3, .int a3)]) dX10_isRound_77 rfl (by decide) rfl hF (fun x31 ex31 hF => ?_)
      refine ww_iinc (pc := 78) X (j := 3) (v := 1) (lv' := [(1, .int x31), (0, .ref (G.2.1 0)), (2, .int c62_2)]) dX10_isRound_78 rfl rfl (by decide) rfl hF (fun x32 ex32 hF => ?_)
      refine ww_goto (pc := 81) X (tgt := 62) dX10_isRound_81 (by decide) ?_
      exact ww_sub [2, 1, 3, 0] rfl (ih62 x31 x32 σ28 hF)
set_option maxRecDepth 100000 in
set_option maxHeartbeats 4000000 in
theorem wbX10_isRound_52 {M : gM} {G : gG} {out : Int32 × gS} (X : gX M G zM cX10_isRound RX10 4 wsX10_isRound rmX10_isRound (some .boolean)) (σ : gS) (rec52 : Int32 → Int32 → gS → Option (Int32 × gS)) (ih52 : ∀ (a1 : Int32) (a2 : Int32) (σ1 : gS), rec52 a1 a2 σ1 = some out → WW M (gQi M G zM out.1 out.2) G zM 4 σ1 52 [(0, .ref (G.2.1 0)), (1, .int a1), (2, .int a2)] []) (a1 : Int32) (a2 : Int32) (σ1 : gS) (hF : bX10_isRound_52 σ rec52 a1 a2 σ1 = some out) : WW M (gQi M G zM out.1 out.2) G zM 4 σ1 52 [(0, .ref (G.2.1 0)), (1, .int a1), (2, .int a2)] [] := by
  unfold bX10_isRound_52 at hF
  refine ww_iload_n (pc := 52) X (j := 2) dX10_isRound_52 rfl rfl ?_
  refine ww_aload_n (pc := 53) X (j := 0) dX10_isRound_53 rfl rfl ?_
  obtain ⟨r8, h7, hF⟩ := bd_some hF
  refine ww_callVi (pc := 54) X (As := []) (rest := [.int a2]) dX10_isRound_54 (kX10_pictures (mL M) G X.2.2.2.2.2.2.1 X.2.2.2.2.2.2.2.1 σ1 r8 h7) rfl shzM_0 clzM_10 gX10_isRound_X10_pictures hyX10_pictures ⟨rfl, rfl⟩ ⟨Nat.le_of_ble_eq_true rfl, Nat.le_of_ble_eq_true rfl⟩ rfl rfl (Nat.le_of_ble_eq_true rfl) ?_
  refine ww_icmp_ge (pc := 57) (tgt := 90) X dX10_isRound_57 (by decide) hF (fun h9 hF => ?_) (fun h9 hF => ?_)
  · refine ww_iconst (pc := 90) X (v := 0) dX10_isRound_90 (by decide) ?_
    refine ww_istore_n (pc := 91) X (lv' := [(0, .ref (G.2.1 0)), (1, .int a1)]) dX10_isRound_91 rfl (by decide) rfl hF (fun x10 ex10 hF => ?_)
    exact ww_sub [1, 2, 0] rfl (lpc_ind (P := (fun (s : Int32 × Int32 × gS) => WW M (gQi M G zM out.1 out.2) G zM 4 s.2.2 92 [(0, .ref (G.2.1 0)), (1, .int s.1), (2, .int s.2.1)] [])) (fun rec s ih hF => wbX10_isRound_92 X σ1 (fun a1 a2 σ1 => rec (a1, a2, σ1)) (fun a1 a2 σ1 h => ih (a1, a2, σ1) h) s.1 s.2.1 s.2.2 hF) K9 (a1, x10, σ1) hF)
  · refine ww_iconst (pc := 60) X (v := 0) dX10_isRound_60 (by decide) ?_
    refine ww_istore_n (pc := 61) X (lv' := [(0, .ref (G.2.1 0)), (1, .int a1), (2, .int a2)]) dX10_isRound_61 rfl (by decide) rfl hF (fun x23 ex23 hF => ?_)
    exact ww_sub [1, 2, 3, 0] rfl (lpc_ind (P := (fun (s : Int32 × Int32 × gS) => WW M (gQi M G zM out.1 out.2) G zM 4 s.2.2 62 [(0, .ref (G.2.1 0)), (1, .int s.1), (2, .int a2), (3, .int s.2.1)] [])) (fun rec s ih hF => wbX10_isRound_62 X σ1 a2 rec52  ih52 (fun a1 a3 σ1 => rec (a1, a3, σ1)) (fun a1 a3 σ1 h => ih (a1, a3, σ1) h) s.1 s.2.1 s.2.2 hF) K9 (a1, x23, σ1) hF)
set_option maxRecDepth 100000 in
set_option maxHeartbeats 4000000 in
theorem wbX10_isRound_14 {M : gM} {G : gG} {out : Int32 × gS} (X : gX M G zM cX10_isRound RX10 4 wsX10_isRound rmX10_isRound (some .boolean)) (σ : gS) (c14_2 : Int32) (rec4 : Int32 → Int32 → gS → Option (Int32 × gS)) (ih4 : ∀ (a1 : Int32) (a2 : Int32) (σ1 : gS), rec4 a1 a2 σ1 = some out → WW M (gQi M G zM out.1 out.2) G zM 4 σ1 4 [(0, .ref (G.2.1 0)), (1, .int a1), (2, .int a2)] []) (rec14 : Int32 → Int32 → gS → Option (Int32 × gS)) (ih14 : ∀ (a1 : Int32) (a3 : Int32) (σ1 : gS), rec14 a1 a3 σ1 = some out → WW M (gQi M G zM out.1 out.2) G zM 4 σ1 14 [(0, .ref (G.2.1 0)), (1, .int a1), (2, .int c14_2), (3, .int a3)] []) (a1 : Int32) (a3 : Int32) (σ1 : gS) (hF : bX10_isRound_14 σ c14_2 rec4 rec14 a1 a3 σ1 = some out) : WW M (gQi M G zM out.1 out.2) G zM 4 σ1 14 [(0, .ref (G.2.1 0)), (1, .int a1), (2, .int c14_2), (3, .int a3)] [] := by
  unfold bX10_isRound_14 at hF
  refine ww_iload_n (pc := 14) X (j := 3) dX10_isRound_14 rfl rfl ?_
  refine ww_iconst (pc := 15) X (v := 2) dX10_isRound_15 (by decide) ?_
  refine ww_icmp_ge (pc := 16) (tgt := 44) X dX10_isRound_16 (by decide) hF (fun h34 hF => ?_) (fun h34 hF => ?_)
  · refine ww_iinc (pc := 44) X (j := 2) (v := 1) (lv' := [(0, .ref (G.2.1 0)), (1, .int a1), (3, .int a3)]) dX10_isRound_44 rfl rfl (by decide) rfl hF (fun x35 ex35 hF => ?_)
    refine ww_goto (pc := 47) X (tgt := 4) dX10_isRound_47 (by decide) ?_
    exact ww_sub [1, 2, 0] rfl (ih4 a1 x35 σ1 hF)
  · refine ww_aload_n (pc := 19) X (j := 0) dX10_isRound_19 rfl rfl ?_
    refine ww_iload_n (pc := 20) X (j := 2) dX10_isRound_20 rfl rfl ?_
    obtain ⟨r37, h36, hF⟩ := bd_some hF
    refine ww_callVi (pc := 21) X (As := [.int c14_2]) (rest := []) dX10_isRound_21 (kX10_isControl (mL M) G X.2.2.2.2.2.2.1 X.2.2.2.2.2.2.2.1 σ1 c14_2 r37 h36) rfl shzM_0 clzM_10 gX10_isRound_X10_isControl hyX10_isControl ⟨rfl, rfl⟩ ⟨Nat.le_of_ble_eq_true rfl, Nat.le_of_ble_eq_true rfl⟩ rfl rfl (Nat.le_of_ble_eq_true rfl) ?_
    refine ww_if_ne (pc := 24) (tgt := 38) X dX10_isRound_24 (by decide) hF (fun h38 hF => ?_) (fun h38 hF => ?_)
    · refine ww_iinc (pc := 38) X (j := 3) (v := 1) (lv' := [(0, .ref (G.2.1 0)), (1, .int a1), (2, .int c14_2)]) dX10_isRound_38 rfl rfl (by decide) rfl hF (fun x39 ex39 hF => ?_)
      refine ww_goto (pc := 41) X (tgt := 14) dX10_isRound_41 (by decide) ?_
      exact ww_sub [1, 2, 3, 0] rfl (ih14 a1 x39 σ1 hF)
    · refine ww_aload_n (pc := 27) X (j := 0) dX10_isRound_27 rfl rfl ?_
      refine ww_iload_n (pc := 28) X (j := 2) dX10_isRound_28 rfl rfl ?_
      refine ww_iload_n (pc := 29) X (j := 3) dX10_isRound_29 rfl rfl ?_
      obtain ⟨r41, σ42, h40, hF⟩ := bd2_some hF
      refine ww_callVi (pc := 30) X (As := [.int c14_2, .int a3]) (rest := []) dX10_isRound_30 (kX10_isPointAltered (mL M) G X.2.2.2.2.2.2.1 X.2.2.2.2.2.2.2.1 σ1 c14_2 a3 (r41, σ42) h40) rfl shzM_0 clzM_10 gX10_isRound_X10_isPointAltered hyX10_isPointAltered ⟨rfl, rfl⟩ ⟨Nat.le_of_ble_eq_true rfl, Nat.le_of_ble_eq_true rfl⟩ rfl rfl (Nat.le_of_ble_eq_true rfl) ?_
      refine ww_if_eq (pc := 33) (tgt := 38) X dX10_isRound_33 (by decide) hF (fun h43 hF => ?_) (fun h43 hF => ?_)
      · refine ww_iinc (pc := 38) X (j := 3) (v := 1) (lv' := [(0, .ref (G.2.1 0)), (1, .int a1), (2, .int c14_2)]) dX10_isRound_38 rfl rfl (by decide) rfl hF (fun x44 ex44 hF => ?_)
        refine ww_goto (pc := 41) X (tgt := 14) dX10_isRound_41 (by decide) ?_
        exact ww_sub [1, 2, 3, 0] rfl (ih14 a1 x44 σ42 hF)
      · refine ww_iconst (pc := 36) X (v := 1) dX10_isRound_36 (by decide) ?_
        refine ww_istore_n (pc := 37) X (lv' := [(0, .ref (G.2.1 0)), (2, .int c14_2), (3, .int a3)]) dX10_isRound_37 rfl (by decide) rfl hF (fun x45 ex45 hF => ?_)
        refine ww_iinc (pc := 38) X (j := 3) (v := 1) (lv' := [(1, .int x45), (0, .ref (G.2.1 0)), (2, .int c14_2)]) dX10_isRound_38 rfl rfl (by decide) rfl hF (fun x46 ex46 hF => ?_)
        refine ww_goto (pc := 41) X (tgt := 14) dX10_isRound_41 (by decide) ?_
        exact ww_sub [2, 1, 3, 0] rfl (ih14 x45 x46 σ42 hF)
set_option maxRecDepth 100000 in
set_option maxHeartbeats 4000000 in
theorem wbX10_isRound_4 {M : gM} {G : gG} {out : Int32 × gS} (X : gX M G zM cX10_isRound RX10 4 wsX10_isRound rmX10_isRound (some .boolean)) (σ : gS) (rec4 : Int32 → Int32 → gS → Option (Int32 × gS)) (ih4 : ∀ (a1 : Int32) (a2 : Int32) (σ1 : gS), rec4 a1 a2 σ1 = some out → WW M (gQi M G zM out.1 out.2) G zM 4 σ1 4 [(0, .ref (G.2.1 0)), (1, .int a1), (2, .int a2)] []) (a1 : Int32) (a2 : Int32) (σ1 : gS) (hF : bX10_isRound_4 σ rec4 a1 a2 σ1 = some out) : WW M (gQi M G zM out.1 out.2) G zM 4 σ1 4 [(0, .ref (G.2.1 0)), (1, .int a1), (2, .int a2)] [] := by
  unfold bX10_isRound_4 at hF
  refine ww_iload_n (pc := 4) X (j := 2) dX10_isRound_4 rfl rfl ?_
  refine ww_aload_n (pc := 5) X (j := 0) dX10_isRound_5 rfl rfl ?_
  obtain ⟨r4, h3, hF⟩ := bd_some hF
  refine ww_callVi (pc := 6) X (As := []) (rest := [.int a2]) dX10_isRound_6 (kX10_points (mL M) G X.2.2.2.2.2.2.1 X.2.2.2.2.2.2.2.1 σ1 r4 h3) rfl shzM_0 clzM_10 gX10_isRound_X10_points hyX10_points ⟨rfl, rfl⟩ ⟨Nat.le_of_ble_eq_true rfl, Nat.le_of_ble_eq_true rfl⟩ rfl rfl (Nat.le_of_ble_eq_true rfl) ?_
  refine ww_icmp_ge (pc := 9) (tgt := 50) X dX10_isRound_9 (by decide) hF (fun h5 hF => ?_) (fun h5 hF => ?_)
  · refine ww_iconst (pc := 50) X (v := 0) dX10_isRound_50 (by decide) ?_
    refine ww_istore_n (pc := 51) X (lv' := [(0, .ref (G.2.1 0)), (1, .int a1)]) dX10_isRound_51 rfl (by decide) rfl hF (fun x6 ex6 hF => ?_)
    exact ww_sub [1, 2, 0] rfl (lpc_ind (P := (fun (s : Int32 × Int32 × gS) => WW M (gQi M G zM out.1 out.2) G zM 4 s.2.2 52 [(0, .ref (G.2.1 0)), (1, .int s.1), (2, .int s.2.1)] [])) (fun rec s ih hF => wbX10_isRound_52 X σ1 (fun a1 a2 σ1 => rec (a1, a2, σ1)) (fun a1 a2 σ1 h => ih (a1, a2, σ1) h) s.1 s.2.1 s.2.2 hF) K9 (a1, x6, σ1) hF)
  · refine ww_iconst (pc := 12) X (v := 0) dX10_isRound_12 (by decide) ?_
    refine ww_istore_n (pc := 13) X (lv' := [(0, .ref (G.2.1 0)), (1, .int a1), (2, .int a2)]) dX10_isRound_13 rfl (by decide) rfl hF (fun x33 ex33 hF => ?_)
    exact ww_sub [1, 2, 3, 0] rfl (lpc_ind (P := (fun (s : Int32 × Int32 × gS) => WW M (gQi M G zM out.1 out.2) G zM 4 s.2.2 14 [(0, .ref (G.2.1 0)), (1, .int s.1), (2, .int a2), (3, .int s.2.1)] [])) (fun rec s ih hF => wbX10_isRound_14 X σ1 a2 rec4  ih4 (fun a1 a3 σ1 => rec (a1, a3, σ1)) (fun a1 a3 σ1 h => ih (a1, a3, σ1) h) s.1 s.2.1 s.2.2 hF) K9 (a1, x33, σ1) hF)
set_option maxRecDepth 100000 in
set_option maxHeartbeats 4000000 in
theorem wX10_isRound {M : gM} {G : gG} {out : Int32 × gS} (X : gX M G zM cX10_isRound RX10 4 wsX10_isRound rmX10_isRound (some .boolean)) (σ : gS) (hF : fX10_isRound σ = some out) : WW M (gQi M G zM out.1 out.2) G zM 4 σ 0 [(0, .ref (G.2.1 0))] [] := by
  unfold fX10_isRound at hF
  refine ww_iconst (pc := 0) X (v := 0) dX10_isRound_0 (by decide) ?_
  refine ww_istore_n (pc := 1) X (lv' := [(0, .ref (G.2.1 0))]) dX10_isRound_1 rfl (by decide) rfl hF (fun x1 ex1 hF => ?_)
  refine ww_iconst (pc := 2) X (v := 0) dX10_isRound_2 (by decide) ?_
  refine ww_istore_n (pc := 3) X (lv' := [(1, .int x1), (0, .ref (G.2.1 0))]) dX10_isRound_3 rfl (by decide) rfl hF (fun x2 ex2 hF => ?_)
  exact ww_sub [2, 1, 0] rfl (lpc_ind (P := (fun (s : Int32 × Int32 × gS) => WW M (gQi M G zM out.1 out.2) G zM 4 s.2.2 4 [(0, .ref (G.2.1 0)), (1, .int s.1), (2, .int s.2.1)] [])) (fun rec s ih hF => wbX10_isRound_4 X σ (fun a1 a2 σ1 => rec (a1, a2, σ1)) (fun a1 a2 σ1 h => ih (a1, a2, σ1) h) s.1 s.2.1 s.2.2 hF) K9 (x1, x2, σ) hF)
set_option maxRecDepth 100000 in
set_option maxHeartbeats 4000000 in
theorem kX10_isRound (l : Launch) (G : gG) (hG : gOK G zM.1) (hT : G.2.2.1.map (fun q => q.2) = zM.2.1) (σ : gS) (out : Int32 × gS) (hF : fX10_isRound σ = some out) : gCi l yX10_isRound wsX10_isRound rmX10_isRound G zM [.ref (G.2.1 0)] σ out.1 out.2 :=
  gEnter (by decide) rfl ⟨rfl, rfl⟩ hG hT (Nat.le_of_ble_eq_true rfl) rfl (fun M X hl => wX10_isRound X σ hF)
noncomputable def bX10_rests_2 (σ : gS) (c2_1 : Int32) (rec2 : Int32 → gS → Option (Int32 × gS)) (a2 : Int32) (σ1 : gS) : Option (Int32 × gS) :=
  if c2_1 ≤ a2 then some (a2, σ1) else bd2 (fX10_isRound σ1) fun r4 σ5 => (if r4 = 0 then some (a2, σ5) else nm (a2 + 1 : Int32) fun x7 => rec2 x7 σ5)
noncomputable def fX10_rests (σ : gS) (p1 : Int32) : Option (Int32 × gS) :=
  nm (0 : Int32) fun x1 => lpc (S := Int32 × gS) K9 (fun rec s => bX10_rests_2 σ p1 (fun a2 σ1 => rec (a2, σ1)) s.1 s.2) (x1, σ)
noncomputable abbrev rmX10_rests : Room := { frames := 5, cells := 0, slots := 0, locals := 116 }
set_option maxRecDepth 100000 in
set_option maxHeartbeats 4000000 in
theorem wbX10_rests_2 {M : gM} {G : gG} {out : Int32 × gS} (X : gX M G zM cX10_rests RX10 3 wsX10_rests rmX10_rests (some .int)) (σ : gS) (c2_1 : Int32) (rec2 : Int32 → gS → Option (Int32 × gS)) (ih2 : ∀ (a2 : Int32) (σ1 : gS), rec2 a2 σ1 = some out → WW M (gQi M G zM out.1 out.2) G zM 3 σ1 2 [(0, .ref (G.2.1 0)), (1, .int c2_1), (2, .int a2)] []) (a2 : Int32) (σ1 : gS) (hF : bX10_rests_2 σ c2_1 rec2 a2 σ1 = some out) : WW M (gQi M G zM out.1 out.2) G zM 3 σ1 2 [(0, .ref (G.2.1 0)), (1, .int c2_1), (2, .int a2)] [] := by
  unfold bX10_rests_2 at hF
  refine ww_iload_n (pc := 2) X (j := 2) dX10_rests_2 rfl rfl ?_
  refine ww_iload_n (pc := 3) X (j := 1) dX10_rests_3 rfl rfl ?_
  refine ww_icmp_ge (pc := 4) (tgt := 20) X dX10_rests_4 (by decide) hF (fun h2 hF => ?_) (fun h2 hF => ?_)
  · refine ww_iload_n (pc := 20) X (j := 2) dX10_rests_20 rfl rfl ?_
    exact ww_iret (pc := 21) X dX10_rests_21 (fst_of hF) (snd_of hF)
  · refine ww_aload_n (pc := 7) X (j := 0) dX10_rests_7 rfl rfl ?_
    obtain ⟨r4, σ5, h3, hF⟩ := bd2_some hF
    refine ww_callVi (pc := 8) X (As := []) (rest := []) dX10_rests_8 (kX10_isRound (mL M) G X.2.2.2.2.2.2.1 X.2.2.2.2.2.2.2.1 σ1 (r4, σ5) h3) rfl shzM_0 clzM_10 gX10_rests_X10_isRound hyX10_isRound ⟨rfl, rfl⟩ ⟨Nat.le_of_ble_eq_true rfl, Nat.le_of_ble_eq_true rfl⟩ rfl rfl (Nat.le_of_ble_eq_true rfl) ?_
    refine ww_if_eq (pc := 11) (tgt := 20) X dX10_rests_11 (by decide) hF (fun h6 hF => ?_) (fun h6 hF => ?_)
    · refine ww_iload_n (pc := 20) X (j := 2) dX10_rests_20 rfl rfl ?_
      exact ww_iret (pc := 21) X dX10_rests_21 (fst_of hF) (snd_of hF)
    · refine ww_iinc (pc := 14) X (j := 2) (v := 1) (lv' := [(0, .ref (G.2.1 0)), (1, .int c2_1)]) dX10_rests_14 rfl rfl (by decide) rfl hF (fun x7 ex7 hF => ?_)
      refine ww_goto (pc := 17) X (tgt := 2) dX10_rests_17 (by decide) ?_
      exact ww_sub [1, 2, 0] rfl (ih2 x7 σ5 hF)
set_option maxRecDepth 100000 in
set_option maxHeartbeats 4000000 in
theorem wX10_rests {M : gM} {G : gG} {out : Int32 × gS} (X : gX M G zM cX10_rests RX10 3 wsX10_rests rmX10_rests (some .int)) (σ : gS) (p1 : Int32) (hF : fX10_rests σ p1 = some out) : WW M (gQi M G zM out.1 out.2) G zM 3 σ 0 [(0, .ref (G.2.1 0)), (1, .int p1)] [] := by
  unfold fX10_rests at hF
  refine ww_iconst (pc := 0) X (v := 0) dX10_rests_0 (by decide) ?_
  refine ww_istore_n (pc := 1) X (lv' := [(0, .ref (G.2.1 0)), (1, .int p1)]) dX10_rests_1 rfl (by decide) rfl hF (fun x1 ex1 hF => ?_)
  exact ww_sub [1, 2, 0] rfl (lpc_ind (P := (fun (s : Int32 × gS) => WW M (gQi M G zM out.1 out.2) G zM 3 s.2 2 [(0, .ref (G.2.1 0)), (1, .int p1), (2, .int s.1)] [])) (fun rec s ih hF => wbX10_rests_2 X σ p1 (fun a2 σ1 => rec (a2, σ1)) (fun a2 σ1 h => ih (a2, σ1) h) s.1 s.2 hF) K9 (x1, σ) hF)
set_option maxRecDepth 100000 in
set_option maxHeartbeats 4000000 in
theorem kX10_rests (l : Launch) (G : gG) (hG : gOK G zM.1) (hT : G.2.2.1.map (fun q => q.2) = zM.2.1) (σ : gS) (p1 : Int32) (out : Int32 × gS) (hF : fX10_rests σ p1 = some out) : gCi l yX10_rests wsX10_rests rmX10_rests G zM [.ref (G.2.1 0), .int p1] σ out.1 out.2 :=
  gEnter (by decide) rfl ⟨rfl, rfl⟩ hG hT (Nat.le_of_ble_eq_true rfl) rfl (fun M X hl => wX10_rests X σ p1 hF)
noncomputable def fX10_rounds (σ : gS) (p1 : Int32) : Option (Int32 × gS) :=
  bd (fX10_isIn σ p1.toInt64 1 500) fun r2 => (if r2 = 0 then some ((-1), σ) else bd2 (fX10_rests σ p1) fun r5 σ6 => some (r5, σ6))
noncomputable abbrev rmX10_rounds : Room := { frames := 6, cells := 0, slots := 0, locals := 138 }
set_option maxRecDepth 100000 in
set_option maxHeartbeats 4000000 in
theorem wX10_rounds {M : gM} {G : gG} {out : Int32 × gS} (X : gX M G zM cX10_rounds RX10 2 wsX10_rounds rmX10_rounds (some .int)) (σ : gS) (p1 : Int32) (hF : fX10_rounds σ p1 = some out) : WW M (gQi M G zM out.1 out.2) G zM 2 σ 0 [(0, .ref (G.2.1 0)), (1, .int p1)] [] := by
  unfold fX10_rounds at hF
  refine ww_iload_n (pc := 0) X (j := 1) dX10_rounds_0 rfl rfl ?_
  refine ww_i2l (pc := 1) X dX10_rounds_1 ?_
  refine ww_lconst (pc := 2) X (v := 1) dX10_rounds_2 (by decide) ?_
  refine ww_ldc2 (pc := 3) X (v := 500) (List.mem_of_getElem? (i := 1) rfl) dX10_rounds_3 ?_
  obtain ⟨r2, h1, hF⟩ := bd_some hF
  refine ww_callSi (pc := 6) X (As := [.long p1.toInt64, .long 1, .long 500]) (rest := []) dX10_rounds_6 (kX10_isIn (mL M) G X.2.2.2.2.2.2.1 X.2.2.2.2.2.2.2.1 σ p1.toInt64 1 500 r2 h1) rfl gX10_rounds_X10_isIn hyX10_isIn ⟨rfl, rfl⟩ ⟨Nat.le_of_ble_eq_true rfl, Nat.le_of_ble_eq_true rfl⟩ rfl rfl (Nat.le_of_ble_eq_true rfl) ?_
  refine ww_if_eq (pc := 9) (tgt := 20) X dX10_rounds_9 (by decide) hF (fun h3 hF => ?_) (fun h3 hF => ?_)
  · refine ww_iconst (pc := 20) X (v := (-1)) dX10_rounds_20 (by decide) ?_
    exact ww_iret (pc := 21) X dX10_rounds_21 (fst_of hF) (snd_of hF)
  · refine ww_aload_n (pc := 12) X (j := 0) dX10_rounds_12 rfl rfl ?_
    refine ww_iload_n (pc := 13) X (j := 1) dX10_rounds_13 rfl rfl ?_
    obtain ⟨r5, σ6, h4, hF⟩ := bd2_some hF
    refine ww_callVi (pc := 14) X (As := [.int p1]) (rest := []) dX10_rounds_14 (kX10_rests (mL M) G X.2.2.2.2.2.2.1 X.2.2.2.2.2.2.2.1 σ p1 (r5, σ6) h4) rfl shzM_0 clzM_10 gX10_rounds_X10_rests hyX10_rests ⟨rfl, rfl⟩ ⟨Nat.le_of_ble_eq_true rfl, Nat.le_of_ble_eq_true rfl⟩ rfl rfl (Nat.le_of_ble_eq_true rfl) ?_
    refine ww_goto (pc := 17) X (tgt := 21) dX10_rounds_17 (by decide) ?_
    exact ww_iret (pc := 21) X dX10_rounds_21 (fst_of hF) (snd_of hF)
set_option maxRecDepth 100000 in
set_option maxHeartbeats 4000000 in
theorem kX10_rounds (l : Launch) (G : gG) (hG : gOK G zM.1) (hT : G.2.2.1.map (fun q => q.2) = zM.2.1) (σ : gS) (p1 : Int32) (out : Int32 × gS) (hF : fX10_rounds σ p1 = some out) : gCi l yX10_rounds wsX10_rounds rmX10_rounds G zM [.ref (G.2.1 0), .int p1] σ out.1 out.2 :=
  gEnter (by decide) rfl ⟨rfl, rfl⟩ hG hT (Nat.le_of_ble_eq_true rfl) rfl (fun M X hl => wX10_rounds X σ p1 hF)
noncomputable def fX10_doubtOf (σ : gS) (p1 : Int32) : Option (Int64) :=
  bd (fX10_miss σ p1 0) fun r2 => nm (r2.toInt64 : Int64) fun x3 => bd (fX10_miss σ p1 1) fun r5 => nm (r5.toInt64 : Int64) fun x6 => bd (fX10_weightOf σ p1) fun r8 => some (r8.toInt64 * ((x3 * x3) + (x6 * x6)))
noncomputable abbrev rmX10_doubtOf : Room := { frames := 4, cells := 0, slots := 0, locals := 92 }
set_option maxRecDepth 100000 in
set_option maxHeartbeats 4000000 in
theorem wX10_doubtOf {M : gM} {G : gG} {out : Int64} (X : gX M G zM cX10_doubtOf RX10 6 wsX10_doubtOf rmX10_doubtOf (some .long)) (σ : gS) (p1 : Int32) (hF : fX10_doubtOf σ p1 = some out) : WW M (gQl M G zM out σ) G zM 6 σ 0 [(0, .ref (G.2.1 0)), (1, .int p1)] [] := by
  unfold fX10_doubtOf at hF
  refine ww_aload_n (pc := 0) X (j := 0) dX10_doubtOf_0 rfl rfl ?_
  refine ww_iload_n (pc := 1) X (j := 1) dX10_doubtOf_1 rfl rfl ?_
  refine ww_iconst (pc := 2) X (v := 0) dX10_doubtOf_2 (by decide) ?_
  obtain ⟨r2, h1, hF⟩ := bd_some hF
  refine ww_callVi (pc := 3) X (As := [.int p1, .int 0]) (rest := []) dX10_doubtOf_3 (kX10_miss (mL M) G X.2.2.2.2.2.2.1 X.2.2.2.2.2.2.2.1 σ p1 0 r2 h1) rfl shzM_0 clzM_10 gX10_doubtOf_X10_miss hyX10_miss ⟨rfl, rfl⟩ ⟨Nat.le_of_ble_eq_true rfl, Nat.le_of_ble_eq_true rfl⟩ rfl rfl (Nat.le_of_ble_eq_true rfl) ?_
  refine ww_i2l (pc := 6) X dX10_doubtOf_6 ?_
  refine ww_lstore_n (pc := 7) X (lv' := [(0, .ref (G.2.1 0)), (1, .int p1)]) dX10_doubtOf_7 rfl (by decide) rfl hF (fun x3 ex3 hF => ?_)
  refine ww_aload_n (pc := 8) X (j := 1) dX10_doubtOf_8 rfl rfl ?_
  refine ww_iload_n (pc := 9) X (j := 2) dX10_doubtOf_9 rfl rfl ?_
  refine ww_iconst (pc := 10) X (v := 1) dX10_doubtOf_10 (by decide) ?_
  obtain ⟨r5, h4, hF⟩ := bd_some hF
  refine ww_callVi (pc := 11) X (As := [.int p1, .int 1]) (rest := []) dX10_doubtOf_11 (kX10_miss (mL M) G X.2.2.2.2.2.2.1 X.2.2.2.2.2.2.2.1 σ p1 1 r5 h4) rfl shzM_0 clzM_10 gX10_doubtOf_X10_miss hyX10_miss ⟨rfl, rfl⟩ ⟨Nat.le_of_ble_eq_true rfl, Nat.le_of_ble_eq_true rfl⟩ rfl rfl (Nat.le_of_ble_eq_true rfl) ?_
  refine ww_i2l (pc := 14) X dX10_doubtOf_14 ?_
  refine ww_lstore (pc := 15) X (lv' := [(2, .long x3), (0, .ref (G.2.1 0)), (1, .int p1)]) dX10_doubtOf_15 (by decide) rfl hF (fun x6 ex6 hF => ?_)
  refine ww_aload_n (pc := 17) X (j := 2) dX10_doubtOf_17 rfl rfl ?_
  refine ww_iload_n (pc := 18) X (j := 3) dX10_doubtOf_18 rfl rfl ?_
  obtain ⟨r8, h7, hF⟩ := bd_some hF
  refine ww_callVi (pc := 19) X (As := [.int p1]) (rest := []) dX10_doubtOf_19 (kX10_weightOf (mL M) G X.2.2.2.2.2.2.1 X.2.2.2.2.2.2.2.1 σ p1 r8 h7) rfl shzM_0 clzM_10 gX10_doubtOf_X10_weightOf hyX10_weightOf ⟨rfl, rfl⟩ ⟨Nat.le_of_ble_eq_true rfl, Nat.le_of_ble_eq_true rfl⟩ rfl rfl (Nat.le_of_ble_eq_true rfl) ?_
  refine ww_i2l (pc := 22) X dX10_doubtOf_22 ?_
  refine ww_lload_n (pc := 23) X (j := 1) dX10_doubtOf_23 rfl rfl ?_
  refine ww_lload_n (pc := 24) X (j := 1) dX10_doubtOf_24 rfl rfl ?_
  refine ww_lmul (pc := 25) X dX10_doubtOf_25 ?_
  refine ww_lload (pc := 26) X (j := 0) dX10_doubtOf_26 rfl ?_
  refine ww_lload (pc := 28) X (j := 0) dX10_doubtOf_28 rfl ?_
  refine ww_lmul (pc := 30) X dX10_doubtOf_30 ?_
  refine ww_ladd (pc := 31) X dX10_doubtOf_31 ?_
  refine ww_lmul (pc := 32) X dX10_doubtOf_32 ?_
  exact ww_lret (pc := 33) X dX10_doubtOf_33 (Option.some.inj hF) rfl
set_option maxRecDepth 100000 in
set_option maxHeartbeats 4000000 in
theorem kX10_doubtOf (l : Launch) (G : gG) (hG : gOK G zM.1) (hT : G.2.2.1.map (fun q => q.2) = zM.2.1) (σ : gS) (p1 : Int32) (out : Int64) (hF : fX10_doubtOf σ p1 = some out) : gCl l yX10_doubtOf wsX10_doubtOf rmX10_doubtOf G zM [.ref (G.2.1 0), .int p1] σ out σ :=
  gEnter (by decide) rfl ⟨rfl, rfl⟩ hG hT (Nat.le_of_ble_eq_true rfl) rfl (fun M X hl => wX10_doubtOf X σ p1 hF)
noncomputable def bX10_sum_48 (σ : gS) (c48_3 : Int32) (rec37 : Int64 → Int32 → Option (Int64)) (rec48 : Int64 → Int32 → Option (Int64)) (a1 : Int64) (a4 : Int32) : Option (Int64) :=
  if 2 ≤ a4 then nm (c48_3 + 1 : Int32) fun x12 => rec37 a1 x12 else gd (gb ((38 * a4) + c48_3) 76) <| nm (σ.1 28 ((38 * a4) + c48_3).toNatClampNeg) fun v13 => bd (fX10_strip σ c48_3) fun r15 => gd (gb (((38 * a4) + 32) + r15) 76) <| nm (σ.1 28 (((38 * a4) + 32) + r15).toNatClampNeg) fun v16 => gd (gb ((24 + (2 * c48_3)) + a4) 48) <| nm (σ.1 19 ((24 + (2 * c48_3)) + a4).toNatClampNeg) fun v17 => nm (((v13 - v16) - (100 * v17)).toInt64 : Int64) fun x18 => bd (fX10_centreOf σ c48_3) fun r20 => nm (a1 + ((r20.toInt64 * x18) * x18) : Int64) fun x21 => nm (a4 + 1 : Int32) fun x22 => rec48 x21 x22
noncomputable def bX10_sum_37 (σ : gS) (rec37 : Int64 → Int32 → Option (Int64)) (a1 : Int64) (a3 : Int32) : Option (Int64) :=
  bd (fX10_pictures σ) fun r8 => (if r8 ≤ a3 then some a1 else nm (0 : Int32) fun x10 => lpc (S := Int64 × Int32) K9 (fun rec s => bX10_sum_48 σ a3 rec37 (fun a1 a4 => rec (a1, a4)) s.1 s.2) (a1, x10))
noncomputable def bX10_sum_4 (σ : gS) (rec4 : Int64 → Int32 → Option (Int64)) (a1 : Int64) (a3 : Int32) : Option (Int64) :=
  bd (fX10_rows σ) fun r4 => (if r4 ≤ a3 then nm (0 : Int32) fun x6 => lpc (S := Int64 × Int32) K9 (fun rec s => bX10_sum_37 σ (fun a1 a3 => rec (a1, a3)) s.1 s.2) (a1, x6) else gd (gb a3 60) <| nm (σ.1 26 a3.toNatClampNeg) fun v23 => (if v23 = 0 then bd (fX10_doubtOf σ a3) fun r27 => nm (a1 + r27 : Int64) fun x28 => nm (a3 + 1 : Int32) fun x29 => rec4 x28 x29 else nm (a3 + 1 : Int32) fun x25 => rec4 a1 x25))
noncomputable def fX10_sum (σ : gS) : Option (Int64) :=
  nm (0 : Int64) fun x1 => nm (0 : Int32) fun x2 => lpc (S := Int64 × Int32) K9 (fun rec s => bX10_sum_4 σ (fun a1 a3 => rec (a1, a3)) s.1 s.2) (x1, x2)
noncomputable abbrev rmX10_sum : Room := { frames := 5, cells := 0, slots := 0, locals := 117 }
set_option maxRecDepth 100000 in
set_option maxHeartbeats 4000000 in
theorem wbX10_sum_48 {M : gM} {G : gG} {out : Int64} (X : gX M G zM cX10_sum RX10 7 wsX10_sum rmX10_sum (some .long)) (σ : gS) (c48_3 : Int32) (rec37 : Int64 → Int32 → Option (Int64)) (ih37 : ∀ (a1 : Int64) (a3 : Int32), rec37 a1 a3 = some out → WW M (gQl M G zM out σ) G zM 7 σ 37 [(0, .ref (G.2.1 0)), (1, .long a1), (3, .int a3)] []) (rec48 : Int64 → Int32 → Option (Int64)) (ih48 : ∀ (a1 : Int64) (a4 : Int32), rec48 a1 a4 = some out → WW M (gQl M G zM out σ) G zM 7 σ 48 [(0, .ref (G.2.1 0)), (1, .long a1), (3, .int c48_3), (4, .int a4)] []) (a1 : Int64) (a4 : Int32) (hF : bX10_sum_48 σ c48_3 rec37 rec48 a1 a4 = some out) : WW M (gQl M G zM out σ) G zM 7 σ 48 [(0, .ref (G.2.1 0)), (1, .long a1), (3, .int c48_3), (4, .int a4)] [] := by
  unfold bX10_sum_48 at hF
  refine ww_iload (pc := 48) X (j := 3) dX10_sum_48 rfl ?_
  refine ww_iconst (pc := 50) X (v := 2) dX10_sum_50 (by decide) ?_
  refine ww_icmp_ge (pc := 51) (tgt := 128) X dX10_sum_51 (by decide) hF (fun h11 hF => ?_) (fun h11 hF => ?_)
  · refine ww_iinc (pc := 128) X (j := 2) (v := 1) (lv' := [(0, .ref (G.2.1 0)), (1, .long a1), (4, .int a4)]) dX10_sum_128 rfl rfl (by decide) rfl hF (fun x12 ex12 hF => ?_)
    refine ww_goto (pc := 131) X (tgt := 37) dX10_sum_131 (by decide) ?_
    exact ww_sub [1, 2, 0] rfl (ih37 a1 x12 hF)
  · refine ww_aload_n (pc := 54) X (j := 0) dX10_sum_54 rfl rfl ?_
    refine ww_get (pc := 55) X (ref := "PictureBlockModel") (T := TX10) (j := 38) dX10_sum_55 inX10_sum_RX10 shzM_0 clzM_10 (by decide) rfl (List.mem_of_getElem? (i := 2) rfl) rfl ?_
    refine ww_bipush (pc := 58) X (v := 38) dX10_sum_58 (by decide) ?_
    refine ww_iload (pc := 60) X (j := 3) dX10_sum_60 rfl ?_
    refine ww_imul (pc := 62) X dX10_sum_62 ?_
    refine ww_iload_n (pc := 63) X (j := 2) dX10_sum_63 rfl rfl ?_
    refine ww_iadd (pc := 64) X dX10_sum_64 ?_
    refine ww_iald (pc := 65) X dX10_sum_65 shzM_28 rfl hF (fun v13 ev13 bv13 hF => ?_)
    refine ww_aload_n (pc := 66) X (j := 0) dX10_sum_66 rfl rfl ?_
    refine ww_get (pc := 67) X (ref := "PictureBlockModel") (T := TX10) (j := 38) dX10_sum_67 inX10_sum_RX10 shzM_0 clzM_10 (by decide) rfl (List.mem_of_getElem? (i := 2) rfl) rfl ?_
    refine ww_bipush (pc := 70) X (v := 38) dX10_sum_70 (by decide) ?_
    refine ww_iload (pc := 72) X (j := 3) dX10_sum_72 rfl ?_
    refine ww_imul (pc := 74) X dX10_sum_74 ?_
    refine ww_bipush (pc := 75) X (v := 32) dX10_sum_75 (by decide) ?_
    refine ww_iadd (pc := 77) X dX10_sum_77 ?_
    refine ww_aload_n (pc := 78) X (j := 0) dX10_sum_78 rfl rfl ?_
    refine ww_iload_n (pc := 79) X (j := 2) dX10_sum_79 rfl rfl ?_
    obtain ⟨r15, h14, hF⟩ := bd_some hF
    refine ww_callVi (pc := 80) X (As := [.int c48_3]) (rest := [.int ((38 * a4) + 32), .ref (G.2.1 28), .int v13]) dX10_sum_80 (kX10_strip (mL M) G X.2.2.2.2.2.2.1 X.2.2.2.2.2.2.2.1 σ c48_3 r15 h14) rfl shzM_0 clzM_10 gX10_sum_X10_strip hyX10_strip ⟨rfl, rfl⟩ ⟨Nat.le_of_ble_eq_true rfl, Nat.le_of_ble_eq_true rfl⟩ rfl rfl (Nat.le_of_ble_eq_true rfl) ?_
    refine ww_iadd (pc := 83) X dX10_sum_83 ?_
    refine ww_iald (pc := 84) X dX10_sum_84 shzM_28 rfl hF (fun v16 ev16 bv16 hF => ?_)
    refine ww_isub (pc := 85) X dX10_sum_85 ?_
    refine ww_bipush (pc := 86) X (v := 100) dX10_sum_86 (by decide) ?_
    refine ww_aload_n (pc := 88) X (j := 0) dX10_sum_88 rfl rfl ?_
    refine ww_get (pc := 89) X (ref := "PictureBlockModel") (T := TX10) (j := 27) dX10_sum_89 inX10_sum_RX10 shzM_0 clzM_10 (by decide) rfl (List.mem_of_getElem? (i := 3) rfl) rfl ?_
    refine ww_bipush (pc := 92) X (v := 24) dX10_sum_92 (by decide) ?_
    refine ww_iconst (pc := 94) X (v := 2) dX10_sum_94 (by decide) ?_
    refine ww_iload_n (pc := 95) X (j := 2) dX10_sum_95 rfl rfl ?_
    refine ww_imul (pc := 96) X dX10_sum_96 ?_
    refine ww_iadd (pc := 97) X dX10_sum_97 ?_
    refine ww_iload (pc := 98) X (j := 3) dX10_sum_98 rfl ?_
    refine ww_iadd (pc := 100) X dX10_sum_100 ?_
    refine ww_iald (pc := 101) X dX10_sum_101 shzM_19 rfl hF (fun v17 ev17 bv17 hF => ?_)
    refine ww_imul (pc := 102) X dX10_sum_102 ?_
    refine ww_isub (pc := 103) X dX10_sum_103 ?_
    refine ww_i2l (pc := 104) X dX10_sum_104 ?_
    refine ww_lstore (pc := 105) X (lv' := [(0, .ref (G.2.1 0)), (1, .long a1), (3, .int c48_3), (4, .int a4)]) dX10_sum_105 (by decide) rfl hF (fun x18 ex18 hF => ?_)
    refine ww_lload_n (pc := 107) X (j := 2) dX10_sum_107 rfl rfl ?_
    refine ww_aload_n (pc := 108) X (j := 1) dX10_sum_108 rfl rfl ?_
    refine ww_iload_n (pc := 109) X (j := 3) dX10_sum_109 rfl rfl ?_
    obtain ⟨r20, h19, hF⟩ := bd_some hF
    refine ww_callVi (pc := 110) X (As := [.int c48_3]) (rest := [.long a1]) dX10_sum_110 (kX10_centreOf (mL M) G X.2.2.2.2.2.2.1 X.2.2.2.2.2.2.2.1 σ c48_3 r20 h19) rfl shzM_0 clzM_10 gX10_sum_X10_centreOf hyX10_centreOf ⟨rfl, rfl⟩ ⟨Nat.le_of_ble_eq_true rfl, Nat.le_of_ble_eq_true rfl⟩ rfl rfl (Nat.le_of_ble_eq_true rfl) ?_
    refine ww_i2l (pc := 113) X dX10_sum_113 ?_
    refine ww_lload (pc := 114) X (j := 0) dX10_sum_114 rfl ?_
    refine ww_lmul (pc := 116) X dX10_sum_116 ?_
    refine ww_lload (pc := 117) X (j := 0) dX10_sum_117 rfl ?_
    refine ww_lmul (pc := 119) X dX10_sum_119 ?_
    refine ww_ladd (pc := 120) X dX10_sum_120 ?_
    refine ww_lstore_n (pc := 121) X (lv' := [(5, .long x18), (0, .ref (G.2.1 0)), (3, .int c48_3), (4, .int a4)]) dX10_sum_121 rfl (by decide) rfl hF (fun x21 ex21 hF => ?_)
    refine ww_iinc (pc := 122) X (j := 4) (v := 1) (lv' := [(1, .long x21), (5, .long x18), (0, .ref (G.2.1 0)), (3, .int c48_3)]) dX10_sum_122 rfl rfl (by decide) rfl hF (fun x22 ex22 hF => ?_)
    refine ww_goto (pc := 125) X (tgt := 48) dX10_sum_125 (by decide) ?_
    exact ww_sub [3, 1, 4, 0] rfl (ih48 x21 x22 hF)
set_option maxRecDepth 100000 in
set_option maxHeartbeats 4000000 in
theorem wbX10_sum_37 {M : gM} {G : gG} {out : Int64} (X : gX M G zM cX10_sum RX10 7 wsX10_sum rmX10_sum (some .long)) (σ : gS) (rec37 : Int64 → Int32 → Option (Int64)) (ih37 : ∀ (a1 : Int64) (a3 : Int32), rec37 a1 a3 = some out → WW M (gQl M G zM out σ) G zM 7 σ 37 [(0, .ref (G.2.1 0)), (1, .long a1), (3, .int a3)] []) (a1 : Int64) (a3 : Int32) (hF : bX10_sum_37 σ rec37 a1 a3 = some out) : WW M (gQl M G zM out σ) G zM 7 σ 37 [(0, .ref (G.2.1 0)), (1, .long a1), (3, .int a3)] [] := by
  unfold bX10_sum_37 at hF
  refine ww_iload_n (pc := 37) X (j := 2) dX10_sum_37 rfl rfl ?_
  refine ww_aload_n (pc := 38) X (j := 0) dX10_sum_38 rfl rfl ?_
  obtain ⟨r8, h7, hF⟩ := bd_some hF
  refine ww_callVi (pc := 39) X (As := []) (rest := [.int a3]) dX10_sum_39 (kX10_pictures (mL M) G X.2.2.2.2.2.2.1 X.2.2.2.2.2.2.2.1 σ r8 h7) rfl shzM_0 clzM_10 gX10_sum_X10_pictures hyX10_pictures ⟨rfl, rfl⟩ ⟨Nat.le_of_ble_eq_true rfl, Nat.le_of_ble_eq_true rfl⟩ rfl rfl (Nat.le_of_ble_eq_true rfl) ?_
  refine ww_icmp_ge (pc := 42) (tgt := 134) X dX10_sum_42 (by decide) hF (fun h9 hF => ?_) (fun h9 hF => ?_)
  · refine ww_lload_n (pc := 134) X (j := 1) dX10_sum_134 rfl rfl ?_
    exact ww_lret (pc := 135) X dX10_sum_135 (Option.some.inj hF) rfl
  · refine ww_iconst (pc := 45) X (v := 0) dX10_sum_45 (by decide) ?_
    refine ww_istore (pc := 46) X (lv' := [(0, .ref (G.2.1 0)), (1, .long a1), (3, .int a3)]) dX10_sum_46 (by decide) rfl hF (fun x10 ex10 hF => ?_)
    exact ww_sub [1, 2, 3, 0] rfl (lpc_ind (P := (fun (s : Int64 × Int32) => WW M (gQl M G zM out σ) G zM 7 σ 48 [(0, .ref (G.2.1 0)), (1, .long s.1), (3, .int a3), (4, .int s.2)] [])) (fun rec s ih hF => wbX10_sum_48 X σ a3 rec37  ih37 (fun a1 a4 => rec (a1, a4)) (fun a1 a4 h => ih (a1, a4) h) s.1 s.2 hF) K9 (a1, x10) hF)
set_option maxRecDepth 100000 in
set_option maxHeartbeats 4000000 in
theorem wbX10_sum_4 {M : gM} {G : gG} {out : Int64} (X : gX M G zM cX10_sum RX10 7 wsX10_sum rmX10_sum (some .long)) (σ : gS) (rec4 : Int64 → Int32 → Option (Int64)) (ih4 : ∀ (a1 : Int64) (a3 : Int32), rec4 a1 a3 = some out → WW M (gQl M G zM out σ) G zM 7 σ 4 [(0, .ref (G.2.1 0)), (1, .long a1), (3, .int a3)] []) (a1 : Int64) (a3 : Int32) (hF : bX10_sum_4 σ rec4 a1 a3 = some out) : WW M (gQl M G zM out σ) G zM 7 σ 4 [(0, .ref (G.2.1 0)), (1, .long a1), (3, .int a3)] [] := by
  unfold bX10_sum_4 at hF
  refine ww_iload_n (pc := 4) X (j := 2) dX10_sum_4 rfl rfl ?_
  refine ww_aload_n (pc := 5) X (j := 0) dX10_sum_5 rfl rfl ?_
  obtain ⟨r4, h3, hF⟩ := bd_some hF
  refine ww_callVi (pc := 6) X (As := []) (rest := [.int a3]) dX10_sum_6 (kX10_rows (mL M) G X.2.2.2.2.2.2.1 X.2.2.2.2.2.2.2.1 σ r4 h3) rfl shzM_0 clzM_10 gX10_sum_X10_rows hyX10_rows ⟨rfl, rfl⟩ ⟨Nat.le_of_ble_eq_true rfl, Nat.le_of_ble_eq_true rfl⟩ rfl rfl (Nat.le_of_ble_eq_true rfl) ?_
  refine ww_icmp_ge (pc := 9) (tgt := 35) X dX10_sum_9 (by decide) hF (fun h5 hF => ?_) (fun h5 hF => ?_)
  · refine ww_iconst (pc := 35) X (v := 0) dX10_sum_35 (by decide) ?_
    refine ww_istore_n (pc := 36) X (lv' := [(0, .ref (G.2.1 0)), (1, .long a1)]) dX10_sum_36 rfl (by decide) rfl hF (fun x6 ex6 hF => ?_)
    exact ww_sub [1, 2, 0] rfl (lpc_ind (P := (fun (s : Int64 × Int32) => WW M (gQl M G zM out σ) G zM 7 σ 37 [(0, .ref (G.2.1 0)), (1, .long s.1), (3, .int s.2)] [])) (fun rec s ih hF => wbX10_sum_37 X σ (fun a1 a3 => rec (a1, a3)) (fun a1 a3 h => ih (a1, a3) h) s.1 s.2 hF) K9 (a1, x6) hF)
  · refine ww_aload_n (pc := 12) X (j := 0) dX10_sum_12 rfl rfl ?_
    refine ww_get (pc := 13) X (ref := "PictureBlockModel") (T := TX10) (j := 35) dX10_sum_13 inX10_sum_RX10 shzM_0 clzM_10 (by decide) rfl (List.mem_of_getElem? (i := 1) rfl) rfl ?_
    refine ww_iload_n (pc := 16) X (j := 2) dX10_sum_16 rfl rfl ?_
    refine ww_zald (pc := 17) X dX10_sum_17 shzM_26 rfl hF (fun v23 ev23 bv23 hF => ?_)
    refine ww_if_ne (pc := 18) (tgt := 29) X dX10_sum_18 (by decide) hF (fun h24 hF => ?_) (fun h24 hF => ?_)
    · refine ww_iinc (pc := 29) X (j := 2) (v := 1) (lv' := [(0, .ref (G.2.1 0)), (1, .long a1)]) dX10_sum_29 rfl rfl (by decide) rfl hF (fun x25 ex25 hF => ?_)
      refine ww_goto (pc := 32) X (tgt := 4) dX10_sum_32 (by decide) ?_
      exact ww_sub [1, 2, 0] rfl (ih4 a1 x25 hF)
    · refine ww_lload_n (pc := 21) X (j := 1) dX10_sum_21 rfl rfl ?_
      refine ww_aload_n (pc := 22) X (j := 0) dX10_sum_22 rfl rfl ?_
      refine ww_iload_n (pc := 23) X (j := 2) dX10_sum_23 rfl rfl ?_
      obtain ⟨r27, h26, hF⟩ := bd_some hF
      refine ww_callVl (pc := 24) X (As := [.int a3]) (rest := [.long a1]) dX10_sum_24 (kX10_doubtOf (mL M) G X.2.2.2.2.2.2.1 X.2.2.2.2.2.2.2.1 σ a3 r27 h26) rfl shzM_0 clzM_10 gX10_sum_X10_doubtOf hyX10_doubtOf ⟨rfl, rfl⟩ ⟨Nat.le_of_ble_eq_true rfl, Nat.le_of_ble_eq_true rfl⟩ rfl rfl (Nat.le_of_ble_eq_true rfl) ?_
      refine ww_ladd (pc := 27) X dX10_sum_27 ?_
      refine ww_lstore_n (pc := 28) X (lv' := [(0, .ref (G.2.1 0)), (3, .int a3)]) dX10_sum_28 rfl (by decide) rfl hF (fun x28 ex28 hF => ?_)
      refine ww_iinc (pc := 29) X (j := 2) (v := 1) (lv' := [(1, .long x28), (0, .ref (G.2.1 0))]) dX10_sum_29 rfl rfl (by decide) rfl hF (fun x29 ex29 hF => ?_)
      refine ww_goto (pc := 32) X (tgt := 4) dX10_sum_32 (by decide) ?_
      exact ww_sub [2, 1, 0] rfl (ih4 x28 x29 hF)
set_option maxRecDepth 100000 in
set_option maxHeartbeats 4000000 in
theorem wX10_sum {M : gM} {G : gG} {out : Int64} (X : gX M G zM cX10_sum RX10 7 wsX10_sum rmX10_sum (some .long)) (σ : gS) (hF : fX10_sum σ = some out) : WW M (gQl M G zM out σ) G zM 7 σ 0 [(0, .ref (G.2.1 0))] [] := by
  unfold fX10_sum at hF
  refine ww_lconst (pc := 0) X (v := 0) dX10_sum_0 (by decide) ?_
  refine ww_lstore_n (pc := 1) X (lv' := [(0, .ref (G.2.1 0))]) dX10_sum_1 rfl (by decide) rfl hF (fun x1 ex1 hF => ?_)
  refine ww_iconst (pc := 2) X (v := 0) dX10_sum_2 (by decide) ?_
  refine ww_istore_n (pc := 3) X (lv' := [(1, .long x1), (0, .ref (G.2.1 0))]) dX10_sum_3 rfl (by decide) rfl hF (fun x2 ex2 hF => ?_)
  exact ww_sub [2, 1, 0] rfl (lpc_ind (P := (fun (s : Int64 × Int32) => WW M (gQl M G zM out σ) G zM 7 σ 4 [(0, .ref (G.2.1 0)), (1, .long s.1), (3, .int s.2)] [])) (fun rec s ih hF => wbX10_sum_4 X σ (fun a1 a3 => rec (a1, a3)) (fun a1 a3 h => ih (a1, a3) h) s.1 s.2 hF) K9 (x1, x2) hF)
set_option maxRecDepth 100000 in
set_option maxHeartbeats 4000000 in
theorem kX10_sum (l : Launch) (G : gG) (hG : gOK G zM.1) (hT : G.2.2.1.map (fun q => q.2) = zM.2.1) (σ : gS) (out : Int64) (hF : fX10_sum σ = some out) : gCl l yX10_sum wsX10_sum rmX10_sum G zM [.ref (G.2.1 0)] σ out σ :=
  gEnter (by decide) rfl ⟨rfl, rfl⟩ hG hT (Nat.le_of_ble_eq_true rfl) rfl (fun M X hl => wX10_sum X σ hF)
noncomputable def bX10_isUsed_33 (σ : gS) (c33_1 : Int32) (rec33 : Int32 → Option (Int32)) (a2 : Int32) : Option (Int32) :=
  bd (fX10_rows σ) fun r5 => (if r5 ≤ a2 then some 0 else gd (gb a2 60) <| nm (σ.1 26 a2.toNatClampNeg) fun v7 => (if v7 = 0 then if 12 ≤ c33_1 then bd (fX10_pointOf σ a2) fun r12 => (if r12 = (c33_1 - 12) then some 1 else nm (a2 + 1 : Int32) fun x14 => rec33 x14) else bd (fX10_pictureOf σ a2) fun r16 => (if r16 = c33_1 then some 1 else nm (a2 + 1 : Int32) fun x18 => rec33 x18) else nm (a2 + 1 : Int32) fun x9 => rec33 x9))
noncomputable def fX10_isUsed (σ : gS) (p1 : Int32) : Option (Int32) :=
  if p1 < 32 then if 12 ≤ p1 then nm (0 : Int32) fun x3 => lpc (S := Int32) K9 (fun rec s => bX10_isUsed_33 σ p1 (fun a2 => rec (a2)) s) (x3) else bd (fX10_centreOf σ p1) fun r20 => (if r20 ≤ 0 then nm (0 : Int32) fun x22 => lpc (S := Int32) K9 (fun rec s => bX10_isUsed_33 σ p1 (fun a2 => rec (a2)) s) (x22) else some 1) else bd (fX10_hasDrift σ (p1 - 32)) fun r24 => some (vp_nar .boolean r24)
noncomputable abbrev rmX10_isUsed : Room := { frames := 2, cells := 0, slots := 0, locals := 43 }
set_option maxRecDepth 100000 in
set_option maxHeartbeats 4000000 in
theorem wbX10_isUsed_33 {M : gM} {G : gG} {out : Int32} (X : gX M G zM cX10_isUsed RX10 3 wsX10_isUsed rmX10_isUsed (some .boolean)) (σ : gS) (c33_1 : Int32) (rec33 : Int32 → Option (Int32)) (ih33 : ∀ (a2 : Int32), rec33 a2 = some out → WW M (gQi M G zM out σ) G zM 3 σ 33 [(0, .ref (G.2.1 0)), (1, .int c33_1), (2, .int a2)] []) (a2 : Int32) (hF : bX10_isUsed_33 σ c33_1 rec33 a2 = some out) : WW M (gQi M G zM out σ) G zM 3 σ 33 [(0, .ref (G.2.1 0)), (1, .int c33_1), (2, .int a2)] [] := by
  unfold bX10_isUsed_33 at hF
  refine ww_iload_n (pc := 33) X (j := 2) dX10_isUsed_33 rfl rfl ?_
  refine ww_aload_n (pc := 34) X (j := 0) dX10_isUsed_34 rfl rfl ?_
  obtain ⟨r5, h4, hF⟩ := bd_some hF
  refine ww_callVi (pc := 35) X (As := []) (rest := [.int a2]) dX10_isUsed_35 (kX10_rows (mL M) G X.2.2.2.2.2.2.1 X.2.2.2.2.2.2.2.1 σ r5 h4) rfl shzM_0 clzM_10 gX10_isUsed_X10_rows hyX10_rows ⟨rfl, rfl⟩ ⟨Nat.le_of_ble_eq_true rfl, Nat.le_of_ble_eq_true rfl⟩ rfl rfl (Nat.le_of_ble_eq_true rfl) ?_
  refine ww_icmp_ge (pc := 38) (tgt := 88) X dX10_isUsed_38 (by decide) hF (fun h6 hF => ?_) (fun h6 hF => ?_)
  · refine ww_iconst (pc := 88) X (v := 0) dX10_isUsed_88 (by decide) ?_
    exact ww_zret (pc := 89) X dX10_isUsed_89 (by cases hF; rfl) rfl
  · refine ww_aload_n (pc := 41) X (j := 0) dX10_isUsed_41 rfl rfl ?_
    refine ww_get (pc := 42) X (ref := "PictureBlockModel") (T := TX10) (j := 35) dX10_isUsed_42 inX10_isUsed_RX10 shzM_0 clzM_10 (by decide) rfl (List.mem_of_getElem? (i := 1) rfl) rfl ?_
    refine ww_iload_n (pc := 45) X (j := 2) dX10_isUsed_45 rfl rfl ?_
    refine ww_zald (pc := 46) X dX10_isUsed_46 shzM_26 rfl hF (fun v7 ev7 bv7 hF => ?_)
    refine ww_if_ne (pc := 47) (tgt := 82) X dX10_isUsed_47 (by decide) hF (fun h8 hF => ?_) (fun h8 hF => ?_)
    · refine ww_iinc (pc := 82) X (j := 2) (v := 1) (lv' := [(0, .ref (G.2.1 0)), (1, .int c33_1)]) dX10_isUsed_82 rfl rfl (by decide) rfl hF (fun x9 ex9 hF => ?_)
      refine ww_goto (pc := 85) X (tgt := 33) dX10_isUsed_85 (by decide) ?_
      exact ww_sub [1, 2, 0] rfl (ih33 x9 hF)
    · refine ww_iload_n (pc := 50) X (j := 1) dX10_isUsed_50 rfl rfl ?_
      refine ww_bipush (pc := 51) X (v := 12) dX10_isUsed_51 (by decide) ?_
      refine ww_icmp_ge (pc := 53) (tgt := 68) X dX10_isUsed_53 (by decide) hF (fun h10 hF => ?_) (fun h10 hF => ?_)
      · refine ww_aload_n (pc := 68) X (j := 0) dX10_isUsed_68 rfl rfl ?_
        refine ww_iload_n (pc := 69) X (j := 2) dX10_isUsed_69 rfl rfl ?_
        obtain ⟨r12, h11, hF⟩ := bd_some hF
        refine ww_callVi (pc := 70) X (As := [.int a2]) (rest := []) dX10_isUsed_70 (kX10_pointOf (mL M) G X.2.2.2.2.2.2.1 X.2.2.2.2.2.2.2.1 σ a2 r12 h11) rfl shzM_0 clzM_10 gX10_isUsed_X10_pointOf hyX10_pointOf ⟨rfl, rfl⟩ ⟨Nat.le_of_ble_eq_true rfl, Nat.le_of_ble_eq_true rfl⟩ rfl rfl (Nat.le_of_ble_eq_true rfl) ?_
        refine ww_iload_n (pc := 73) X (j := 1) dX10_isUsed_73 rfl rfl ?_
        refine ww_bipush (pc := 74) X (v := 12) dX10_isUsed_74 (by decide) ?_
        refine ww_isub (pc := 76) X dX10_isUsed_76 ?_
        refine ww_icmp_ne (pc := 77) (tgt := 82) X dX10_isUsed_77 (by decide) hF (fun h13 hF => ?_) (fun h13 hF => ?_)
        · refine ww_iinc (pc := 82) X (j := 2) (v := 1) (lv' := [(0, .ref (G.2.1 0)), (1, .int c33_1)]) dX10_isUsed_82 rfl rfl (by decide) rfl hF (fun x14 ex14 hF => ?_)
          refine ww_goto (pc := 85) X (tgt := 33) dX10_isUsed_85 (by decide) ?_
          exact ww_sub [1, 2, 0] rfl (ih33 x14 hF)
        · refine ww_iconst (pc := 80) X (v := 1) dX10_isUsed_80 (by decide) ?_
          exact ww_zret (pc := 81) X dX10_isUsed_81 (by cases hF; rfl) rfl
      · refine ww_aload_n (pc := 56) X (j := 0) dX10_isUsed_56 rfl rfl ?_
        refine ww_iload_n (pc := 57) X (j := 2) dX10_isUsed_57 rfl rfl ?_
        obtain ⟨r16, h15, hF⟩ := bd_some hF
        refine ww_callVi (pc := 58) X (As := [.int a2]) (rest := []) dX10_isUsed_58 (kX10_pictureOf (mL M) G X.2.2.2.2.2.2.1 X.2.2.2.2.2.2.2.1 σ a2 r16 h15) rfl shzM_0 clzM_10 gX10_isUsed_X10_pictureOf hyX10_pictureOf ⟨rfl, rfl⟩ ⟨Nat.le_of_ble_eq_true rfl, Nat.le_of_ble_eq_true rfl⟩ rfl rfl (Nat.le_of_ble_eq_true rfl) ?_
        refine ww_iload_n (pc := 61) X (j := 1) dX10_isUsed_61 rfl rfl ?_
        refine ww_icmp_ne (pc := 62) (tgt := 82) X dX10_isUsed_62 (by decide) hF (fun h17 hF => ?_) (fun h17 hF => ?_)
        · refine ww_iinc (pc := 82) X (j := 2) (v := 1) (lv' := [(0, .ref (G.2.1 0)), (1, .int c33_1)]) dX10_isUsed_82 rfl rfl (by decide) rfl hF (fun x18 ex18 hF => ?_)
          refine ww_goto (pc := 85) X (tgt := 33) dX10_isUsed_85 (by decide) ?_
          exact ww_sub [1, 2, 0] rfl (ih33 x18 hF)
        · refine ww_goto (pc := 65) X (tgt := 80) dX10_isUsed_65 (by decide) ?_
          refine ww_iconst (pc := 80) X (v := 1) dX10_isUsed_80 (by decide) ?_
          exact ww_zret (pc := 81) X dX10_isUsed_81 (by cases hF; rfl) rfl
set_option maxRecDepth 100000 in
set_option maxHeartbeats 4000000 in
theorem wX10_isUsed {M : gM} {G : gG} {out : Int32} (X : gX M G zM cX10_isUsed RX10 3 wsX10_isUsed rmX10_isUsed (some .boolean)) (σ : gS) (p1 : Int32) (hF : fX10_isUsed σ p1 = some out) : WW M (gQi M G zM out σ) G zM 3 σ 0 [(0, .ref (G.2.1 0)), (1, .int p1)] [] := by
  unfold fX10_isUsed at hF
  refine ww_iload_n (pc := 0) X (j := 1) dX10_isUsed_0 rfl rfl ?_
  refine ww_bipush (pc := 1) X (v := 32) dX10_isUsed_1 (by decide) ?_
  refine ww_icmp_lt (pc := 3) (tgt := 15) X dX10_isUsed_3 (by decide) hF (fun h1 hF => ?_) (fun h1 hF => ?_)
  · refine ww_iload_n (pc := 15) X (j := 1) dX10_isUsed_15 rfl rfl ?_
    refine ww_bipush (pc := 16) X (v := 12) dX10_isUsed_16 (by decide) ?_
    refine ww_icmp_ge (pc := 18) (tgt := 31) X dX10_isUsed_18 (by decide) hF (fun h2 hF => ?_) (fun h2 hF => ?_)
    · refine ww_iconst (pc := 31) X (v := 0) dX10_isUsed_31 (by decide) ?_
      refine ww_istore_n (pc := 32) X (lv' := [(0, .ref (G.2.1 0)), (1, .int p1)]) dX10_isUsed_32 rfl (by decide) rfl hF (fun x3 ex3 hF => ?_)
      exact ww_sub [1, 2, 0] rfl (lpc_ind (P := (fun (s : Int32) => WW M (gQi M G zM out σ) G zM 3 σ 33 [(0, .ref (G.2.1 0)), (1, .int p1), (2, .int s)] [])) (fun rec s ih hF => wbX10_isUsed_33 X σ p1 (fun a2 => rec (a2)) (fun a2 h => ih (a2) h) s hF) K9 (x3) hF)
    · refine ww_aload_n (pc := 21) X (j := 0) dX10_isUsed_21 rfl rfl ?_
      refine ww_iload_n (pc := 22) X (j := 1) dX10_isUsed_22 rfl rfl ?_
      obtain ⟨r20, h19, hF⟩ := bd_some hF
      refine ww_callVi (pc := 23) X (As := [.int p1]) (rest := []) dX10_isUsed_23 (kX10_centreOf (mL M) G X.2.2.2.2.2.2.1 X.2.2.2.2.2.2.2.1 σ p1 r20 h19) rfl shzM_0 clzM_10 gX10_isUsed_X10_centreOf hyX10_centreOf ⟨rfl, rfl⟩ ⟨Nat.le_of_ble_eq_true rfl, Nat.le_of_ble_eq_true rfl⟩ rfl rfl (Nat.le_of_ble_eq_true rfl) ?_
      refine ww_if_le (pc := 26) (tgt := 31) X dX10_isUsed_26 (by decide) hF (fun h21 hF => ?_) (fun h21 hF => ?_)
      · refine ww_iconst (pc := 31) X (v := 0) dX10_isUsed_31 (by decide) ?_
        refine ww_istore_n (pc := 32) X (lv' := [(0, .ref (G.2.1 0)), (1, .int p1)]) dX10_isUsed_32 rfl (by decide) rfl hF (fun x22 ex22 hF => ?_)
        exact ww_sub [1, 2, 0] rfl (lpc_ind (P := (fun (s : Int32) => WW M (gQi M G zM out σ) G zM 3 σ 33 [(0, .ref (G.2.1 0)), (1, .int p1), (2, .int s)] [])) (fun rec s ih hF => wbX10_isUsed_33 X σ p1 (fun a2 => rec (a2)) (fun a2 h => ih (a2) h) s hF) K9 (x22) hF)
      · refine ww_iconst (pc := 29) X (v := 1) dX10_isUsed_29 (by decide) ?_
        exact ww_zret (pc := 30) X dX10_isUsed_30 (by cases hF; rfl) rfl
  · refine ww_aload_n (pc := 6) X (j := 0) dX10_isUsed_6 rfl rfl ?_
    refine ww_iload_n (pc := 7) X (j := 1) dX10_isUsed_7 rfl rfl ?_
    refine ww_bipush (pc := 8) X (v := 32) dX10_isUsed_8 (by decide) ?_
    refine ww_isub (pc := 10) X dX10_isUsed_10 ?_
    obtain ⟨r24, h23, hF⟩ := bd_some hF
    refine ww_callVi (pc := 11) X (As := [.int (p1 - 32)]) (rest := []) dX10_isUsed_11 (kX10_hasDrift (mL M) G X.2.2.2.2.2.2.1 X.2.2.2.2.2.2.2.1 σ (p1 - 32) r24 h23) rfl shzM_0 clzM_10 gX10_isUsed_X10_hasDrift hyX10_hasDrift ⟨rfl, rfl⟩ ⟨Nat.le_of_ble_eq_true rfl, Nat.le_of_ble_eq_true rfl⟩ rfl rfl (Nat.le_of_ble_eq_true rfl) ?_
    exact ww_zret (pc := 14) X dX10_isUsed_14 (by cases hF; rfl) rfl
set_option maxRecDepth 100000 in
set_option maxHeartbeats 4000000 in
theorem kX10_isUsed (l : Launch) (G : gG) (hG : gOK G zM.1) (hT : G.2.2.1.map (fun q => q.2) = zM.2.1) (σ : gS) (p1 : Int32) (out : Int32) (hF : fX10_isUsed σ p1 = some out) : gCi l yX10_isUsed wsX10_isUsed rmX10_isUsed G zM [.ref (G.2.1 0), .int p1] σ out σ :=
  gEnter (by decide) rfl ⟨rfl, rfl⟩ hG hT (Nat.le_of_ble_eq_true rfl) rfl (fun M X hl => wX10_isUsed X σ p1 hF)
noncomputable def bX10_numberOf_2 (σ : gS) (c2_1 : Int32) (rec2 : Int32 → Option (Int32)) (a2 : Int32) : Option (Int32) :=
  if (σ.1 0 43) ≤ a2 then some ((-1)) else gd (gb a2 38) <| nm (σ.1 30 a2.toNatClampNeg) fun v3 => (if v3 = c2_1 then some a2 else nm (a2 + 1 : Int32) fun x5 => rec2 x5)
noncomputable def fX10_numberOf (σ : gS) (p1 : Int32) : Option (Int32) :=
  nm (0 : Int32) fun x1 => lpc (S := Int32) K9 (fun rec s => bX10_numberOf_2 σ p1 (fun a2 => rec (a2)) s) (x1)
noncomputable abbrev rmX10_numberOf : Room := { frames := 0, cells := 0, slots := 0, locals := 0 }
set_option maxRecDepth 100000 in
set_option maxHeartbeats 4000000 in
theorem wbX10_numberOf_2 {M : gM} {G : gG} {out : Int32} (X : gX M G zM cX10_numberOf RX10 3 wsX10_numberOf rmX10_numberOf (some .int)) (σ : gS) (c2_1 : Int32) (rec2 : Int32 → Option (Int32)) (ih2 : ∀ (a2 : Int32), rec2 a2 = some out → WW M (gQi M G zM out σ) G zM 3 σ 2 [(0, .ref (G.2.1 0)), (1, .int c2_1), (2, .int a2)] []) (a2 : Int32) (hF : bX10_numberOf_2 σ c2_1 rec2 a2 = some out) : WW M (gQi M G zM out σ) G zM 3 σ 2 [(0, .ref (G.2.1 0)), (1, .int c2_1), (2, .int a2)] [] := by
  unfold bX10_numberOf_2 at hF
  refine ww_iload_n (pc := 2) X (j := 2) dX10_numberOf_2 rfl rfl ?_
  refine ww_aload_n (pc := 3) X (j := 0) dX10_numberOf_3 rfl rfl ?_
  refine ww_get (pc := 4) X (ref := "PictureBlockModel") (T := TX10) (j := 43) dX10_numberOf_4 inX10_numberOf_RX10 shzM_0 clzM_10 (by decide) rfl (List.mem_of_getElem? (i := 1) rfl) rfl ?_
  refine ww_icmp_ge (pc := 7) (tgt := 28) X dX10_numberOf_7 (by decide) hF (fun h2 hF => ?_) (fun h2 hF => ?_)
  · refine ww_iconst (pc := 28) X (v := (-1)) dX10_numberOf_28 (by decide) ?_
    exact ww_iret (pc := 29) X dX10_numberOf_29 (Option.some.inj hF) rfl
  · refine ww_aload_n (pc := 10) X (j := 0) dX10_numberOf_10 rfl rfl ?_
    refine ww_get (pc := 11) X (ref := "PictureBlockModel") (T := TX10) (j := 42) dX10_numberOf_11 inX10_numberOf_RX10 shzM_0 clzM_10 (by decide) rfl (List.mem_of_getElem? (i := 2) rfl) rfl ?_
    refine ww_iload_n (pc := 14) X (j := 2) dX10_numberOf_14 rfl rfl ?_
    refine ww_iald (pc := 15) X dX10_numberOf_15 shzM_30 rfl hF (fun v3 ev3 bv3 hF => ?_)
    refine ww_iload_n (pc := 16) X (j := 1) dX10_numberOf_16 rfl rfl ?_
    refine ww_icmp_ne (pc := 17) (tgt := 22) X dX10_numberOf_17 (by decide) hF (fun h4 hF => ?_) (fun h4 hF => ?_)
    · refine ww_iinc (pc := 22) X (j := 2) (v := 1) (lv' := [(0, .ref (G.2.1 0)), (1, .int c2_1)]) dX10_numberOf_22 rfl rfl (by decide) rfl hF (fun x5 ex5 hF => ?_)
      refine ww_goto (pc := 25) X (tgt := 2) dX10_numberOf_25 (by decide) ?_
      exact ww_sub [1, 2, 0] rfl (ih2 x5 hF)
    · refine ww_iload_n (pc := 20) X (j := 2) dX10_numberOf_20 rfl rfl ?_
      exact ww_iret (pc := 21) X dX10_numberOf_21 (Option.some.inj hF) rfl
set_option maxRecDepth 100000 in
set_option maxHeartbeats 4000000 in
theorem wX10_numberOf {M : gM} {G : gG} {out : Int32} (X : gX M G zM cX10_numberOf RX10 3 wsX10_numberOf rmX10_numberOf (some .int)) (σ : gS) (p1 : Int32) (hF : fX10_numberOf σ p1 = some out) : WW M (gQi M G zM out σ) G zM 3 σ 0 [(0, .ref (G.2.1 0)), (1, .int p1)] [] := by
  unfold fX10_numberOf at hF
  refine ww_iconst (pc := 0) X (v := 0) dX10_numberOf_0 (by decide) ?_
  refine ww_istore_n (pc := 1) X (lv' := [(0, .ref (G.2.1 0)), (1, .int p1)]) dX10_numberOf_1 rfl (by decide) rfl hF (fun x1 ex1 hF => ?_)
  exact ww_sub [1, 2, 0] rfl (lpc_ind (P := (fun (s : Int32) => WW M (gQi M G zM out σ) G zM 3 σ 2 [(0, .ref (G.2.1 0)), (1, .int p1), (2, .int s)] [])) (fun rec s ih hF => wbX10_numberOf_2 X σ p1 (fun a2 => rec (a2)) (fun a2 h => ih (a2) h) s hF) K9 (x1) hF)
set_option maxRecDepth 100000 in
set_option maxHeartbeats 4000000 in
theorem kX10_numberOf (l : Launch) (G : gG) (hG : gOK G zM.1) (hT : G.2.2.1.map (fun q => q.2) = zM.2.1) (σ : gS) (p1 : Int32) (out : Int32) (hF : fX10_numberOf σ p1 = some out) : gCi l yX10_numberOf wsX10_numberOf rmX10_numberOf G zM [.ref (G.2.1 0), .int p1] σ out σ :=
  gEnter (by decide) rfl ⟨rfl, rfl⟩ hG hT (Nat.le_of_ble_eq_true rfl) rfl (fun M X hl => wX10_numberOf X σ p1 hF)
noncomputable def fX10_modulo (σ : gS) (p0 : Int64) : Option (Int64) :=
  some (lrm ((lrm p0 1000003) + 1000003) 1000003)
noncomputable abbrev rmX10_modulo : Room := { frames := 0, cells := 0, slots := 0, locals := 0 }
set_option maxRecDepth 100000 in
set_option maxHeartbeats 4000000 in
theorem wX10_modulo {M : gM} {G : gG} {out : Int64} (X : gX M G zM cX10_modulo RX10 2 wsX10_modulo rmX10_modulo (some .long)) (σ : gS) (p0 : Int64) (hF : fX10_modulo σ p0 = some out) : WW M (gQl M G zM out σ) G zM 2 σ 0 [(0, .long p0)] [] := by
  unfold fX10_modulo at hF
  refine ww_lload_n (pc := 0) X (j := 0) dX10_modulo_0 rfl rfl ?_
  refine ww_ldc2 (pc := 1) X (v := 1000003) (List.mem_of_getElem? (i := 1) rfl) dX10_modulo_1 ?_
  refine ww_lrem (pc := 4) X dX10_modulo_4 (by decide) ?_
  refine ww_ldc2 (pc := 5) X (v := 1000003) (List.mem_of_getElem? (i := 1) rfl) dX10_modulo_5 ?_
  refine ww_ladd (pc := 8) X dX10_modulo_8 ?_
  refine ww_ldc2 (pc := 9) X (v := 1000003) (List.mem_of_getElem? (i := 1) rfl) dX10_modulo_9 ?_
  refine ww_lrem (pc := 12) X dX10_modulo_12 (by decide) ?_
  exact ww_lret (pc := 13) X dX10_modulo_13 (Option.some.inj hF) rfl
set_option maxRecDepth 100000 in
set_option maxHeartbeats 4000000 in
theorem kX10_modulo (l : Launch) (G : gG) (hG : gOK G zM.1) (hT : G.2.2.1.map (fun q => q.2) = zM.2.1) (σ : gS) (p0 : Int64) (out : Int64) (hF : fX10_modulo σ p0 = some out) : gCl l yX10_modulo wsX10_modulo rmX10_modulo G zM [.long p0] σ out σ :=
  gEnter (by decide) rfl ⟨rfl, rfl⟩ hG hT (Nat.le_of_ble_eq_true rfl) rfl (fun M X hl => wX10_modulo X σ p0 hF)
noncomputable def fX10_adds (σ : gS) (p1 : Int32) (p2 : Int32) (p3 : Int64) : Option (gS) :=
  gd (gb ((40 * p1) + p2) 1520) <| nm (σ.2 31 ((40 * p1) + p2).toNatClampNeg) fun v1 => bd (fX10_modulo σ (v1 + p3)) fun r3 => gd (gb ((40 * p1) + p2) 1520) <| nm (gsL σ 31 ((40 * p1) + p2).toNatClampNeg r3) fun σ4 => some σ4
noncomputable abbrev rmX10_adds : Room := { frames := 1, cells := 0, slots := 0, locals := 21 }
set_option maxRecDepth 100000 in
set_option maxHeartbeats 4000000 in
theorem wX10_adds {M : gM} {G : gG} {out : gS} (X : gX M G zM cX10_adds RX10 5 wsX10_adds rmX10_adds none) (σ : gS) (p1 : Int32) (p2 : Int32) (p3 : Int64) (hF : fX10_adds σ p1 p2 p3 = some out) : WW M (gQv M G zM out) G zM 5 σ 0 [(0, .ref (G.2.1 0)), (1, .int p1), (2, .int p2), (3, .long p3)] [] := by
  unfold fX10_adds at hF
  refine ww_aload_n (pc := 0) X (j := 0) dX10_adds_0 rfl rfl ?_
  refine ww_get (pc := 1) X (ref := "PictureBlockModel") (T := TX10) (j := 44) dX10_adds_1 inX10_adds_RX10 shzM_0 clzM_10 (by decide) rfl (List.mem_of_getElem? (i := 1) rfl) rfl ?_
  refine ww_bipush (pc := 4) X (v := 40) dX10_adds_4 (by decide) ?_
  refine ww_iload_n (pc := 6) X (j := 1) dX10_adds_6 rfl rfl ?_
  refine ww_imul (pc := 7) X dX10_adds_7 ?_
  refine ww_iload_n (pc := 8) X (j := 2) dX10_adds_8 rfl rfl ?_
  refine ww_iadd (pc := 9) X dX10_adds_9 ?_
  refine ww_aload_n (pc := 10) X (j := 0) dX10_adds_10 rfl rfl ?_
  refine ww_get (pc := 11) X (ref := "PictureBlockModel") (T := TX10) (j := 44) dX10_adds_11 inX10_adds_RX10 shzM_0 clzM_10 (by decide) rfl (List.mem_of_getElem? (i := 1) rfl) rfl ?_
  refine ww_bipush (pc := 14) X (v := 40) dX10_adds_14 (by decide) ?_
  refine ww_iload_n (pc := 16) X (j := 1) dX10_adds_16 rfl rfl ?_
  refine ww_imul (pc := 17) X dX10_adds_17 ?_
  refine ww_iload_n (pc := 18) X (j := 2) dX10_adds_18 rfl rfl ?_
  refine ww_iadd (pc := 19) X dX10_adds_19 ?_
  refine ww_lald (pc := 20) X dX10_adds_20 shzM_31 rfl hF (fun v1 ev1 bv1 hF => ?_)
  refine ww_lload_n (pc := 21) X (j := 3) dX10_adds_21 rfl rfl ?_
  refine ww_ladd (pc := 22) X dX10_adds_22 ?_
  obtain ⟨r3, h2, hF⟩ := bd_some hF
  refine ww_callSl (pc := 23) X (As := [.long (v1 + p3)]) (rest := [.int ((40 * p1) + p2), .ref (G.2.1 31)]) dX10_adds_23 (kX10_modulo (mL M) G X.2.2.2.2.2.2.1 X.2.2.2.2.2.2.2.1 σ (v1 + p3) r3 h2) rfl gX10_adds_X10_modulo hyX10_modulo ⟨rfl, rfl⟩ ⟨Nat.le_of_ble_eq_true rfl, Nat.le_of_ble_eq_true rfl⟩ rfl rfl (Nat.le_of_ble_eq_true rfl) ?_
  refine ww_last (pc := 26) X dX10_adds_26 shzM_31 rfl hF (fun σ4 eσ4 bσ4 hF => ?_)
  exact ww_vret (pc := 27) X dX10_adds_27 (by cases hF; rfl)
set_option maxRecDepth 100000 in
set_option maxHeartbeats 4000000 in
theorem kX10_adds (l : Launch) (G : gG) (hG : gOK G zM.1) (hT : G.2.2.1.map (fun q => q.2) = zM.2.1) (σ : gS) (p1 : Int32) (p2 : Int32) (p3 : Int64) (out : gS) (hF : fX10_adds σ p1 p2 p3 = some out) : gCv l yX10_adds wsX10_adds rmX10_adds G zM [.ref (G.2.1 0), .int p1, .int p2, .long p3] σ out :=
  gEnter (by decide) rfl ⟨rfl, rfl⟩ hG hT (Nat.le_of_ble_eq_true rfl) rfl (fun M X hl => wX10_adds X σ p1 p2 p3 hF)
noncomputable def jX10_addsTie_22 (σ : gS) (a1 : Int32) (a3 : Int32) (a4 : Int32) (a5 : Int32) : Option (gS) :=
  bd (fX10_adds σ a1 38 (a3.toInt64 * a4.toInt64)) fun σ5 => bd (fX10_adds σ5 a1 39 (a3.toInt64 * a5.toInt64)) fun σ7 => some σ7
noncomputable def fX10_addsTie (σ : gS) (p1 : Int32) (p2 : Int32) (p3 : Int32) (p4 : Int32) (p5 : Int32) : Option (gS) :=
  bd (fX10_adds σ p1 p1 p3.toInt64) fun σ2 => (if p2 = ((-1)) then jX10_addsTie_22 σ2 p1 p3 p4 p5 else bd (fX10_adds σ2 p1 p2 ((-p3).toInt64)) fun σ9 => jX10_addsTie_22 σ9 p1 p3 p4 p5)
noncomputable abbrev rmX10_addsTie : Room := { frames := 2, cells := 0, slots := 0, locals := 45 }
set_option maxRecDepth 100000 in
set_option maxHeartbeats 4000000 in
theorem wjX10_addsTie_22 {M : gM} {G : gG} {out : gS} (X : gX M G zM cX10_addsTie RX10 6 wsX10_addsTie rmX10_addsTie none) (σ : gS) (a1 : Int32) (a3 : Int32) (a4 : Int32) (a5 : Int32) (hF : jX10_addsTie_22 σ a1 a3 a4 a5 = some out) : WW M (gQv M G zM out) G zM 6 σ 22 [(0, .ref (G.2.1 0)), (1, .int a1), (3, .int a3), (4, .int a4), (5, .int a5)] [] := by
  unfold jX10_addsTie_22 at hF
  refine ww_aload_n (pc := 22) X (j := 0) dX10_addsTie_22 rfl rfl ?_
  refine ww_iload_n (pc := 23) X (j := 1) dX10_addsTie_23 rfl rfl ?_
  refine ww_bipush (pc := 24) X (v := 38) dX10_addsTie_24 (by decide) ?_
  refine ww_iload_n (pc := 26) X (j := 2) dX10_addsTie_26 rfl rfl ?_
  refine ww_i2l (pc := 27) X dX10_addsTie_27 ?_
  refine ww_iload (pc := 28) X (j := 3) dX10_addsTie_28 rfl ?_
  refine ww_i2l (pc := 30) X dX10_addsTie_30 ?_
  refine ww_lmul (pc := 31) X dX10_addsTie_31 ?_
  obtain ⟨σ5, h4, hF⟩ := bd_some hF
  refine ww_callVv (pc := 32) X (As := [.int a1, .int 38, .long (a3.toInt64 * a4.toInt64)]) (rest := []) dX10_addsTie_32 (kX10_adds (mL M) G X.2.2.2.2.2.2.1 X.2.2.2.2.2.2.2.1 σ a1 38 (a3.toInt64 * a4.toInt64) σ5 h4) rfl shzM_0 clzM_10 gX10_addsTie_X10_adds hyX10_adds ⟨rfl, rfl⟩ ⟨Nat.le_of_ble_eq_true rfl, Nat.le_of_ble_eq_true rfl⟩ rfl rfl (Nat.le_of_ble_eq_true rfl) ?_
  refine ww_aload_n (pc := 35) X (j := 0) dX10_addsTie_35 rfl rfl ?_
  refine ww_iload_n (pc := 36) X (j := 1) dX10_addsTie_36 rfl rfl ?_
  refine ww_bipush (pc := 37) X (v := 39) dX10_addsTie_37 (by decide) ?_
  refine ww_iload_n (pc := 39) X (j := 2) dX10_addsTie_39 rfl rfl ?_
  refine ww_i2l (pc := 40) X dX10_addsTie_40 ?_
  refine ww_iload (pc := 41) X (j := 4) dX10_addsTie_41 rfl ?_
  refine ww_i2l (pc := 43) X dX10_addsTie_43 ?_
  refine ww_lmul (pc := 44) X dX10_addsTie_44 ?_
  obtain ⟨σ7, h6, hF⟩ := bd_some hF
  refine ww_callVv (pc := 45) X (As := [.int a1, .int 39, .long (a3.toInt64 * a5.toInt64)]) (rest := []) dX10_addsTie_45 (kX10_adds (mL M) G X.2.2.2.2.2.2.1 X.2.2.2.2.2.2.2.1 σ5 a1 39 (a3.toInt64 * a5.toInt64) σ7 h6) rfl shzM_0 clzM_10 gX10_addsTie_X10_adds hyX10_adds ⟨rfl, rfl⟩ ⟨Nat.le_of_ble_eq_true rfl, Nat.le_of_ble_eq_true rfl⟩ rfl rfl (Nat.le_of_ble_eq_true rfl) ?_
  exact ww_vret (pc := 48) X dX10_addsTie_48 (by cases hF; rfl)
set_option maxRecDepth 100000 in
set_option maxHeartbeats 4000000 in
theorem wX10_addsTie {M : gM} {G : gG} {out : gS} (X : gX M G zM cX10_addsTie RX10 6 wsX10_addsTie rmX10_addsTie none) (σ : gS) (p1 : Int32) (p2 : Int32) (p3 : Int32) (p4 : Int32) (p5 : Int32) (hF : fX10_addsTie σ p1 p2 p3 p4 p5 = some out) : WW M (gQv M G zM out) G zM 6 σ 0 [(0, .ref (G.2.1 0)), (1, .int p1), (2, .int p2), (3, .int p3), (4, .int p4), (5, .int p5)] [] := by
  unfold fX10_addsTie at hF
  refine ww_aload_n (pc := 0) X (j := 0) dX10_addsTie_0 rfl rfl ?_
  refine ww_iload_n (pc := 1) X (j := 1) dX10_addsTie_1 rfl rfl ?_
  refine ww_iload_n (pc := 2) X (j := 1) dX10_addsTie_2 rfl rfl ?_
  refine ww_iload_n (pc := 3) X (j := 3) dX10_addsTie_3 rfl rfl ?_
  refine ww_i2l (pc := 4) X dX10_addsTie_4 ?_
  obtain ⟨σ2, h1, hF⟩ := bd_some hF
  refine ww_callVv (pc := 5) X (As := [.int p1, .int p1, .long p3.toInt64]) (rest := []) dX10_addsTie_5 (kX10_adds (mL M) G X.2.2.2.2.2.2.1 X.2.2.2.2.2.2.2.1 σ p1 p1 p3.toInt64 σ2 h1) rfl shzM_0 clzM_10 gX10_addsTie_X10_adds hyX10_adds ⟨rfl, rfl⟩ ⟨Nat.le_of_ble_eq_true rfl, Nat.le_of_ble_eq_true rfl⟩ rfl rfl (Nat.le_of_ble_eq_true rfl) ?_
  refine ww_iload_n (pc := 8) X (j := 2) dX10_addsTie_8 rfl rfl ?_
  refine ww_iconst (pc := 9) X (v := (-1)) dX10_addsTie_9 (by decide) ?_
  refine ww_icmp_eq (pc := 10) (tgt := 22) X dX10_addsTie_10 (by decide) hF (fun h3 hF => ?_) (fun h3 hF => ?_)
  · exact ww_sub [0, 1, 3, 4, 5] rfl (wjX10_addsTie_22 X σ2 p1 p3 p4 p5 hF)
  · refine ww_aload_n (pc := 13) X (j := 0) dX10_addsTie_13 rfl rfl ?_
    refine ww_iload_n (pc := 14) X (j := 1) dX10_addsTie_14 rfl rfl ?_
    refine ww_iload_n (pc := 15) X (j := 2) dX10_addsTie_15 rfl rfl ?_
    refine ww_iload_n (pc := 16) X (j := 3) dX10_addsTie_16 rfl rfl ?_
    refine ww_ineg (pc := 17) X dX10_addsTie_17 ?_
    refine ww_i2l (pc := 18) X dX10_addsTie_18 ?_
    obtain ⟨σ9, h8, hF⟩ := bd_some hF
    refine ww_callVv (pc := 19) X (As := [.int p1, .int p2, .long ((-p3).toInt64)]) (rest := []) dX10_addsTie_19 (kX10_adds (mL M) G X.2.2.2.2.2.2.1 X.2.2.2.2.2.2.2.1 σ2 p1 p2 ((-p3).toInt64) σ9 h8) rfl shzM_0 clzM_10 gX10_addsTie_X10_adds hyX10_adds ⟨rfl, rfl⟩ ⟨Nat.le_of_ble_eq_true rfl, Nat.le_of_ble_eq_true rfl⟩ rfl rfl (Nat.le_of_ble_eq_true rfl) ?_
    exact ww_sub [0, 1, 3, 4, 5] rfl (wjX10_addsTie_22 X σ9 p1 p3 p4 p5 hF)
set_option maxRecDepth 100000 in
set_option maxHeartbeats 4000000 in
theorem kX10_addsTie (l : Launch) (G : gG) (hG : gOK G zM.1) (hT : G.2.2.1.map (fun q => q.2) = zM.2.1) (σ : gS) (p1 : Int32) (p2 : Int32) (p3 : Int32) (p4 : Int32) (p5 : Int32) (out : gS) (hF : fX10_addsTie σ p1 p2 p3 p4 p5 = some out) : gCv l yX10_addsTie wsX10_addsTie rmX10_addsTie G zM [.ref (G.2.1 0), .int p1, .int p2, .int p3, .int p4, .int p5] σ out :=
  gEnter (by decide) rfl ⟨rfl, rfl⟩ hG hT (Nat.le_of_ble_eq_true rfl) rfl (fun M X hl => wX10_addsTie X σ p1 p2 p3 p4 p5 hF)
noncomputable def bX10_equations_322 (σ : gS) (rec322 : Int32 → gS → Option (gS)) (a1 : Int32) (σ1 : gS) : Option (gS) :=
  bd (fX10_pictures σ1) fun r12 => (if r12 ≤ a1 then some σ1 else bd (fX10_centreOf σ1 a1) fun r15 => (if r15 = 0 then nm (a1 + 1 : Int32) fun x38 => rec322 x38 σ1 else bd (fX10_numberOf σ1 a1) fun r18 => nm (r18 : Int32) fun x19 => bd (fX10_strip σ1 a1) fun r21 => bd (fX10_numberOf σ1 (32 + r21)) fun r23 => nm (r23 : Int32) fun x24 => bd (fX10_centreOf σ1 a1) fun r26 => gd (gb (24 + (2 * a1)) 48) <| nm (σ1.1 19 (24 + (2 * a1)).toNatClampNeg) fun v27 => gd (gb (25 + (2 * a1)) 48) <| nm (σ1.1 19 (25 + (2 * a1)).toNatClampNeg) fun v28 => bd (fX10_addsTie σ1 x19 x24 r26 (100 * v27) (100 * v28)) fun σ30 => bd (fX10_centreOf σ30 a1) fun r32 => gd (gb (24 + (2 * a1)) 48) <| nm (σ30.1 19 (24 + (2 * a1)).toNatClampNeg) fun v33 => gd (gb (25 + (2 * a1)) 48) <| nm (σ30.1 19 (25 + (2 * a1)).toNatClampNeg) fun v34 => bd (fX10_addsTie σ30 x24 x19 r32 (((-100)) * v33) (((-100)) * v34)) fun σ36 => nm (a1 + 1 : Int32) fun x37 => rec322 x37 σ36))
noncomputable def bX10_equations_156 (σ : gS) (rec156 : Int32 → gS → Option (gS)) (a1 : Int32) (σ1 : gS) : Option (gS) :=
  bd (fX10_rows σ1) fun r8 => (if r8 ≤ a1 then nm (0 : Int32) fun x10 => lpc (S := Int32 × gS) K9 (fun rec s => bX10_equations_322 σ1 (fun a1 σ1 => rec (a1, σ1)) s.1 s.2) (x10, σ1) else gd (gb a1 60) <| nm (σ1.1 26 a1.toNatClampNeg) fun v39 => (if v39 = 0 then bd (fX10_pictureOf σ1 a1) fun r42 => bd (fX10_numberOf σ1 r42) fun r44 => nm (r44 : Int32) fun x45 => bd (fX10_pointOf σ1 a1) fun r47 => bd (fX10_numberOf σ1 (12 + r47)) fun r49 => nm (r49 : Int32) fun x50 => bd (fX10_pointOf σ1 a1) fun r52 => nm (40 + (2 * r52) : Int32) fun x53 => (if x50 = ((-1)) then bd (fX10_weightOf σ1 a1) fun r73 => gd (gb x53 80) <| nm (σ1.1 21 x53.toNatClampNeg) fun v74 => bd (fX10_turned σ1 a1 0) fun r76 => gd (gb (x53 + 1) 80) <| nm (σ1.1 21 (x53 + 1).toNatClampNeg) fun v77 => bd (fX10_turned σ1 a1 1) fun r79 => bd (fX10_addsTie σ1 x45 ((-1)) r73 ((100 * v74) - r76) ((100 * v77) - r79)) fun σ81 => nm (a1 + 1 : Int32) fun x82 => rec156 x82 σ81 else bd (fX10_weightOf σ1 a1) fun r56 => bd (fX10_turned σ1 a1 0) fun r58 => bd (fX10_turned σ1 a1 1) fun r60 => bd (fX10_addsTie σ1 x45 x50 r56 (-r58) (-r60)) fun σ62 => bd (fX10_weightOf σ62 a1) fun r64 => bd (fX10_turned σ62 a1 0) fun r66 => bd (fX10_turned σ62 a1 1) fun r68 => bd (fX10_addsTie σ62 x50 x45 r64 r66 r68) fun σ70 => nm (a1 + 1 : Int32) fun x71 => rec156 x71 σ70) else nm (a1 + 1 : Int32) fun x83 => rec156 x83 σ1))
noncomputable def bX10_equations_134 (σ : gS) (rec134 : Int32 → gS → Option (gS)) (a1 : Int32) (σ1 : gS) : Option (gS) :=
  if 1520 ≤ a1 then nm (0 : Int32) fun x6 => lpc (S := Int32 × gS) K9 (fun rec s => bX10_equations_156 σ1 (fun a1 σ1 => rec (a1, σ1)) s.1 s.2) (x6, σ1) else gd (gb a1 1520) <| nm (gsL σ1 31 a1.toNatClampNeg 0) fun σ84 => nm (a1 + 1 : Int32) fun x85 => rec134 x85 σ84
noncomputable def jX10_equations_90 (σ : gS) (rec7 : Int32 → gS → Option (gS)) (a1 : Int32) (z0 : Int32) : Option (gS) :=
  nm (z0 : Int32) fun x90 => (if x90 = 0 then nm (a1 + 1 : Int32) fun x92 => rec7 x92 σ else bd (fX10_isUsed σ a1) fun r94 => (if r94 = 0 then nm (a1 + 1 : Int32) fun x99 => rec7 x99 σ else gd (gb (σ.1 0 43) 38) <| nm (gsI σ 30 (σ.1 0 43).toNatClampNeg a1) fun σ96 => nm (gsI σ96 0 43 ((σ96.1 0 43) + 1)) fun σ97 => nm (a1 + 1 : Int32) fun x98 => rec7 x98 σ97))
noncomputable def bX10_equations_7 (σ : gS) (rec7 : Int32 → gS → Option (gS)) (a1 : Int32) (σ1 : gS) : Option (gS) :=
  if 38 ≤ a1 then nm (0 : Int32) fun x4 => lpc (S := Int32 × gS) K9 (fun rec s => bX10_equations_134 σ1 (fun a1 σ1 => rec (a1, σ1)) s.1 s.2) (x4, σ1) else if 12 ≤ a1 then if 32 ≤ a1 then gd (gb 6 12) <| nm (σ1.1 15 ((6 : Int32).toNatClampNeg)) fun v88 => (if v88 ≤ (a1 - 32) then jX10_equations_90 σ1 rec7 a1 0 else jX10_equations_90 σ1 rec7 a1 1) else bd (fX10_points σ1) fun r101 => (if r101 ≤ (a1 - 12) then jX10_equations_90 σ1 rec7 a1 0 else bd (fX10_isControl σ1 (a1 - 12)) fun r104 => (if r104 = 0 then jX10_equations_90 σ1 rec7 a1 1 else jX10_equations_90 σ1 rec7 a1 0)) else bd (fX10_pictures σ1) fun r107 => (if r107 ≤ a1 then jX10_equations_90 σ1 rec7 a1 0 else jX10_equations_90 σ1 rec7 a1 1)
noncomputable def fX10_equations (σ : gS) : Option (gS) :=
  nm (gsI σ 0 43 0) fun σ1 => nm (0 : Int32) fun x2 => lpc (S := Int32 × gS) K9 (fun rec s => bX10_equations_7 σ1 (fun a1 σ1 => rec (a1, σ1)) s.1 s.2) (x2, σ1)
noncomputable abbrev rmX10_equations : Room := { frames := 3, cells := 0, slots := 0, locals := 70 }
set_option maxRecDepth 100000 in
set_option maxHeartbeats 4000000 in
theorem wbX10_equations_322 {M : gM} {G : gG} {out : gS} (X : gX M G zM cX10_equations RX10 5 wsX10_equations rmX10_equations none) (σ : gS) (rec322 : Int32 → gS → Option (gS)) (ih322 : ∀ (a1 : Int32) (σ1 : gS), rec322 a1 σ1 = some out → WW M (gQv M G zM out) G zM 5 σ1 322 [(0, .ref (G.2.1 0)), (1, .int a1)] []) (a1 : Int32) (σ1 : gS) (hF : bX10_equations_322 σ rec322 a1 σ1 = some out) : WW M (gQv M G zM out) G zM 5 σ1 322 [(0, .ref (G.2.1 0)), (1, .int a1)] [] := by
  unfold bX10_equations_322 at hF
  refine ww_iload_n (pc := 322) X (j := 1) dX10_equations_322 rfl rfl ?_
  refine ww_aload_n (pc := 323) X (j := 0) dX10_equations_323 rfl rfl ?_
  obtain ⟨r12, h11, hF⟩ := bd_some hF
  refine ww_callVi (pc := 324) X (As := []) (rest := [.int a1]) dX10_equations_324 (kX10_pictures (mL M) G X.2.2.2.2.2.2.1 X.2.2.2.2.2.2.2.1 σ1 r12 h11) rfl shzM_0 clzM_10 gX10_equations_X10_pictures hyX10_pictures ⟨rfl, rfl⟩ ⟨Nat.le_of_ble_eq_true rfl, Nat.le_of_ble_eq_true rfl⟩ rfl rfl (Nat.le_of_ble_eq_true rfl) ?_
  refine ww_icmp_ge (pc := 327) (tgt := 444) X dX10_equations_327 (by decide) hF (fun h13 hF => ?_) (fun h13 hF => ?_)
  · exact ww_vret (pc := 444) X dX10_equations_444 (by cases hF; rfl)
  · refine ww_aload_n (pc := 330) X (j := 0) dX10_equations_330 rfl rfl ?_
    refine ww_iload_n (pc := 331) X (j := 1) dX10_equations_331 rfl rfl ?_
    obtain ⟨r15, h14, hF⟩ := bd_some hF
    refine ww_callVi (pc := 332) X (As := [.int a1]) (rest := []) dX10_equations_332 (kX10_centreOf (mL M) G X.2.2.2.2.2.2.1 X.2.2.2.2.2.2.2.1 σ1 a1 r15 h14) rfl shzM_0 clzM_10 gX10_equations_X10_centreOf hyX10_centreOf ⟨rfl, rfl⟩ ⟨Nat.le_of_ble_eq_true rfl, Nat.le_of_ble_eq_true rfl⟩ rfl rfl (Nat.le_of_ble_eq_true rfl) ?_
    refine ww_if_ne (pc := 335) (tgt := 341) X dX10_equations_335 (by decide) hF (fun h16 hF => ?_) (fun h16 hF => ?_)
    · refine ww_aload_n (pc := 341) X (j := 0) dX10_equations_341 rfl rfl ?_
      refine ww_iload_n (pc := 342) X (j := 1) dX10_equations_342 rfl rfl ?_
      obtain ⟨r18, h17, hF⟩ := bd_some hF
      refine ww_callVi (pc := 343) X (As := [.int a1]) (rest := []) dX10_equations_343 (kX10_numberOf (mL M) G X.2.2.2.2.2.2.1 X.2.2.2.2.2.2.2.1 σ1 a1 r18 h17) rfl shzM_0 clzM_10 gX10_equations_X10_numberOf hyX10_numberOf ⟨rfl, rfl⟩ ⟨Nat.le_of_ble_eq_true rfl, Nat.le_of_ble_eq_true rfl⟩ rfl rfl (Nat.le_of_ble_eq_true rfl) ?_
      refine ww_istore_n (pc := 346) X (lv' := [(0, .ref (G.2.1 0)), (1, .int a1)]) dX10_equations_346 rfl (by decide) rfl hF (fun x19 ex19 hF => ?_)
      refine ww_aload_n (pc := 347) X (j := 1) dX10_equations_347 rfl rfl ?_
      refine ww_bipush (pc := 348) X (v := 32) dX10_equations_348 (by decide) ?_
      refine ww_aload_n (pc := 350) X (j := 1) dX10_equations_350 rfl rfl ?_
      refine ww_iload_n (pc := 351) X (j := 2) dX10_equations_351 rfl rfl ?_
      obtain ⟨r21, h20, hF⟩ := bd_some hF
      refine ww_callVi (pc := 352) X (As := [.int a1]) (rest := [.int 32, .ref (G.2.1 0)]) dX10_equations_352 (kX10_strip (mL M) G X.2.2.2.2.2.2.1 X.2.2.2.2.2.2.2.1 σ1 a1 r21 h20) rfl shzM_0 clzM_10 gX10_equations_X10_strip hyX10_strip ⟨rfl, rfl⟩ ⟨Nat.le_of_ble_eq_true rfl, Nat.le_of_ble_eq_true rfl⟩ rfl rfl (Nat.le_of_ble_eq_true rfl) ?_
      refine ww_iadd (pc := 355) X dX10_equations_355 ?_
      obtain ⟨r23, h22, hF⟩ := bd_some hF
      refine ww_callVi (pc := 356) X (As := [.int (32 + r21)]) (rest := []) dX10_equations_356 (kX10_numberOf (mL M) G X.2.2.2.2.2.2.1 X.2.2.2.2.2.2.2.1 σ1 (32 + r21) r23 h22) rfl shzM_0 clzM_10 gX10_equations_X10_numberOf hyX10_numberOf ⟨rfl, rfl⟩ ⟨Nat.le_of_ble_eq_true rfl, Nat.le_of_ble_eq_true rfl⟩ rfl rfl (Nat.le_of_ble_eq_true rfl) ?_
      refine ww_istore_n (pc := 359) X (lv' := [(2, .int x19), (0, .ref (G.2.1 0)), (1, .int a1)]) dX10_equations_359 rfl (by decide) rfl hF (fun x24 ex24 hF => ?_)
      refine ww_aload_n (pc := 360) X (j := 2) dX10_equations_360 rfl rfl ?_
      refine ww_iload_n (pc := 361) X (j := 1) dX10_equations_361 rfl rfl ?_
      refine ww_iload_n (pc := 362) X (j := 0) dX10_equations_362 rfl rfl ?_
      refine ww_aload_n (pc := 363) X (j := 2) dX10_equations_363 rfl rfl ?_
      refine ww_iload_n (pc := 364) X (j := 3) dX10_equations_364 rfl rfl ?_
      obtain ⟨r26, h25, hF⟩ := bd_some hF
      refine ww_callVi (pc := 365) X (As := [.int a1]) (rest := [.int x24, .int x19, .ref (G.2.1 0)]) dX10_equations_365 (kX10_centreOf (mL M) G X.2.2.2.2.2.2.1 X.2.2.2.2.2.2.2.1 σ1 a1 r26 h25) rfl shzM_0 clzM_10 gX10_equations_X10_centreOf hyX10_centreOf ⟨rfl, rfl⟩ ⟨Nat.le_of_ble_eq_true rfl, Nat.le_of_ble_eq_true rfl⟩ rfl rfl (Nat.le_of_ble_eq_true rfl) ?_
      refine ww_bipush (pc := 368) X (v := 100) dX10_equations_368 (by decide) ?_
      refine ww_aload_n (pc := 370) X (j := 2) dX10_equations_370 rfl rfl ?_
      refine ww_get (pc := 371) X (ref := "PictureBlockModel") (T := TX10) (j := 27) dX10_equations_371 inX10_equations_RX10 shzM_0 clzM_10 (by decide) rfl (List.mem_of_getElem? (i := 7) rfl) rfl ?_
      refine ww_bipush (pc := 374) X (v := 24) dX10_equations_374 (by decide) ?_
      refine ww_iconst (pc := 376) X (v := 2) dX10_equations_376 (by decide) ?_
      refine ww_iload_n (pc := 377) X (j := 3) dX10_equations_377 rfl rfl ?_
      refine ww_imul (pc := 378) X dX10_equations_378 ?_
      refine ww_iadd (pc := 379) X dX10_equations_379 ?_
      refine ww_iald (pc := 380) X dX10_equations_380 shzM_19 rfl hF (fun v27 ev27 bv27 hF => ?_)
      refine ww_imul (pc := 381) X dX10_equations_381 ?_
      refine ww_bipush (pc := 382) X (v := 100) dX10_equations_382 (by decide) ?_
      refine ww_aload_n (pc := 384) X (j := 2) dX10_equations_384 rfl rfl ?_
      refine ww_get (pc := 385) X (ref := "PictureBlockModel") (T := TX10) (j := 27) dX10_equations_385 inX10_equations_RX10 shzM_0 clzM_10 (by decide) rfl (List.mem_of_getElem? (i := 7) rfl) rfl ?_
      refine ww_bipush (pc := 388) X (v := 25) dX10_equations_388 (by decide) ?_
      refine ww_iconst (pc := 390) X (v := 2) dX10_equations_390 (by decide) ?_
      refine ww_iload_n (pc := 391) X (j := 3) dX10_equations_391 rfl rfl ?_
      refine ww_imul (pc := 392) X dX10_equations_392 ?_
      refine ww_iadd (pc := 393) X dX10_equations_393 ?_
      refine ww_iald (pc := 394) X dX10_equations_394 shzM_19 rfl hF (fun v28 ev28 bv28 hF => ?_)
      refine ww_imul (pc := 395) X dX10_equations_395 ?_
      obtain ⟨σ30, h29, hF⟩ := bd_some hF
      refine ww_callVv (pc := 396) X (As := [.int x19, .int x24, .int r26, .int (100 * v27), .int (100 * v28)]) (rest := []) dX10_equations_396 (kX10_addsTie (mL M) G X.2.2.2.2.2.2.1 X.2.2.2.2.2.2.2.1 σ1 x19 x24 r26 (100 * v27) (100 * v28) σ30 h29) rfl shzM_0 clzM_10 gX10_equations_X10_addsTie hyX10_addsTie ⟨rfl, rfl⟩ ⟨Nat.le_of_ble_eq_true rfl, Nat.le_of_ble_eq_true rfl⟩ rfl rfl (Nat.le_of_ble_eq_true rfl) ?_
      refine ww_aload_n (pc := 399) X (j := 2) dX10_equations_399 rfl rfl ?_
      refine ww_iload_n (pc := 400) X (j := 0) dX10_equations_400 rfl rfl ?_
      refine ww_iload_n (pc := 401) X (j := 1) dX10_equations_401 rfl rfl ?_
      refine ww_aload_n (pc := 402) X (j := 2) dX10_equations_402 rfl rfl ?_
      refine ww_iload_n (pc := 403) X (j := 3) dX10_equations_403 rfl rfl ?_
      obtain ⟨r32, h31, hF⟩ := bd_some hF
      refine ww_callVi (pc := 404) X (As := [.int a1]) (rest := [.int x19, .int x24, .ref (G.2.1 0)]) dX10_equations_404 (kX10_centreOf (mL M) G X.2.2.2.2.2.2.1 X.2.2.2.2.2.2.2.1 σ30 a1 r32 h31) rfl shzM_0 clzM_10 gX10_equations_X10_centreOf hyX10_centreOf ⟨rfl, rfl⟩ ⟨Nat.le_of_ble_eq_true rfl, Nat.le_of_ble_eq_true rfl⟩ rfl rfl (Nat.le_of_ble_eq_true rfl) ?_
      refine ww_bipush (pc := 407) X (v := (-100)) dX10_equations_407 (by decide) ?_
      refine ww_aload_n (pc := 409) X (j := 2) dX10_equations_409 rfl rfl ?_
      refine ww_get (pc := 410) X (ref := "PictureBlockModel") (T := TX10) (j := 27) dX10_equations_410 inX10_equations_RX10 shzM_0 clzM_10 (by decide) rfl (List.mem_of_getElem? (i := 7) rfl) rfl ?_
      refine ww_bipush (pc := 413) X (v := 24) dX10_equations_413 (by decide) ?_
      refine ww_iconst (pc := 415) X (v := 2) dX10_equations_415 (by decide) ?_
      refine ww_iload_n (pc := 416) X (j := 3) dX10_equations_416 rfl rfl ?_
      refine ww_imul (pc := 417) X dX10_equations_417 ?_
      refine ww_iadd (pc := 418) X dX10_equations_418 ?_
      refine ww_iald (pc := 419) X dX10_equations_419 shzM_19 rfl hF (fun v33 ev33 bv33 hF => ?_)
      refine ww_imul (pc := 420) X dX10_equations_420 ?_
      refine ww_bipush (pc := 421) X (v := (-100)) dX10_equations_421 (by decide) ?_
      refine ww_aload_n (pc := 423) X (j := 2) dX10_equations_423 rfl rfl ?_
      refine ww_get (pc := 424) X (ref := "PictureBlockModel") (T := TX10) (j := 27) dX10_equations_424 inX10_equations_RX10 shzM_0 clzM_10 (by decide) rfl (List.mem_of_getElem? (i := 7) rfl) rfl ?_
      refine ww_bipush (pc := 427) X (v := 25) dX10_equations_427 (by decide) ?_
      refine ww_iconst (pc := 429) X (v := 2) dX10_equations_429 (by decide) ?_
      refine ww_iload_n (pc := 430) X (j := 3) dX10_equations_430 rfl rfl ?_
      refine ww_imul (pc := 431) X dX10_equations_431 ?_
      refine ww_iadd (pc := 432) X dX10_equations_432 ?_
      refine ww_iald (pc := 433) X dX10_equations_433 shzM_19 rfl hF (fun v34 ev34 bv34 hF => ?_)
      refine ww_imul (pc := 434) X dX10_equations_434 ?_
      obtain ⟨σ36, h35, hF⟩ := bd_some hF
      refine ww_callVv (pc := 435) X (As := [.int x24, .int x19, .int r32, .int (((-100)) * v33), .int (((-100)) * v34)]) (rest := []) dX10_equations_435 (kX10_addsTie (mL M) G X.2.2.2.2.2.2.1 X.2.2.2.2.2.2.2.1 σ30 x24 x19 r32 (((-100)) * v33) (((-100)) * v34) σ36 h35) rfl shzM_0 clzM_10 gX10_equations_X10_addsTie hyX10_addsTie ⟨rfl, rfl⟩ ⟨Nat.le_of_ble_eq_true rfl, Nat.le_of_ble_eq_true rfl⟩ rfl rfl (Nat.le_of_ble_eq_true rfl) ?_
      refine ww_iinc (pc := 438) X (j := 3) (v := 1) (lv' := [(3, .int x24), (2, .int x19), (0, .ref (G.2.1 0))]) dX10_equations_438 rfl rfl (by decide) rfl hF (fun x37 ex37 hF => ?_)
      refine ww_goto (pc := 441) X (tgt := 322) dX10_equations_441 (by decide) ?_
      exact ww_sub [3, 0] rfl (ih322 x37 σ36 hF)
    · refine ww_goto (pc := 338) X (tgt := 438) dX10_equations_338 (by decide) ?_
      refine ww_iinc (pc := 438) X (j := 1) (v := 1) (lv' := [(0, .ref (G.2.1 0))]) dX10_equations_438 rfl rfl (by decide) rfl hF (fun x38 ex38 hF => ?_)
      refine ww_goto (pc := 441) X (tgt := 322) dX10_equations_441 (by decide) ?_
      exact ww_sub [1, 0] rfl (ih322 x38 σ1 hF)
set_option maxRecDepth 100000 in
set_option maxHeartbeats 4000000 in
theorem wbX10_equations_156 {M : gM} {G : gG} {out : gS} (X : gX M G zM cX10_equations RX10 5 wsX10_equations rmX10_equations none) (σ : gS) (rec156 : Int32 → gS → Option (gS)) (ih156 : ∀ (a1 : Int32) (σ1 : gS), rec156 a1 σ1 = some out → WW M (gQv M G zM out) G zM 5 σ1 156 [(0, .ref (G.2.1 0)), (1, .int a1)] []) (a1 : Int32) (σ1 : gS) (hF : bX10_equations_156 σ rec156 a1 σ1 = some out) : WW M (gQv M G zM out) G zM 5 σ1 156 [(0, .ref (G.2.1 0)), (1, .int a1)] [] := by
  unfold bX10_equations_156 at hF
  refine ww_iload_n (pc := 156) X (j := 1) dX10_equations_156 rfl rfl ?_
  refine ww_aload_n (pc := 157) X (j := 0) dX10_equations_157 rfl rfl ?_
  obtain ⟨r8, h7, hF⟩ := bd_some hF
  refine ww_callVi (pc := 158) X (As := []) (rest := [.int a1]) dX10_equations_158 (kX10_rows (mL M) G X.2.2.2.2.2.2.1 X.2.2.2.2.2.2.2.1 σ1 r8 h7) rfl shzM_0 clzM_10 gX10_equations_X10_rows hyX10_rows ⟨rfl, rfl⟩ ⟨Nat.le_of_ble_eq_true rfl, Nat.le_of_ble_eq_true rfl⟩ rfl rfl (Nat.le_of_ble_eq_true rfl) ?_
  refine ww_icmp_ge (pc := 161) (tgt := 320) X dX10_equations_161 (by decide) hF (fun h9 hF => ?_) (fun h9 hF => ?_)
  · refine ww_iconst (pc := 320) X (v := 0) dX10_equations_320 (by decide) ?_
    refine ww_istore_n (pc := 321) X (lv' := [(0, .ref (G.2.1 0))]) dX10_equations_321 rfl (by decide) rfl hF (fun x10 ex10 hF => ?_)
    exact ww_sub [1, 0] rfl (lpc_ind (P := (fun (s : Int32 × gS) => WW M (gQv M G zM out) G zM 5 s.2 322 [(0, .ref (G.2.1 0)), (1, .int s.1)] [])) (fun rec s ih hF => wbX10_equations_322 X σ1 (fun a1 σ1 => rec (a1, σ1)) (fun a1 σ1 h => ih (a1, σ1) h) s.1 s.2 hF) K9 (x10, σ1) hF)
  · refine ww_aload_n (pc := 164) X (j := 0) dX10_equations_164 rfl rfl ?_
    refine ww_get (pc := 165) X (ref := "PictureBlockModel") (T := TX10) (j := 35) dX10_equations_165 inX10_equations_RX10 shzM_0 clzM_10 (by decide) rfl (List.mem_of_getElem? (i := 5) rfl) rfl ?_
    refine ww_iload_n (pc := 168) X (j := 1) dX10_equations_168 rfl rfl ?_
    refine ww_zald (pc := 169) X dX10_equations_169 shzM_26 rfl hF (fun v39 ev39 bv39 hF => ?_)
    refine ww_if_eq (pc := 170) (tgt := 176) X dX10_equations_170 (by decide) hF (fun h40 hF => ?_) (fun h40 hF => ?_)
    · refine ww_aload_n (pc := 176) X (j := 0) dX10_equations_176 rfl rfl ?_
      refine ww_aload_n (pc := 177) X (j := 0) dX10_equations_177 rfl rfl ?_
      refine ww_iload_n (pc := 178) X (j := 1) dX10_equations_178 rfl rfl ?_
      obtain ⟨r42, h41, hF⟩ := bd_some hF
      refine ww_callVi (pc := 179) X (As := [.int a1]) (rest := [.ref (G.2.1 0)]) dX10_equations_179 (kX10_pictureOf (mL M) G X.2.2.2.2.2.2.1 X.2.2.2.2.2.2.2.1 σ1 a1 r42 h41) rfl shzM_0 clzM_10 gX10_equations_X10_pictureOf hyX10_pictureOf ⟨rfl, rfl⟩ ⟨Nat.le_of_ble_eq_true rfl, Nat.le_of_ble_eq_true rfl⟩ rfl rfl (Nat.le_of_ble_eq_true rfl) ?_
      obtain ⟨r44, h43, hF⟩ := bd_some hF
      refine ww_callVi (pc := 182) X (As := [.int r42]) (rest := []) dX10_equations_182 (kX10_numberOf (mL M) G X.2.2.2.2.2.2.1 X.2.2.2.2.2.2.2.1 σ1 r42 r44 h43) rfl shzM_0 clzM_10 gX10_equations_X10_numberOf hyX10_numberOf ⟨rfl, rfl⟩ ⟨Nat.le_of_ble_eq_true rfl, Nat.le_of_ble_eq_true rfl⟩ rfl rfl (Nat.le_of_ble_eq_true rfl) ?_
      refine ww_istore_n (pc := 185) X (lv' := [(0, .ref (G.2.1 0)), (1, .int a1)]) dX10_equations_185 rfl (by decide) rfl hF (fun x45 ex45 hF => ?_)
      refine ww_aload_n (pc := 186) X (j := 1) dX10_equations_186 rfl rfl ?_
      refine ww_bipush (pc := 187) X (v := 12) dX10_equations_187 (by decide) ?_
      refine ww_aload_n (pc := 189) X (j := 1) dX10_equations_189 rfl rfl ?_
      refine ww_iload_n (pc := 190) X (j := 2) dX10_equations_190 rfl rfl ?_
      obtain ⟨r47, h46, hF⟩ := bd_some hF
      refine ww_callVi (pc := 191) X (As := [.int a1]) (rest := [.int 12, .ref (G.2.1 0)]) dX10_equations_191 (kX10_pointOf (mL M) G X.2.2.2.2.2.2.1 X.2.2.2.2.2.2.2.1 σ1 a1 r47 h46) rfl shzM_0 clzM_10 gX10_equations_X10_pointOf hyX10_pointOf ⟨rfl, rfl⟩ ⟨Nat.le_of_ble_eq_true rfl, Nat.le_of_ble_eq_true rfl⟩ rfl rfl (Nat.le_of_ble_eq_true rfl) ?_
      refine ww_iadd (pc := 194) X dX10_equations_194 ?_
      obtain ⟨r49, h48, hF⟩ := bd_some hF
      refine ww_callVi (pc := 195) X (As := [.int (12 + r47)]) (rest := []) dX10_equations_195 (kX10_numberOf (mL M) G X.2.2.2.2.2.2.1 X.2.2.2.2.2.2.2.1 σ1 (12 + r47) r49 h48) rfl shzM_0 clzM_10 gX10_equations_X10_numberOf hyX10_numberOf ⟨rfl, rfl⟩ ⟨Nat.le_of_ble_eq_true rfl, Nat.le_of_ble_eq_true rfl⟩ rfl rfl (Nat.le_of_ble_eq_true rfl) ?_
      refine ww_istore_n (pc := 198) X (lv' := [(2, .int x45), (0, .ref (G.2.1 0)), (1, .int a1)]) dX10_equations_198 rfl (by decide) rfl hF (fun x50 ex50 hF => ?_)
      refine ww_bipush (pc := 199) X (v := 40) dX10_equations_199 (by decide) ?_
      refine ww_iconst (pc := 201) X (v := 2) dX10_equations_201 (by decide) ?_
      refine ww_aload_n (pc := 202) X (j := 2) dX10_equations_202 rfl rfl ?_
      refine ww_iload_n (pc := 203) X (j := 3) dX10_equations_203 rfl rfl ?_
      obtain ⟨r52, h51, hF⟩ := bd_some hF
      refine ww_callVi (pc := 204) X (As := [.int a1]) (rest := [.int 2, .int 40]) dX10_equations_204 (kX10_pointOf (mL M) G X.2.2.2.2.2.2.1 X.2.2.2.2.2.2.2.1 σ1 a1 r52 h51) rfl shzM_0 clzM_10 gX10_equations_X10_pointOf hyX10_pointOf ⟨rfl, rfl⟩ ⟨Nat.le_of_ble_eq_true rfl, Nat.le_of_ble_eq_true rfl⟩ rfl rfl (Nat.le_of_ble_eq_true rfl) ?_
      refine ww_imul (pc := 207) X dX10_equations_207 ?_
      refine ww_iadd (pc := 208) X dX10_equations_208 ?_
      refine ww_istore (pc := 209) X (lv' := [(3, .int x50), (2, .int x45), (0, .ref (G.2.1 0)), (1, .int a1)]) dX10_equations_209 (by decide) rfl hF (fun x53 ex53 hF => ?_)
      refine ww_iload_n (pc := 211) X (j := 1) dX10_equations_211 rfl rfl ?_
      refine ww_iconst (pc := 212) X (v := (-1)) dX10_equations_212 (by decide) ?_
      refine ww_icmp_ne (pc := 213) (tgt := 266) X dX10_equations_213 (by decide) hF (fun h54 hF => ?_) (fun h54 hF => ?_)
      · refine ww_aload_n (pc := 266) X (j := 3) dX10_equations_266 rfl rfl ?_
        refine ww_iload_n (pc := 267) X (j := 2) dX10_equations_267 rfl rfl ?_
        refine ww_iload_n (pc := 268) X (j := 1) dX10_equations_268 rfl rfl ?_
        refine ww_aload_n (pc := 269) X (j := 3) dX10_equations_269 rfl rfl ?_
        refine ww_iload_n (pc := 270) X (j := 4) dX10_equations_270 rfl rfl ?_
        obtain ⟨r56, h55, hF⟩ := bd_some hF
        refine ww_callVi (pc := 271) X (As := [.int a1]) (rest := [.int x50, .int x45, .ref (G.2.1 0)]) dX10_equations_271 (kX10_weightOf (mL M) G X.2.2.2.2.2.2.1 X.2.2.2.2.2.2.2.1 σ1 a1 r56 h55) rfl shzM_0 clzM_10 gX10_equations_X10_weightOf hyX10_weightOf ⟨rfl, rfl⟩ ⟨Nat.le_of_ble_eq_true rfl, Nat.le_of_ble_eq_true rfl⟩ rfl rfl (Nat.le_of_ble_eq_true rfl) ?_
        refine ww_aload_n (pc := 274) X (j := 3) dX10_equations_274 rfl rfl ?_
        refine ww_iload_n (pc := 275) X (j := 4) dX10_equations_275 rfl rfl ?_
        refine ww_iconst (pc := 276) X (v := 0) dX10_equations_276 (by decide) ?_
        obtain ⟨r58, h57, hF⟩ := bd_some hF
        refine ww_callVi (pc := 277) X (As := [.int a1, .int 0]) (rest := [.int r56, .int x50, .int x45, .ref (G.2.1 0)]) dX10_equations_277 (kX10_turned (mL M) G X.2.2.2.2.2.2.1 X.2.2.2.2.2.2.2.1 σ1 a1 0 r58 h57) rfl shzM_0 clzM_10 gX10_equations_X10_turned hyX10_turned ⟨rfl, rfl⟩ ⟨Nat.le_of_ble_eq_true rfl, Nat.le_of_ble_eq_true rfl⟩ rfl rfl (Nat.le_of_ble_eq_true rfl) ?_
        refine ww_ineg (pc := 280) X dX10_equations_280 ?_
        refine ww_aload_n (pc := 281) X (j := 3) dX10_equations_281 rfl rfl ?_
        refine ww_iload_n (pc := 282) X (j := 4) dX10_equations_282 rfl rfl ?_
        refine ww_iconst (pc := 283) X (v := 1) dX10_equations_283 (by decide) ?_
        obtain ⟨r60, h59, hF⟩ := bd_some hF
        refine ww_callVi (pc := 284) X (As := [.int a1, .int 1]) (rest := [.int (-r58), .int r56, .int x50, .int x45, .ref (G.2.1 0)]) dX10_equations_284 (kX10_turned (mL M) G X.2.2.2.2.2.2.1 X.2.2.2.2.2.2.2.1 σ1 a1 1 r60 h59) rfl shzM_0 clzM_10 gX10_equations_X10_turned hyX10_turned ⟨rfl, rfl⟩ ⟨Nat.le_of_ble_eq_true rfl, Nat.le_of_ble_eq_true rfl⟩ rfl rfl (Nat.le_of_ble_eq_true rfl) ?_
        refine ww_ineg (pc := 287) X dX10_equations_287 ?_
        obtain ⟨σ62, h61, hF⟩ := bd_some hF
        refine ww_callVv (pc := 288) X (As := [.int x45, .int x50, .int r56, .int (-r58), .int (-r60)]) (rest := []) dX10_equations_288 (kX10_addsTie (mL M) G X.2.2.2.2.2.2.1 X.2.2.2.2.2.2.2.1 σ1 x45 x50 r56 (-r58) (-r60) σ62 h61) rfl shzM_0 clzM_10 gX10_equations_X10_addsTie hyX10_addsTie ⟨rfl, rfl⟩ ⟨Nat.le_of_ble_eq_true rfl, Nat.le_of_ble_eq_true rfl⟩ rfl rfl (Nat.le_of_ble_eq_true rfl) ?_
        refine ww_aload_n (pc := 291) X (j := 3) dX10_equations_291 rfl rfl ?_
        refine ww_iload_n (pc := 292) X (j := 1) dX10_equations_292 rfl rfl ?_
        refine ww_iload_n (pc := 293) X (j := 2) dX10_equations_293 rfl rfl ?_
        refine ww_aload_n (pc := 294) X (j := 3) dX10_equations_294 rfl rfl ?_
        refine ww_iload_n (pc := 295) X (j := 4) dX10_equations_295 rfl rfl ?_
        obtain ⟨r64, h63, hF⟩ := bd_some hF
        refine ww_callVi (pc := 296) X (As := [.int a1]) (rest := [.int x45, .int x50, .ref (G.2.1 0)]) dX10_equations_296 (kX10_weightOf (mL M) G X.2.2.2.2.2.2.1 X.2.2.2.2.2.2.2.1 σ62 a1 r64 h63) rfl shzM_0 clzM_10 gX10_equations_X10_weightOf hyX10_weightOf ⟨rfl, rfl⟩ ⟨Nat.le_of_ble_eq_true rfl, Nat.le_of_ble_eq_true rfl⟩ rfl rfl (Nat.le_of_ble_eq_true rfl) ?_
        refine ww_aload_n (pc := 299) X (j := 3) dX10_equations_299 rfl rfl ?_
        refine ww_iload_n (pc := 300) X (j := 4) dX10_equations_300 rfl rfl ?_
        refine ww_iconst (pc := 301) X (v := 0) dX10_equations_301 (by decide) ?_
        obtain ⟨r66, h65, hF⟩ := bd_some hF
        refine ww_callVi (pc := 302) X (As := [.int a1, .int 0]) (rest := [.int r64, .int x45, .int x50, .ref (G.2.1 0)]) dX10_equations_302 (kX10_turned (mL M) G X.2.2.2.2.2.2.1 X.2.2.2.2.2.2.2.1 σ62 a1 0 r66 h65) rfl shzM_0 clzM_10 gX10_equations_X10_turned hyX10_turned ⟨rfl, rfl⟩ ⟨Nat.le_of_ble_eq_true rfl, Nat.le_of_ble_eq_true rfl⟩ rfl rfl (Nat.le_of_ble_eq_true rfl) ?_
        refine ww_aload_n (pc := 305) X (j := 3) dX10_equations_305 rfl rfl ?_
        refine ww_iload_n (pc := 306) X (j := 4) dX10_equations_306 rfl rfl ?_
        refine ww_iconst (pc := 307) X (v := 1) dX10_equations_307 (by decide) ?_
        obtain ⟨r68, h67, hF⟩ := bd_some hF
        refine ww_callVi (pc := 308) X (As := [.int a1, .int 1]) (rest := [.int r66, .int r64, .int x45, .int x50, .ref (G.2.1 0)]) dX10_equations_308 (kX10_turned (mL M) G X.2.2.2.2.2.2.1 X.2.2.2.2.2.2.2.1 σ62 a1 1 r68 h67) rfl shzM_0 clzM_10 gX10_equations_X10_turned hyX10_turned ⟨rfl, rfl⟩ ⟨Nat.le_of_ble_eq_true rfl, Nat.le_of_ble_eq_true rfl⟩ rfl rfl (Nat.le_of_ble_eq_true rfl) ?_
        obtain ⟨σ70, h69, hF⟩ := bd_some hF
        refine ww_callVv (pc := 311) X (As := [.int x50, .int x45, .int r64, .int r66, .int r68]) (rest := []) dX10_equations_311 (kX10_addsTie (mL M) G X.2.2.2.2.2.2.1 X.2.2.2.2.2.2.2.1 σ62 x50 x45 r64 r66 r68 σ70 h69) rfl shzM_0 clzM_10 gX10_equations_X10_addsTie hyX10_addsTie ⟨rfl, rfl⟩ ⟨Nat.le_of_ble_eq_true rfl, Nat.le_of_ble_eq_true rfl⟩ rfl rfl (Nat.le_of_ble_eq_true rfl) ?_
        refine ww_iinc (pc := 314) X (j := 4) (v := 1) (lv' := [(4, .int x53), (3, .int x50), (2, .int x45), (0, .ref (G.2.1 0))]) dX10_equations_314 rfl rfl (by decide) rfl hF (fun x71 ex71 hF => ?_)
        refine ww_goto (pc := 317) X (tgt := 156) dX10_equations_317 (by decide) ?_
        exact ww_sub [4, 0] rfl (ih156 x71 σ70 hF)
      · refine ww_aload_n (pc := 216) X (j := 3) dX10_equations_216 rfl rfl ?_
        refine ww_iload_n (pc := 217) X (j := 2) dX10_equations_217 rfl rfl ?_
        refine ww_iconst (pc := 218) X (v := (-1)) dX10_equations_218 (by decide) ?_
        refine ww_aload_n (pc := 219) X (j := 3) dX10_equations_219 rfl rfl ?_
        refine ww_iload_n (pc := 220) X (j := 4) dX10_equations_220 rfl rfl ?_
        obtain ⟨r73, h72, hF⟩ := bd_some hF
        refine ww_callVi (pc := 221) X (As := [.int a1]) (rest := [.int ((-1)), .int x45, .ref (G.2.1 0)]) dX10_equations_221 (kX10_weightOf (mL M) G X.2.2.2.2.2.2.1 X.2.2.2.2.2.2.2.1 σ1 a1 r73 h72) rfl shzM_0 clzM_10 gX10_equations_X10_weightOf hyX10_weightOf ⟨rfl, rfl⟩ ⟨Nat.le_of_ble_eq_true rfl, Nat.le_of_ble_eq_true rfl⟩ rfl rfl (Nat.le_of_ble_eq_true rfl) ?_
        refine ww_bipush (pc := 224) X (v := 100) dX10_equations_224 (by decide) ?_
        refine ww_aload_n (pc := 226) X (j := 3) dX10_equations_226 rfl rfl ?_
        refine ww_get (pc := 227) X (ref := "PictureBlockModel") (T := TX10) (j := 29) dX10_equations_227 inX10_equations_RX10 shzM_0 clzM_10 (by decide) rfl (List.mem_of_getElem? (i := 6) rfl) rfl ?_
        refine ww_iload (pc := 230) X (j := 0) dX10_equations_230 rfl ?_
        refine ww_iald (pc := 232) X dX10_equations_232 shzM_21 rfl hF (fun v74 ev74 bv74 hF => ?_)
        refine ww_imul (pc := 233) X dX10_equations_233 ?_
        refine ww_aload_n (pc := 234) X (j := 3) dX10_equations_234 rfl rfl ?_
        refine ww_iload_n (pc := 235) X (j := 4) dX10_equations_235 rfl rfl ?_
        refine ww_iconst (pc := 236) X (v := 0) dX10_equations_236 (by decide) ?_
        obtain ⟨r76, h75, hF⟩ := bd_some hF
        refine ww_callVi (pc := 237) X (As := [.int a1, .int 0]) (rest := [.int (100 * v74), .int r73, .int ((-1)), .int x45, .ref (G.2.1 0)]) dX10_equations_237 (kX10_turned (mL M) G X.2.2.2.2.2.2.1 X.2.2.2.2.2.2.2.1 σ1 a1 0 r76 h75) rfl shzM_0 clzM_10 gX10_equations_X10_turned hyX10_turned ⟨rfl, rfl⟩ ⟨Nat.le_of_ble_eq_true rfl, Nat.le_of_ble_eq_true rfl⟩ rfl rfl (Nat.le_of_ble_eq_true rfl) ?_
        refine ww_isub (pc := 240) X dX10_equations_240 ?_
        refine ww_bipush (pc := 241) X (v := 100) dX10_equations_241 (by decide) ?_
        refine ww_aload_n (pc := 243) X (j := 3) dX10_equations_243 rfl rfl ?_
        refine ww_get (pc := 244) X (ref := "PictureBlockModel") (T := TX10) (j := 29) dX10_equations_244 inX10_equations_RX10 shzM_0 clzM_10 (by decide) rfl (List.mem_of_getElem? (i := 6) rfl) rfl ?_
        refine ww_iload (pc := 247) X (j := 0) dX10_equations_247 rfl ?_
        refine ww_iconst (pc := 249) X (v := 1) dX10_equations_249 (by decide) ?_
        refine ww_iadd (pc := 250) X dX10_equations_250 ?_
        refine ww_iald (pc := 251) X dX10_equations_251 shzM_21 rfl hF (fun v77 ev77 bv77 hF => ?_)
        refine ww_imul (pc := 252) X dX10_equations_252 ?_
        refine ww_aload_n (pc := 253) X (j := 3) dX10_equations_253 rfl rfl ?_
        refine ww_iload_n (pc := 254) X (j := 4) dX10_equations_254 rfl rfl ?_
        refine ww_iconst (pc := 255) X (v := 1) dX10_equations_255 (by decide) ?_
        obtain ⟨r79, h78, hF⟩ := bd_some hF
        refine ww_callVi (pc := 256) X (As := [.int a1, .int 1]) (rest := [.int (100 * v77), .int ((100 * v74) - r76), .int r73, .int ((-1)), .int x45, .ref (G.2.1 0)]) dX10_equations_256 (kX10_turned (mL M) G X.2.2.2.2.2.2.1 X.2.2.2.2.2.2.2.1 σ1 a1 1 r79 h78) rfl shzM_0 clzM_10 gX10_equations_X10_turned hyX10_turned ⟨rfl, rfl⟩ ⟨Nat.le_of_ble_eq_true rfl, Nat.le_of_ble_eq_true rfl⟩ rfl rfl (Nat.le_of_ble_eq_true rfl) ?_
        refine ww_isub (pc := 259) X dX10_equations_259 ?_
        obtain ⟨σ81, h80, hF⟩ := bd_some hF
        refine ww_callVv (pc := 260) X (As := [.int x45, .int ((-1)), .int r73, .int ((100 * v74) - r76), .int ((100 * v77) - r79)]) (rest := []) dX10_equations_260 (kX10_addsTie (mL M) G X.2.2.2.2.2.2.1 X.2.2.2.2.2.2.2.1 σ1 x45 ((-1)) r73 ((100 * v74) - r76) ((100 * v77) - r79) σ81 h80) rfl shzM_0 clzM_10 gX10_equations_X10_addsTie hyX10_addsTie ⟨rfl, rfl⟩ ⟨Nat.le_of_ble_eq_true rfl, Nat.le_of_ble_eq_true rfl⟩ rfl rfl (Nat.le_of_ble_eq_true rfl) ?_
        refine ww_goto (pc := 263) X (tgt := 314) dX10_equations_263 (by decide) ?_
        refine ww_iinc (pc := 314) X (j := 4) (v := 1) (lv' := [(4, .int x53), (3, .int x50), (2, .int x45), (0, .ref (G.2.1 0))]) dX10_equations_314 rfl rfl (by decide) rfl hF (fun x82 ex82 hF => ?_)
        refine ww_goto (pc := 317) X (tgt := 156) dX10_equations_317 (by decide) ?_
        exact ww_sub [4, 0] rfl (ih156 x82 σ81 hF)
    · refine ww_goto (pc := 173) X (tgt := 314) dX10_equations_173 (by decide) ?_
      refine ww_iinc (pc := 314) X (j := 1) (v := 1) (lv' := [(0, .ref (G.2.1 0))]) dX10_equations_314 rfl rfl (by decide) rfl hF (fun x83 ex83 hF => ?_)
      refine ww_goto (pc := 317) X (tgt := 156) dX10_equations_317 (by decide) ?_
      exact ww_sub [1, 0] rfl (ih156 x83 σ1 hF)
set_option maxRecDepth 100000 in
set_option maxHeartbeats 4000000 in
theorem wbX10_equations_134 {M : gM} {G : gG} {out : gS} (X : gX M G zM cX10_equations RX10 5 wsX10_equations rmX10_equations none) (σ : gS) (rec134 : Int32 → gS → Option (gS)) (ih134 : ∀ (a1 : Int32) (σ1 : gS), rec134 a1 σ1 = some out → WW M (gQv M G zM out) G zM 5 σ1 134 [(0, .ref (G.2.1 0)), (1, .int a1)] []) (a1 : Int32) (σ1 : gS) (hF : bX10_equations_134 σ rec134 a1 σ1 = some out) : WW M (gQv M G zM out) G zM 5 σ1 134 [(0, .ref (G.2.1 0)), (1, .int a1)] [] := by
  unfold bX10_equations_134 at hF
  refine ww_iload_n (pc := 134) X (j := 1) dX10_equations_134 rfl rfl ?_
  refine ww_sipush (pc := 135) X (v := 1520) dX10_equations_135 (by decide) ?_
  refine ww_icmp_ge (pc := 138) (tgt := 154) X dX10_equations_138 (by decide) hF (fun h5 hF => ?_) (fun h5 hF => ?_)
  · refine ww_iconst (pc := 154) X (v := 0) dX10_equations_154 (by decide) ?_
    refine ww_istore_n (pc := 155) X (lv' := [(0, .ref (G.2.1 0))]) dX10_equations_155 rfl (by decide) rfl hF (fun x6 ex6 hF => ?_)
    exact ww_sub [1, 0] rfl (lpc_ind (P := (fun (s : Int32 × gS) => WW M (gQv M G zM out) G zM 5 s.2 156 [(0, .ref (G.2.1 0)), (1, .int s.1)] [])) (fun rec s ih hF => wbX10_equations_156 X σ1 (fun a1 σ1 => rec (a1, σ1)) (fun a1 σ1 h => ih (a1, σ1) h) s.1 s.2 hF) K9 (x6, σ1) hF)
  · refine ww_aload_n (pc := 141) X (j := 0) dX10_equations_141 rfl rfl ?_
    refine ww_get (pc := 142) X (ref := "PictureBlockModel") (T := TX10) (j := 44) dX10_equations_142 inX10_equations_RX10 shzM_0 clzM_10 (by decide) rfl (List.mem_of_getElem? (i := 4) rfl) rfl ?_
    refine ww_iload_n (pc := 145) X (j := 1) dX10_equations_145 rfl rfl ?_
    refine ww_lconst (pc := 146) X (v := 0) dX10_equations_146 (by decide) ?_
    refine ww_last (pc := 147) X dX10_equations_147 shzM_31 rfl hF (fun σ84 eσ84 bσ84 hF => ?_)
    refine ww_iinc (pc := 148) X (j := 1) (v := 1) (lv' := [(0, .ref (G.2.1 0))]) dX10_equations_148 rfl rfl (by decide) rfl hF (fun x85 ex85 hF => ?_)
    refine ww_goto (pc := 151) X (tgt := 134) dX10_equations_151 (by decide) ?_
    exact ww_sub [1, 0] rfl (ih134 x85 σ84 hF)
set_option maxRecDepth 100000 in
set_option maxHeartbeats 4000000 in
theorem wjX10_equations_90 {M : gM} {G : gG} {out : gS} (X : gX M G zM cX10_equations RX10 5 wsX10_equations rmX10_equations none) (σ : gS) (rec7 : Int32 → gS → Option (gS)) (ih7 : ∀ (a1 : Int32) (σ1 : gS), rec7 a1 σ1 = some out → WW M (gQv M G zM out) G zM 5 σ1 7 [(0, .ref (G.2.1 0)), (1, .int a1)] []) (a1 : Int32) (z0 : Int32) (hF : jX10_equations_90 σ rec7 a1 z0 = some out) : WW M (gQv M G zM out) G zM 5 σ 90 [(0, .ref (G.2.1 0)), (1, .int a1)] [.int z0] := by
  unfold jX10_equations_90 at hF
  refine ww_istore_n (pc := 90) X (lv' := [(0, .ref (G.2.1 0)), (1, .int a1)]) dX10_equations_90 rfl (by decide) rfl hF (fun x90 ex90 hF => ?_)
  refine ww_iload_n (pc := 91) X (j := 0) dX10_equations_91 rfl rfl ?_
  refine ww_if_eq (pc := 92) (tgt := 126) X dX10_equations_92 (by decide) hF (fun h91 hF => ?_) (fun h91 hF => ?_)
  · refine ww_iinc (pc := 126) X (j := 2) (v := 1) (lv' := [(2, .int x90), (0, .ref (G.2.1 0))]) dX10_equations_126 rfl rfl (by decide) rfl hF (fun x92 ex92 hF => ?_)
    refine ww_goto (pc := 129) X (tgt := 7) dX10_equations_129 (by decide) ?_
    exact ww_sub [2, 0] rfl (ih7 x92 σ hF)
  · refine ww_aload_n (pc := 95) X (j := 1) dX10_equations_95 rfl rfl ?_
    refine ww_iload_n (pc := 96) X (j := 2) dX10_equations_96 rfl rfl ?_
    obtain ⟨r94, h93, hF⟩ := bd_some hF
    refine ww_callVi (pc := 97) X (As := [.int a1]) (rest := []) dX10_equations_97 (kX10_isUsed (mL M) G X.2.2.2.2.2.2.1 X.2.2.2.2.2.2.2.1 σ a1 r94 h93) rfl shzM_0 clzM_10 gX10_equations_X10_isUsed hyX10_isUsed ⟨rfl, rfl⟩ ⟨Nat.le_of_ble_eq_true rfl, Nat.le_of_ble_eq_true rfl⟩ rfl rfl (Nat.le_of_ble_eq_true rfl) ?_
    refine ww_if_ne (pc := 100) (tgt := 106) X dX10_equations_100 (by decide) hF (fun h95 hF => ?_) (fun h95 hF => ?_)
    · refine ww_aload_n (pc := 106) X (j := 1) dX10_equations_106 rfl rfl ?_
      refine ww_get (pc := 107) X (ref := "PictureBlockModel") (T := TX10) (j := 42) dX10_equations_107 inX10_equations_RX10 shzM_0 clzM_10 (by decide) rfl (List.mem_of_getElem? (i := 3) rfl) rfl ?_
      refine ww_aload_n (pc := 110) X (j := 1) dX10_equations_110 rfl rfl ?_
      refine ww_get (pc := 111) X (ref := "PictureBlockModel") (T := TX10) (j := 43) dX10_equations_111 inX10_equations_RX10 shzM_0 clzM_10 (by decide) rfl (List.mem_of_getElem? (i := 1) rfl) rfl ?_
      refine ww_iload_n (pc := 114) X (j := 2) dX10_equations_114 rfl rfl ?_
      refine ww_iast (pc := 115) X dX10_equations_115 shzM_30 rfl hF (fun σ96 eσ96 bσ96 hF => ?_)
      refine ww_aload_n (pc := 116) X (j := 1) dX10_equations_116 rfl rfl ?_
      refine ww_dup (pc := 117) X dX10_equations_117 rfl ?_
      refine ww_get (pc := 118) X (ref := "PictureBlockModel") (T := TX10) (j := 43) dX10_equations_118 inX10_equations_RX10 shzM_0 clzM_10 (by decide) rfl (List.mem_of_getElem? (i := 1) rfl) rfl ?_
      refine ww_iconst (pc := 121) X (v := 1) dX10_equations_121 (by decide) ?_
      refine ww_iadd (pc := 122) X dX10_equations_122 ?_
      refine ww_putI (pc := 123) X (ref := "PictureBlockModel") (T := TX10) (j := 43) dX10_equations_123 inX10_equations_RX10 tyX10 tyX10_ok nmX10 shzM_0 clzM_10 (by decide) rfl (List.mem_of_getElem? (i := 1) rfl) rfl rfl (by decide +kernel) hF (fun σ97 eσ97 hF => ?_)
      refine ww_iinc (pc := 126) X (j := 2) (v := 1) (lv' := [(2, .int x90), (0, .ref (G.2.1 0))]) dX10_equations_126 rfl rfl (by decide) rfl hF (fun x98 ex98 hF => ?_)
      refine ww_goto (pc := 129) X (tgt := 7) dX10_equations_129 (by decide) ?_
      exact ww_sub [2, 0] rfl (ih7 x98 σ97 hF)
    · refine ww_goto (pc := 103) X (tgt := 126) dX10_equations_103 (by decide) ?_
      refine ww_iinc (pc := 126) X (j := 2) (v := 1) (lv' := [(2, .int x90), (0, .ref (G.2.1 0))]) dX10_equations_126 rfl rfl (by decide) rfl hF (fun x99 ex99 hF => ?_)
      refine ww_goto (pc := 129) X (tgt := 7) dX10_equations_129 (by decide) ?_
      exact ww_sub [2, 0] rfl (ih7 x99 σ hF)
set_option maxRecDepth 100000 in
set_option maxHeartbeats 4000000 in
theorem wbX10_equations_7 {M : gM} {G : gG} {out : gS} (X : gX M G zM cX10_equations RX10 5 wsX10_equations rmX10_equations none) (σ : gS) (rec7 : Int32 → gS → Option (gS)) (ih7 : ∀ (a1 : Int32) (σ1 : gS), rec7 a1 σ1 = some out → WW M (gQv M G zM out) G zM 5 σ1 7 [(0, .ref (G.2.1 0)), (1, .int a1)] []) (a1 : Int32) (σ1 : gS) (hF : bX10_equations_7 σ rec7 a1 σ1 = some out) : WW M (gQv M G zM out) G zM 5 σ1 7 [(0, .ref (G.2.1 0)), (1, .int a1)] [] := by
  unfold bX10_equations_7 at hF
  refine ww_iload_n (pc := 7) X (j := 1) dX10_equations_7 rfl rfl ?_
  refine ww_bipush (pc := 8) X (v := 38) dX10_equations_8 (by decide) ?_
  refine ww_icmp_ge (pc := 10) (tgt := 132) X dX10_equations_10 (by decide) hF (fun h3 hF => ?_) (fun h3 hF => ?_)
  · refine ww_iconst (pc := 132) X (v := 0) dX10_equations_132 (by decide) ?_
    refine ww_istore_n (pc := 133) X (lv' := [(0, .ref (G.2.1 0))]) dX10_equations_133 rfl (by decide) rfl hF (fun x4 ex4 hF => ?_)
    exact ww_sub [1, 0] rfl (lpc_ind (P := (fun (s : Int32 × gS) => WW M (gQv M G zM out) G zM 5 s.2 134 [(0, .ref (G.2.1 0)), (1, .int s.1)] [])) (fun rec s ih hF => wbX10_equations_134 X σ1 (fun a1 σ1 => rec (a1, σ1)) (fun a1 σ1 h => ih (a1, σ1) h) s.1 s.2 hF) K9 (x4, σ1) hF)
  · refine ww_iload_n (pc := 13) X (j := 1) dX10_equations_13 rfl rfl ?_
    refine ww_bipush (pc := 14) X (v := 12) dX10_equations_14 (by decide) ?_
    refine ww_icmp_ge (pc := 16) (tgt := 35) X dX10_equations_16 (by decide) hF (fun h86 hF => ?_) (fun h86 hF => ?_)
    · refine ww_iload_n (pc := 35) X (j := 1) dX10_equations_35 rfl rfl ?_
      refine ww_bipush (pc := 36) X (v := 32) dX10_equations_36 (by decide) ?_
      refine ww_icmp_ge (pc := 38) (tgt := 71) X dX10_equations_38 (by decide) hF (fun h87 hF => ?_) (fun h87 hF => ?_)
      · refine ww_iload_n (pc := 71) X (j := 1) dX10_equations_71 rfl rfl ?_
        refine ww_bipush (pc := 72) X (v := 32) dX10_equations_72 (by decide) ?_
        refine ww_isub (pc := 74) X dX10_equations_74 ?_
        refine ww_aload_n (pc := 75) X (j := 0) dX10_equations_75 rfl rfl ?_
        refine ww_get (pc := 76) X (ref := "PictureBlockModel") (T := TX10) (j := 23) dX10_equations_76 inX10_equations_RX10 shzM_0 clzM_10 (by decide) rfl (List.mem_of_getElem? (i := 2) rfl) rfl ?_
        refine ww_bipush (pc := 79) X (v := 6) dX10_equations_79 (by decide) ?_
        refine ww_iald (pc := 81) X dX10_equations_81 shzM_15 rfl hF (fun v88 ev88 bv88 hF => ?_)
        refine ww_icmp_ge (pc := 82) (tgt := 89) X dX10_equations_82 (by decide) hF (fun h89 hF => ?_) (fun h89 hF => ?_)
        · refine ww_iconst (pc := 89) X (v := 0) dX10_equations_89 (by decide) ?_
          exact ww_sub [0, 1] rfl (wjX10_equations_90 X σ1 rec7 ih7 a1 0 hF)
        · refine ww_iconst (pc := 85) X (v := 1) dX10_equations_85 (by decide) ?_
          refine ww_goto (pc := 86) X (tgt := 90) dX10_equations_86 (by decide) ?_
          exact ww_sub [0, 1] rfl (wjX10_equations_90 X σ1 rec7 ih7 a1 1 hF)
      · refine ww_iload_n (pc := 41) X (j := 1) dX10_equations_41 rfl rfl ?_
        refine ww_bipush (pc := 42) X (v := 12) dX10_equations_42 (by decide) ?_
        refine ww_isub (pc := 44) X dX10_equations_44 ?_
        refine ww_aload_n (pc := 45) X (j := 0) dX10_equations_45 rfl rfl ?_
        obtain ⟨r101, h100, hF⟩ := bd_some hF
        refine ww_callVi (pc := 46) X (As := []) (rest := [.int (a1 - 12)]) dX10_equations_46 (kX10_points (mL M) G X.2.2.2.2.2.2.1 X.2.2.2.2.2.2.2.1 σ1 r101 h100) rfl shzM_0 clzM_10 gX10_equations_X10_points hyX10_points ⟨rfl, rfl⟩ ⟨Nat.le_of_ble_eq_true rfl, Nat.le_of_ble_eq_true rfl⟩ rfl rfl (Nat.le_of_ble_eq_true rfl) ?_
        refine ww_icmp_ge (pc := 49) (tgt := 67) X dX10_equations_49 (by decide) hF (fun h102 hF => ?_) (fun h102 hF => ?_)
        · refine ww_iconst (pc := 67) X (v := 0) dX10_equations_67 (by decide) ?_
          refine ww_goto (pc := 68) X (tgt := 90) dX10_equations_68 (by decide) ?_
          exact ww_sub [0, 1] rfl (wjX10_equations_90 X σ1 rec7 ih7 a1 0 hF)
        · refine ww_aload_n (pc := 52) X (j := 0) dX10_equations_52 rfl rfl ?_
          refine ww_iload_n (pc := 53) X (j := 1) dX10_equations_53 rfl rfl ?_
          refine ww_bipush (pc := 54) X (v := 12) dX10_equations_54 (by decide) ?_
          refine ww_isub (pc := 56) X dX10_equations_56 ?_
          obtain ⟨r104, h103, hF⟩ := bd_some hF
          refine ww_callVi (pc := 57) X (As := [.int (a1 - 12)]) (rest := []) dX10_equations_57 (kX10_isControl (mL M) G X.2.2.2.2.2.2.1 X.2.2.2.2.2.2.2.1 σ1 (a1 - 12) r104 h103) rfl shzM_0 clzM_10 gX10_equations_X10_isControl hyX10_isControl ⟨rfl, rfl⟩ ⟨Nat.le_of_ble_eq_true rfl, Nat.le_of_ble_eq_true rfl⟩ rfl rfl (Nat.le_of_ble_eq_true rfl) ?_
          refine ww_if_ne (pc := 60) (tgt := 67) X dX10_equations_60 (by decide) hF (fun h105 hF => ?_) (fun h105 hF => ?_)
          · refine ww_iconst (pc := 67) X (v := 0) dX10_equations_67 (by decide) ?_
            refine ww_goto (pc := 68) X (tgt := 90) dX10_equations_68 (by decide) ?_
            exact ww_sub [0, 1] rfl (wjX10_equations_90 X σ1 rec7 ih7 a1 0 hF)
          · refine ww_iconst (pc := 63) X (v := 1) dX10_equations_63 (by decide) ?_
            refine ww_goto (pc := 64) X (tgt := 90) dX10_equations_64 (by decide) ?_
            exact ww_sub [0, 1] rfl (wjX10_equations_90 X σ1 rec7 ih7 a1 1 hF)
    · refine ww_iload_n (pc := 19) X (j := 1) dX10_equations_19 rfl rfl ?_
      refine ww_aload_n (pc := 20) X (j := 0) dX10_equations_20 rfl rfl ?_
      obtain ⟨r107, h106, hF⟩ := bd_some hF
      refine ww_callVi (pc := 21) X (As := []) (rest := [.int a1]) dX10_equations_21 (kX10_pictures (mL M) G X.2.2.2.2.2.2.1 X.2.2.2.2.2.2.2.1 σ1 r107 h106) rfl shzM_0 clzM_10 gX10_equations_X10_pictures hyX10_pictures ⟨rfl, rfl⟩ ⟨Nat.le_of_ble_eq_true rfl, Nat.le_of_ble_eq_true rfl⟩ rfl rfl (Nat.le_of_ble_eq_true rfl) ?_
      refine ww_icmp_ge (pc := 24) (tgt := 31) X dX10_equations_24 (by decide) hF (fun h108 hF => ?_) (fun h108 hF => ?_)
      · refine ww_iconst (pc := 31) X (v := 0) dX10_equations_31 (by decide) ?_
        refine ww_goto (pc := 32) X (tgt := 90) dX10_equations_32 (by decide) ?_
        exact ww_sub [0, 1] rfl (wjX10_equations_90 X σ1 rec7 ih7 a1 0 hF)
      · refine ww_iconst (pc := 27) X (v := 1) dX10_equations_27 (by decide) ?_
        refine ww_goto (pc := 28) X (tgt := 90) dX10_equations_28 (by decide) ?_
        exact ww_sub [0, 1] rfl (wjX10_equations_90 X σ1 rec7 ih7 a1 1 hF)
set_option maxRecDepth 100000 in
set_option maxHeartbeats 4000000 in
theorem wX10_equations {M : gM} {G : gG} {out : gS} (X : gX M G zM cX10_equations RX10 5 wsX10_equations rmX10_equations none) (σ : gS) (hF : fX10_equations σ = some out) : WW M (gQv M G zM out) G zM 5 σ 0 [(0, .ref (G.2.1 0))] [] := by
  unfold fX10_equations at hF
  refine ww_aload_n (pc := 0) X (j := 0) dX10_equations_0 rfl rfl ?_
  refine ww_iconst (pc := 1) X (v := 0) dX10_equations_1 (by decide) ?_
  refine ww_putI (pc := 2) X (ref := "PictureBlockModel") (T := TX10) (j := 43) dX10_equations_2 inX10_equations_RX10 tyX10 tyX10_ok nmX10 shzM_0 clzM_10 (by decide) rfl (List.mem_of_getElem? (i := 1) rfl) rfl rfl (by decide +kernel) hF (fun σ1 eσ1 hF => ?_)
  refine ww_iconst (pc := 5) X (v := 0) dX10_equations_5 (by decide) ?_
  refine ww_istore_n (pc := 6) X (lv' := [(0, .ref (G.2.1 0))]) dX10_equations_6 rfl (by decide) rfl hF (fun x2 ex2 hF => ?_)
  exact ww_sub [1, 0] rfl (lpc_ind (P := (fun (s : Int32 × gS) => WW M (gQv M G zM out) G zM 5 s.2 7 [(0, .ref (G.2.1 0)), (1, .int s.1)] [])) (fun rec s ih hF => wbX10_equations_7 X σ1 (fun a1 σ1 => rec (a1, σ1)) (fun a1 σ1 h => ih (a1, σ1) h) s.1 s.2 hF) K9 (x2, σ1) hF)
set_option maxRecDepth 100000 in
set_option maxHeartbeats 4000000 in
theorem kX10_equations (l : Launch) (G : gG) (hG : gOK G zM.1) (hT : G.2.2.1.map (fun q => q.2) = zM.2.1) (σ : gS) (out : gS) (hF : fX10_equations σ = some out) : gCv l yX10_equations wsX10_equations rmX10_equations G zM [.ref (G.2.1 0)] σ out :=
  gEnter (by decide) rfl ⟨rfl, rfl⟩ hG hT (Nat.le_of_ble_eq_true rfl) rfl (fun M X hl => wX10_equations X σ hF)
