noncomputable def fX10_tells (σ : gS) (p1 : Int32) (p2 : Int32) : Option (Int32 × gS) :=
  bd (fX10_fourAt σ p1) fun r2 => gd (gb p2 76) <| nm (gsI σ 28 p2.toNatClampNeg r2) fun σ3 => bd (fX10_fourAt σ3 (p1 + 4)) fun r5 => gd (gb (38 + p2) 76) <| nm (gsI σ3 28 (38 + p2).toNatClampNeg r5) fun σ6 => some (p1 + 8, σ6)
noncomputable abbrev rmX10_tells : Room := { frames := 1, cells := 0, slots := 0, locals := 21 }
set_option maxRecDepth 100000 in
set_option maxHeartbeats 4000000 in
theorem wX10_tells {M : gM} {G : gG} {out : Int32 × gS} (X : gX M G zM cX10_tells RX10 3 wsX10_tells rmX10_tells (some .int)) (σ : gS) (p1 : Int32) (p2 : Int32) (hF : fX10_tells σ p1 p2 = some out) : WW M (gQi M G zM out.1 out.2) G zM 3 σ 0 [(0, .ref (G.2.1 0)), (1, .int p1), (2, .int p2)] [] := by
  unfold fX10_tells at hF
  refine ww_aload_n (pc := 0) X (j := 0) dX10_tells_0 rfl rfl ?_
  refine ww_get (pc := 1) X (ref := "PictureBlockModel") (T := TX10) (j := 38) dX10_tells_1 inX10_tells_RX10 shzM_0 clzM_10 (by decide) rfl (List.mem_of_getElem? (i := 1) rfl) rfl ?_
  refine ww_iload_n (pc := 4) X (j := 2) dX10_tells_4 rfl rfl ?_
  refine ww_aload_n (pc := 5) X (j := 0) dX10_tells_5 rfl rfl ?_
  refine ww_iload_n (pc := 6) X (j := 1) dX10_tells_6 rfl rfl ?_
  obtain ⟨r2, h1, hF⟩ := bd_some hF
  refine ww_callVi (pc := 7) X (As := [.int p1]) (rest := [.int p2, .ref (G.2.1 28)]) dX10_tells_7 (kX10_fourAt (mL M) G X.2.2.2.2.2.2.1 X.2.2.2.2.2.2.2.1 σ p1 r2 h1) rfl shzM_0 clzM_10 gX10_tells_X10_fourAt hyX10_fourAt ⟨rfl, rfl⟩ ⟨Nat.le_of_ble_eq_true rfl, Nat.le_of_ble_eq_true rfl⟩ rfl rfl (Nat.le_of_ble_eq_true rfl) ?_
  refine ww_iast (pc := 10) X dX10_tells_10 shzM_28 rfl hF (fun σ3 eσ3 bσ3 hF => ?_)
  refine ww_aload_n (pc := 11) X (j := 0) dX10_tells_11 rfl rfl ?_
  refine ww_get (pc := 12) X (ref := "PictureBlockModel") (T := TX10) (j := 38) dX10_tells_12 inX10_tells_RX10 shzM_0 clzM_10 (by decide) rfl (List.mem_of_getElem? (i := 1) rfl) rfl ?_
  refine ww_bipush (pc := 15) X (v := 38) dX10_tells_15 (by decide) ?_
  refine ww_iload_n (pc := 17) X (j := 2) dX10_tells_17 rfl rfl ?_
  refine ww_iadd (pc := 18) X dX10_tells_18 ?_
  refine ww_aload_n (pc := 19) X (j := 0) dX10_tells_19 rfl rfl ?_
  refine ww_iload_n (pc := 20) X (j := 1) dX10_tells_20 rfl rfl ?_
  refine ww_iconst (pc := 21) X (v := 4) dX10_tells_21 (by decide) ?_
  refine ww_iadd (pc := 22) X dX10_tells_22 ?_
  obtain ⟨r5, h4, hF⟩ := bd_some hF
  refine ww_callVi (pc := 23) X (As := [.int (p1 + 4)]) (rest := [.int (38 + p2), .ref (G.2.1 28)]) dX10_tells_23 (kX10_fourAt (mL M) G X.2.2.2.2.2.2.1 X.2.2.2.2.2.2.2.1 σ3 (p1 + 4) r5 h4) rfl shzM_0 clzM_10 gX10_tells_X10_fourAt hyX10_fourAt ⟨rfl, rfl⟩ ⟨Nat.le_of_ble_eq_true rfl, Nat.le_of_ble_eq_true rfl⟩ rfl rfl (Nat.le_of_ble_eq_true rfl) ?_
  refine ww_iast (pc := 26) X dX10_tells_26 shzM_28 rfl hF (fun σ6 eσ6 bσ6 hF => ?_)
  refine ww_iload_n (pc := 27) X (j := 1) dX10_tells_27 rfl rfl ?_
  refine ww_bipush (pc := 28) X (v := 8) dX10_tells_28 (by decide) ?_
  refine ww_iadd (pc := 30) X dX10_tells_30 ?_
  exact ww_iret (pc := 31) X dX10_tells_31 (fst_of hF) (snd_of hF)
set_option maxRecDepth 100000 in
set_option maxHeartbeats 4000000 in
theorem kX10_tells (l : Launch) (G : gG) (hG : gOK G zM.1) (hT : G.2.2.1.map (fun q => q.2) = zM.2.1) (σ : gS) (p1 : Int32) (p2 : Int32) (out : Int32 × gS) (hF : fX10_tells σ p1 p2 = some out) : gCi l yX10_tells wsX10_tells rmX10_tells G zM [.ref (G.2.1 0), .int p1, .int p2] σ out.1 out.2 :=
  gEnter (by decide) rfl ⟨rfl, rfl⟩ hG hT (Nat.le_of_ble_eq_true rfl) rfl (fun M X hl => wX10_tells X σ p1 p2 hF)
noncomputable def bX10_on_126 (σ : gS) (c126_2 : Int32) (rec126 : Int32 → gS → Option (Int32 × gS)) (a3 : Int32) (σ1 : gS) : Option (Int32 × gS) :=
  bd (fX10_rows σ1) fun r22 => (if r22 ≤ a3 then some (1, σ1) else gd (gb (c126_2 + a3) 1600) <| nm (σ1.1 1 (c126_2 + a3).toNatClampNeg) fun v24 => (if v24 = 1 then gd (gb a3 60) <| nm (gsI σ1 26 a3.toNatClampNeg (vp_nar .boolean 1)) fun σ28 => nm (a3 + 1 : Int32) fun x29 => rec126 x29 σ28 else gd (gb a3 60) <| nm (gsI σ1 26 a3.toNatClampNeg (vp_nar .boolean 0)) fun σ26 => nm (a3 + 1 : Int32) fun x27 => rec126 x27 σ26))
noncomputable def bX10_on_97 (σ : gS) (rec97 : Int32 → Int32 → gS → Option (Int32 × gS)) (a2 : Int32) (a3 : Int32) (σ1 : gS) : Option (Int32 × gS) :=
  gd (gb 6 12) <| nm (σ1.1 15 ((6 : Int32).toNatClampNeg)) fun v18 => (if v18 ≤ a3 then nm (0 : Int32) fun x20 => lpc (S := Int32 × gS) K9 (fun rec s => bX10_on_126 σ1 a2 (fun a3 σ1 => rec (a3, σ1)) s.1 s.2) (x20, σ1) else bd2 (fX10_tells σ1 a2 (32 + a3)) fun r31 σ32 => nm (r31 : Int32) fun x33 => nm (a3 + 1 : Int32) fun x34 => rec97 x33 x34 σ32)
noncomputable def bX10_on_71 (σ : gS) (rec71 : Int32 → Int32 → gS → Option (Int32 × gS)) (a2 : Int32) (a3 : Int32) (σ1 : gS) : Option (Int32 × gS) :=
  bd (fX10_points σ1) fun r15 => (if r15 ≤ a3 then nm (0 : Int32) fun x17 => lpc (S := Int32 × Int32 × gS) K9 (fun rec s => bX10_on_97 σ1 (fun a2 a3 σ1 => rec (a2, a3, σ1)) s.1 s.2.1 s.2.2) (a2, x17, σ1) else bd2 (fX10_tells σ1 a2 (12 + a3)) fun r36 σ37 => nm (r36 : Int32) fun x38 => nm (a3 + 1 : Int32) fun x39 => rec71 x38 x39 σ37)
noncomputable def bX10_on_34 (σ : gS) (rec34 : Int32 → Int32 → gS → Option (Int32 × gS)) (a2 : Int32) (a3 : Int32) (σ1 : gS) : Option (Int32 × gS) :=
  bd (fX10_pictures σ1) fun r11 => (if r11 ≤ a3 then nm (0 : Int32) fun x13 => lpc (S := Int32 × Int32 × gS) K9 (fun rec s => bX10_on_71 σ1 (fun a2 a3 σ1 => rec (a2, a3, σ1)) s.1 s.2.1 s.2.2) (a2, x13, σ1) else gd (gb a2 1600) <| nm (σ1.1 1 a2.toNatClampNeg) fun v40 => gd (gb a3 12) <| nm (gsI σ1 27 a3.toNatClampNeg v40) fun σ41 => bd2 (fX10_tells σ41 (a2 + 1) a3) fun r43 σ44 => nm (r43 : Int32) fun x45 => nm (a3 + 1 : Int32) fun x46 => rec34 x45 x46 σ44)
noncomputable def fX10_on (σ : gS) : Option (Int32 × gS) :=
  nm (σ.1 0 1 : Int32) fun x1 => nm (gsI σ 0 1 0) fun σ2 => bd (fX10_isTold σ2 x1) fun r4 => (if r4 = 0 then some (0, σ2) else gd (gb 0 1600) <| nm (σ2.1 1 ((0 : Int32).toNatClampNeg)) fun v6 => nm (gsI σ2 0 36 v6) fun σ7 => nm (1 : Int32) fun x8 => nm (0 : Int32) fun x9 => lpc (S := Int32 × Int32 × gS) K9 (fun rec s => bX10_on_34 σ7 (fun a2 a3 σ1 => rec (a2, a3, σ1)) s.1 s.2.1 s.2.2) (x8, x9, σ7))
noncomputable abbrev rmX10_on : Room := { frames := 3, cells := 0, slots := 0, locals := 77 }
set_option maxRecDepth 100000 in
set_option maxHeartbeats 4000000 in
theorem wbX10_on_126 {M : gM} {G : gG} {out : Int32 × gS} (X : gX M G zM cX10_on RX10 4 wsX10_on rmX10_on (some .boolean)) (σ : gS) (c126_2 : Int32) (rec126 : Int32 → gS → Option (Int32 × gS)) (ih126 : ∀ (a3 : Int32) (σ1 : gS), rec126 a3 σ1 = some out → WW M (gQi M G zM out.1 out.2) G zM 4 σ1 126 [(0, .ref (G.2.1 0)), (2, .int c126_2), (3, .int a3)] []) (a3 : Int32) (σ1 : gS) (hF : bX10_on_126 σ c126_2 rec126 a3 σ1 = some out) : WW M (gQi M G zM out.1 out.2) G zM 4 σ1 126 [(0, .ref (G.2.1 0)), (2, .int c126_2), (3, .int a3)] [] := by
  unfold bX10_on_126 at hF
  refine ww_iload_n (pc := 126) X (j := 2) dX10_on_126 rfl rfl ?_
  refine ww_aload_n (pc := 127) X (j := 0) dX10_on_127 rfl rfl ?_
  obtain ⟨r22, h21, hF⟩ := bd_some hF
  refine ww_callVi (pc := 128) X (As := []) (rest := [.int a3]) dX10_on_128 (kX10_rows (mL M) G X.2.2.2.2.2.2.1 X.2.2.2.2.2.2.2.1 σ1 r22 h21) rfl shzM_0 clzM_10 gX10_on_X10_rows hyX10_rows ⟨rfl, rfl⟩ ⟨Nat.le_of_ble_eq_true rfl, Nat.le_of_ble_eq_true rfl⟩ rfl rfl (Nat.le_of_ble_eq_true rfl) ?_
  refine ww_icmp_ge (pc := 131) (tgt := 163) X dX10_on_131 (by decide) hF (fun h23 hF => ?_) (fun h23 hF => ?_)
  · refine ww_iconst (pc := 163) X (v := 1) dX10_on_163 (by decide) ?_
    exact ww_zret (pc := 164) X dX10_on_164 (by cases hF; rfl) (by cases hF; rfl)
  · refine ww_aload_n (pc := 134) X (j := 0) dX10_on_134 rfl rfl ?_
    refine ww_get (pc := 135) X (ref := "PictureBlockModel") (T := TX10) (j := 35) dX10_on_135 inX10_on_RX10 shzM_0 clzM_10 (by decide) rfl (List.mem_of_getElem? (i := 6) rfl) rfl ?_
    refine ww_iload_n (pc := 138) X (j := 2) dX10_on_138 rfl rfl ?_
    refine ww_aload_n (pc := 139) X (j := 0) dX10_on_139 rfl rfl ?_
    refine ww_get (pc := 140) X (ref := "PictureBlockModel") (T := TX10) (j := 0) dX10_on_140 inX10_on_RX10 shzM_0 clzM_10 (by decide) rfl (List.mem_of_getElem? (i := 2) rfl) rfl ?_
    refine ww_iload_n (pc := 143) X (j := 1) dX10_on_143 rfl rfl ?_
    refine ww_iload_n (pc := 144) X (j := 2) dX10_on_144 rfl rfl ?_
    refine ww_iadd (pc := 145) X dX10_on_145 ?_
    refine ww_iald (pc := 146) X dX10_on_146 shzM_1 rfl hF (fun v24 ev24 bv24 hF => ?_)
    refine ww_iconst (pc := 147) X (v := 1) dX10_on_147 (by decide) ?_
    refine ww_icmp_ne (pc := 148) (tgt := 155) X dX10_on_148 (by decide) hF (fun h25 hF => ?_) (fun h25 hF => ?_)
    · refine ww_iconst (pc := 155) X (v := 0) dX10_on_155 (by decide) ?_
      refine ww_zast (pc := 156) X dX10_on_156 shzM_26 rfl hF (fun σ26 eσ26 bσ26 hF => ?_)
      refine ww_iinc (pc := 157) X (j := 2) (v := 1) (lv' := [(0, .ref (G.2.1 0)), (2, .int c126_2)]) dX10_on_157 rfl rfl (by decide) rfl hF (fun x27 ex27 hF => ?_)
      refine ww_goto (pc := 160) X (tgt := 126) dX10_on_160 (by decide) ?_
      exact ww_sub [1, 2, 0] rfl (ih126 x27 σ26 hF)
    · refine ww_iconst (pc := 151) X (v := 1) dX10_on_151 (by decide) ?_
      refine ww_goto (pc := 152) X (tgt := 156) dX10_on_152 (by decide) ?_
      refine ww_zast (pc := 156) X dX10_on_156 shzM_26 rfl hF (fun σ28 eσ28 bσ28 hF => ?_)
      refine ww_iinc (pc := 157) X (j := 2) (v := 1) (lv' := [(0, .ref (G.2.1 0)), (2, .int c126_2)]) dX10_on_157 rfl rfl (by decide) rfl hF (fun x29 ex29 hF => ?_)
      refine ww_goto (pc := 160) X (tgt := 126) dX10_on_160 (by decide) ?_
      exact ww_sub [1, 2, 0] rfl (ih126 x29 σ28 hF)
set_option maxRecDepth 100000 in
set_option maxHeartbeats 4000000 in
theorem wbX10_on_97 {M : gM} {G : gG} {out : Int32 × gS} (X : gX M G zM cX10_on RX10 4 wsX10_on rmX10_on (some .boolean)) (σ : gS) (rec97 : Int32 → Int32 → gS → Option (Int32 × gS)) (ih97 : ∀ (a2 : Int32) (a3 : Int32) (σ1 : gS), rec97 a2 a3 σ1 = some out → WW M (gQi M G zM out.1 out.2) G zM 4 σ1 97 [(0, .ref (G.2.1 0)), (2, .int a2), (3, .int a3)] []) (a2 : Int32) (a3 : Int32) (σ1 : gS) (hF : bX10_on_97 σ rec97 a2 a3 σ1 = some out) : WW M (gQi M G zM out.1 out.2) G zM 4 σ1 97 [(0, .ref (G.2.1 0)), (2, .int a2), (3, .int a3)] [] := by
  unfold bX10_on_97 at hF
  refine ww_iload_n (pc := 97) X (j := 2) dX10_on_97 rfl rfl ?_
  refine ww_aload_n (pc := 98) X (j := 0) dX10_on_98 rfl rfl ?_
  refine ww_get (pc := 99) X (ref := "PictureBlockModel") (T := TX10) (j := 23) dX10_on_99 inX10_on_RX10 shzM_0 clzM_10 (by decide) rfl (List.mem_of_getElem? (i := 5) rfl) rfl ?_
  refine ww_bipush (pc := 102) X (v := 6) dX10_on_102 (by decide) ?_
  refine ww_iald (pc := 104) X dX10_on_104 shzM_15 rfl hF (fun v18 ev18 bv18 hF => ?_)
  refine ww_icmp_ge (pc := 105) (tgt := 124) X dX10_on_105 (by decide) hF (fun h19 hF => ?_) (fun h19 hF => ?_)
  · refine ww_iconst (pc := 124) X (v := 0) dX10_on_124 (by decide) ?_
    refine ww_istore_n (pc := 125) X (lv' := [(0, .ref (G.2.1 0)), (2, .int a2)]) dX10_on_125 rfl (by decide) rfl hF (fun x20 ex20 hF => ?_)
    exact ww_sub [1, 2, 0] rfl (lpc_ind (P := (fun (s : Int32 × gS) => WW M (gQi M G zM out.1 out.2) G zM 4 s.2 126 [(0, .ref (G.2.1 0)), (2, .int a2), (3, .int s.1)] [])) (fun rec s ih hF => wbX10_on_126 X σ1 a2 (fun a3 σ1 => rec (a3, σ1)) (fun a3 σ1 h => ih (a3, σ1) h) s.1 s.2 hF) K9 (x20, σ1) hF)
  · refine ww_aload_n (pc := 108) X (j := 0) dX10_on_108 rfl rfl ?_
    refine ww_iload_n (pc := 109) X (j := 1) dX10_on_109 rfl rfl ?_
    refine ww_bipush (pc := 110) X (v := 32) dX10_on_110 (by decide) ?_
    refine ww_iload_n (pc := 112) X (j := 2) dX10_on_112 rfl rfl ?_
    refine ww_iadd (pc := 113) X dX10_on_113 ?_
    obtain ⟨r31, σ32, h30, hF⟩ := bd2_some hF
    refine ww_callVi (pc := 114) X (As := [.int a2, .int (32 + a3)]) (rest := []) dX10_on_114 (kX10_tells (mL M) G X.2.2.2.2.2.2.1 X.2.2.2.2.2.2.2.1 σ1 a2 (32 + a3) (r31, σ32) h30) rfl shzM_0 clzM_10 gX10_on_X10_tells hyX10_tells ⟨rfl, rfl⟩ ⟨Nat.le_of_ble_eq_true rfl, Nat.le_of_ble_eq_true rfl⟩ rfl rfl (Nat.le_of_ble_eq_true rfl) ?_
    refine ww_istore_n (pc := 117) X (lv' := [(0, .ref (G.2.1 0)), (3, .int a3)]) dX10_on_117 rfl (by decide) rfl hF (fun x33 ex33 hF => ?_)
    refine ww_iinc (pc := 118) X (j := 2) (v := 1) (lv' := [(2, .int x33), (0, .ref (G.2.1 0))]) dX10_on_118 rfl rfl (by decide) rfl hF (fun x34 ex34 hF => ?_)
    refine ww_goto (pc := 121) X (tgt := 97) dX10_on_121 (by decide) ?_
    exact ww_sub [2, 1, 0] rfl (ih97 x33 x34 σ32 hF)
set_option maxRecDepth 100000 in
set_option maxHeartbeats 4000000 in
theorem wbX10_on_71 {M : gM} {G : gG} {out : Int32 × gS} (X : gX M G zM cX10_on RX10 4 wsX10_on rmX10_on (some .boolean)) (σ : gS) (rec71 : Int32 → Int32 → gS → Option (Int32 × gS)) (ih71 : ∀ (a2 : Int32) (a3 : Int32) (σ1 : gS), rec71 a2 a3 σ1 = some out → WW M (gQi M G zM out.1 out.2) G zM 4 σ1 71 [(0, .ref (G.2.1 0)), (2, .int a2), (3, .int a3)] []) (a2 : Int32) (a3 : Int32) (σ1 : gS) (hF : bX10_on_71 σ rec71 a2 a3 σ1 = some out) : WW M (gQi M G zM out.1 out.2) G zM 4 σ1 71 [(0, .ref (G.2.1 0)), (2, .int a2), (3, .int a3)] [] := by
  unfold bX10_on_71 at hF
  refine ww_iload_n (pc := 71) X (j := 2) dX10_on_71 rfl rfl ?_
  refine ww_aload_n (pc := 72) X (j := 0) dX10_on_72 rfl rfl ?_
  obtain ⟨r15, h14, hF⟩ := bd_some hF
  refine ww_callVi (pc := 73) X (As := []) (rest := [.int a3]) dX10_on_73 (kX10_points (mL M) G X.2.2.2.2.2.2.1 X.2.2.2.2.2.2.2.1 σ1 r15 h14) rfl shzM_0 clzM_10 gX10_on_X10_points hyX10_points ⟨rfl, rfl⟩ ⟨Nat.le_of_ble_eq_true rfl, Nat.le_of_ble_eq_true rfl⟩ rfl rfl (Nat.le_of_ble_eq_true rfl) ?_
  refine ww_icmp_ge (pc := 76) (tgt := 95) X dX10_on_76 (by decide) hF (fun h16 hF => ?_) (fun h16 hF => ?_)
  · refine ww_iconst (pc := 95) X (v := 0) dX10_on_95 (by decide) ?_
    refine ww_istore_n (pc := 96) X (lv' := [(0, .ref (G.2.1 0)), (2, .int a2)]) dX10_on_96 rfl (by decide) rfl hF (fun x17 ex17 hF => ?_)
    exact ww_sub [1, 2, 0] rfl (lpc_ind (P := (fun (s : Int32 × Int32 × gS) => WW M (gQi M G zM out.1 out.2) G zM 4 s.2.2 97 [(0, .ref (G.2.1 0)), (2, .int s.1), (3, .int s.2.1)] [])) (fun rec s ih hF => wbX10_on_97 X σ1 (fun a2 a3 σ1 => rec (a2, a3, σ1)) (fun a2 a3 σ1 h => ih (a2, a3, σ1) h) s.1 s.2.1 s.2.2 hF) K9 (a2, x17, σ1) hF)
  · refine ww_aload_n (pc := 79) X (j := 0) dX10_on_79 rfl rfl ?_
    refine ww_iload_n (pc := 80) X (j := 1) dX10_on_80 rfl rfl ?_
    refine ww_bipush (pc := 81) X (v := 12) dX10_on_81 (by decide) ?_
    refine ww_iload_n (pc := 83) X (j := 2) dX10_on_83 rfl rfl ?_
    refine ww_iadd (pc := 84) X dX10_on_84 ?_
    obtain ⟨r36, σ37, h35, hF⟩ := bd2_some hF
    refine ww_callVi (pc := 85) X (As := [.int a2, .int (12 + a3)]) (rest := []) dX10_on_85 (kX10_tells (mL M) G X.2.2.2.2.2.2.1 X.2.2.2.2.2.2.2.1 σ1 a2 (12 + a3) (r36, σ37) h35) rfl shzM_0 clzM_10 gX10_on_X10_tells hyX10_tells ⟨rfl, rfl⟩ ⟨Nat.le_of_ble_eq_true rfl, Nat.le_of_ble_eq_true rfl⟩ rfl rfl (Nat.le_of_ble_eq_true rfl) ?_
    refine ww_istore_n (pc := 88) X (lv' := [(0, .ref (G.2.1 0)), (3, .int a3)]) dX10_on_88 rfl (by decide) rfl hF (fun x38 ex38 hF => ?_)
    refine ww_iinc (pc := 89) X (j := 2) (v := 1) (lv' := [(2, .int x38), (0, .ref (G.2.1 0))]) dX10_on_89 rfl rfl (by decide) rfl hF (fun x39 ex39 hF => ?_)
    refine ww_goto (pc := 92) X (tgt := 71) dX10_on_92 (by decide) ?_
    exact ww_sub [2, 1, 0] rfl (ih71 x38 x39 σ37 hF)
set_option maxRecDepth 100000 in
set_option maxHeartbeats 4000000 in
theorem wbX10_on_34 {M : gM} {G : gG} {out : Int32 × gS} (X : gX M G zM cX10_on RX10 4 wsX10_on rmX10_on (some .boolean)) (σ : gS) (rec34 : Int32 → Int32 → gS → Option (Int32 × gS)) (ih34 : ∀ (a2 : Int32) (a3 : Int32) (σ1 : gS), rec34 a2 a3 σ1 = some out → WW M (gQi M G zM out.1 out.2) G zM 4 σ1 34 [(0, .ref (G.2.1 0)), (2, .int a2), (3, .int a3)] []) (a2 : Int32) (a3 : Int32) (σ1 : gS) (hF : bX10_on_34 σ rec34 a2 a3 σ1 = some out) : WW M (gQi M G zM out.1 out.2) G zM 4 σ1 34 [(0, .ref (G.2.1 0)), (2, .int a2), (3, .int a3)] [] := by
  unfold bX10_on_34 at hF
  refine ww_iload_n (pc := 34) X (j := 2) dX10_on_34 rfl rfl ?_
  refine ww_aload_n (pc := 35) X (j := 0) dX10_on_35 rfl rfl ?_
  obtain ⟨r11, h10, hF⟩ := bd_some hF
  refine ww_callVi (pc := 36) X (As := []) (rest := [.int a3]) dX10_on_36 (kX10_pictures (mL M) G X.2.2.2.2.2.2.1 X.2.2.2.2.2.2.2.1 σ1 r11 h10) rfl shzM_0 clzM_10 gX10_on_X10_pictures hyX10_pictures ⟨rfl, rfl⟩ ⟨Nat.le_of_ble_eq_true rfl, Nat.le_of_ble_eq_true rfl⟩ rfl rfl (Nat.le_of_ble_eq_true rfl) ?_
  refine ww_icmp_ge (pc := 39) (tgt := 69) X dX10_on_39 (by decide) hF (fun h12 hF => ?_) (fun h12 hF => ?_)
  · refine ww_iconst (pc := 69) X (v := 0) dX10_on_69 (by decide) ?_
    refine ww_istore_n (pc := 70) X (lv' := [(0, .ref (G.2.1 0)), (2, .int a2)]) dX10_on_70 rfl (by decide) rfl hF (fun x13 ex13 hF => ?_)
    exact ww_sub [1, 2, 0] rfl (lpc_ind (P := (fun (s : Int32 × Int32 × gS) => WW M (gQi M G zM out.1 out.2) G zM 4 s.2.2 71 [(0, .ref (G.2.1 0)), (2, .int s.1), (3, .int s.2.1)] [])) (fun rec s ih hF => wbX10_on_71 X σ1 (fun a2 a3 σ1 => rec (a2, a3, σ1)) (fun a2 a3 σ1 h => ih (a2, a3, σ1) h) s.1 s.2.1 s.2.2 hF) K9 (a2, x13, σ1) hF)
  · refine ww_aload_n (pc := 42) X (j := 0) dX10_on_42 rfl rfl ?_
    refine ww_get (pc := 43) X (ref := "PictureBlockModel") (T := TX10) (j := 37) dX10_on_43 inX10_on_RX10 shzM_0 clzM_10 (by decide) rfl (List.mem_of_getElem? (i := 4) rfl) rfl ?_
    refine ww_iload_n (pc := 46) X (j := 2) dX10_on_46 rfl rfl ?_
    refine ww_aload_n (pc := 47) X (j := 0) dX10_on_47 rfl rfl ?_
    refine ww_get (pc := 48) X (ref := "PictureBlockModel") (T := TX10) (j := 0) dX10_on_48 inX10_on_RX10 shzM_0 clzM_10 (by decide) rfl (List.mem_of_getElem? (i := 2) rfl) rfl ?_
    refine ww_iload_n (pc := 51) X (j := 1) dX10_on_51 rfl rfl ?_
    refine ww_iald (pc := 52) X dX10_on_52 shzM_1 rfl hF (fun v40 ev40 bv40 hF => ?_)
    refine ww_iast (pc := 53) X dX10_on_53 shzM_27 rfl hF (fun σ41 eσ41 bσ41 hF => ?_)
    refine ww_aload_n (pc := 54) X (j := 0) dX10_on_54 rfl rfl ?_
    refine ww_iload_n (pc := 55) X (j := 1) dX10_on_55 rfl rfl ?_
    refine ww_iconst (pc := 56) X (v := 1) dX10_on_56 (by decide) ?_
    refine ww_iadd (pc := 57) X dX10_on_57 ?_
    refine ww_iload_n (pc := 58) X (j := 2) dX10_on_58 rfl rfl ?_
    obtain ⟨r43, σ44, h42, hF⟩ := bd2_some hF
    refine ww_callVi (pc := 59) X (As := [.int (a2 + 1), .int a3]) (rest := []) dX10_on_59 (kX10_tells (mL M) G X.2.2.2.2.2.2.1 X.2.2.2.2.2.2.2.1 σ41 (a2 + 1) a3 (r43, σ44) h42) rfl shzM_0 clzM_10 gX10_on_X10_tells hyX10_tells ⟨rfl, rfl⟩ ⟨Nat.le_of_ble_eq_true rfl, Nat.le_of_ble_eq_true rfl⟩ rfl rfl (Nat.le_of_ble_eq_true rfl) ?_
    refine ww_istore_n (pc := 62) X (lv' := [(0, .ref (G.2.1 0)), (3, .int a3)]) dX10_on_62 rfl (by decide) rfl hF (fun x45 ex45 hF => ?_)
    refine ww_iinc (pc := 63) X (j := 2) (v := 1) (lv' := [(2, .int x45), (0, .ref (G.2.1 0))]) dX10_on_63 rfl rfl (by decide) rfl hF (fun x46 ex46 hF => ?_)
    refine ww_goto (pc := 66) X (tgt := 34) dX10_on_66 (by decide) ?_
    exact ww_sub [2, 1, 0] rfl (ih34 x45 x46 σ44 hF)
set_option maxRecDepth 100000 in
set_option maxHeartbeats 4000000 in
theorem wX10_on {M : gM} {G : gG} {out : Int32 × gS} (X : gX M G zM cX10_on RX10 4 wsX10_on rmX10_on (some .boolean)) (σ : gS) (hF : fX10_on σ = some out) : WW M (gQi M G zM out.1 out.2) G zM 4 σ 0 [(0, .ref (G.2.1 0))] [] := by
  unfold fX10_on at hF
  refine ww_aload_n (pc := 0) X (j := 0) dX10_on_0 rfl rfl ?_
  refine ww_get (pc := 1) X (ref := "PictureBlockModel") (T := TX10) (j := 1) dX10_on_1 inX10_on_RX10 shzM_0 clzM_10 (by decide) rfl (List.mem_of_getElem? (i := 1) rfl) rfl ?_
  refine ww_istore_n (pc := 4) X (lv' := [(0, .ref (G.2.1 0))]) dX10_on_4 rfl (by decide) rfl hF (fun x1 ex1 hF => ?_)
  refine ww_aload_n (pc := 5) X (j := 1) dX10_on_5 rfl rfl ?_
  refine ww_iconst (pc := 6) X (v := 0) dX10_on_6 (by decide) ?_
  refine ww_putI (pc := 7) X (ref := "PictureBlockModel") (T := TX10) (j := 1) dX10_on_7 inX10_on_RX10 tyX10 tyX10_ok nmX10 shzM_0 clzM_10 (by decide) rfl (List.mem_of_getElem? (i := 1) rfl) rfl rfl (by decide +kernel) hF (fun σ2 eσ2 hF => ?_)
  refine ww_aload_n (pc := 10) X (j := 1) dX10_on_10 rfl rfl ?_
  refine ww_iload_n (pc := 11) X (j := 0) dX10_on_11 rfl rfl ?_
  obtain ⟨r4, h3, hF⟩ := bd_some hF
  refine ww_callVi (pc := 12) X (As := [.int x1]) (rest := []) dX10_on_12 (kX10_isTold (mL M) G X.2.2.2.2.2.2.1 X.2.2.2.2.2.2.2.1 σ2 x1 r4 h3) rfl shzM_0 clzM_10 gX10_on_X10_isTold hyX10_isTold ⟨rfl, rfl⟩ ⟨Nat.le_of_ble_eq_true rfl, Nat.le_of_ble_eq_true rfl⟩ rfl rfl (Nat.le_of_ble_eq_true rfl) ?_
  refine ww_if_ne (pc := 15) (tgt := 20) X dX10_on_15 (by decide) hF (fun h5 hF => ?_) (fun h5 hF => ?_)
  · refine ww_aload_n (pc := 20) X (j := 1) dX10_on_20 rfl rfl ?_
    refine ww_aload_n (pc := 21) X (j := 1) dX10_on_21 rfl rfl ?_
    refine ww_get (pc := 22) X (ref := "PictureBlockModel") (T := TX10) (j := 0) dX10_on_22 inX10_on_RX10 shzM_0 clzM_10 (by decide) rfl (List.mem_of_getElem? (i := 2) rfl) rfl ?_
    refine ww_iconst (pc := 25) X (v := 0) dX10_on_25 (by decide) ?_
    refine ww_iald (pc := 26) X dX10_on_26 shzM_1 rfl hF (fun v6 ev6 bv6 hF => ?_)
    refine ww_putI (pc := 27) X (ref := "PictureBlockModel") (T := TX10) (j := 36) dX10_on_27 inX10_on_RX10 tyX10 tyX10_ok nmX10 shzM_0 clzM_10 (by decide) rfl (List.mem_of_getElem? (i := 3) rfl) rfl rfl (by decide +kernel) hF (fun σ7 eσ7 hF => ?_)
    refine ww_iconst (pc := 30) X (v := 1) dX10_on_30 (by decide) ?_
    refine ww_istore_n (pc := 31) X (lv' := [(1, .int x1), (0, .ref (G.2.1 0))]) dX10_on_31 rfl (by decide) rfl hF (fun x8 ex8 hF => ?_)
    refine ww_iconst (pc := 32) X (v := 0) dX10_on_32 (by decide) ?_
    refine ww_istore_n (pc := 33) X (lv' := [(2, .int x8), (1, .int x1), (0, .ref (G.2.1 0))]) dX10_on_33 rfl (by decide) rfl hF (fun x9 ex9 hF => ?_)
    exact ww_sub [3, 1, 0] rfl (lpc_ind (P := (fun (s : Int32 × Int32 × gS) => WW M (gQi M G zM out.1 out.2) G zM 4 s.2.2 34 [(0, .ref (G.2.1 0)), (2, .int s.1), (3, .int s.2.1)] [])) (fun rec s ih hF => wbX10_on_34 X σ7 (fun a2 a3 σ1 => rec (a2, a3, σ1)) (fun a2 a3 σ1 h => ih (a2, a3, σ1) h) s.1 s.2.1 s.2.2 hF) K9 (x8, x9, σ7) hF)
  · refine ww_iconst (pc := 18) X (v := 0) dX10_on_18 (by decide) ?_
    exact ww_zret (pc := 19) X dX10_on_19 (by cases hF; rfl) (by cases hF; rfl)
set_option maxRecDepth 100000 in
set_option maxHeartbeats 4000000 in
theorem kX10_on (l : Launch) (G : gG) (hG : gOK G zM.1) (hT : G.2.2.1.map (fun q => q.2) = zM.2.1) (σ : gS) (out : Int32 × gS) (hF : fX10_on σ = some out) : gCi l yX10_on wsX10_on rmX10_on G zM [.ref (G.2.1 0)] σ out.1 out.2 :=
  gEnter (by decide) rfl ⟨rfl, rfl⟩ hG hT (Nat.le_of_ble_eq_true rfl) rfl (fun M X hl => wX10_on X σ hF)
