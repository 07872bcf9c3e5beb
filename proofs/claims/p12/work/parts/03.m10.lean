noncomputable def bX10_treeOf_180 (σ : gS) (c180_1 : Int32) (c180_2 : Int32) (c180_3 : Int32) (c180_5 : Int32) (rec25 : Int32 → Int32 → gS → Option (Int32 × gS)) (rec180 : Int32 → gS → Option (Int32 × gS)) (a6 : Int32) (σ1 : gS) : Option (Int32 × gS) :=
  if 12 ≤ a6 then rec25 c180_1 c180_2 σ1 else gd (gb a6 12) <| nm (σ1.1 35 a6.toNatClampNeg) fun v21 => (if v21 = c180_5 then gd (gb c180_3 12) <| nm (σ1.1 35 c180_3.toNatClampNeg) fun v24 => gd (gb a6 12) <| nm (gsI σ1 35 a6.toNatClampNeg v24) fun σ25 => nm (a6 + 1 : Int32) fun x26 => rec180 x26 σ25 else nm (a6 + 1 : Int32) fun x23 => rec180 x23 σ1)
noncomputable def jX10_treeOf_144 (σ : gS) (rec25 : Int32 → Int32 → gS → Option (Int32 × gS)) (a1 : Int32) (a3 : Int32) (a4 : Int32) (z0 : Int32) : Option (Int32 × gS) :=
  nm (z0 : Int32) fun x13 => (if x13 = 0 then rec25 a1 x13 σ else gd (gb a1 12) <| nm (gsI σ 34 a1.toNatClampNeg ((100 * a3) + a4)) fun σ15 => nm (a1 + 1 : Int32) fun x16 => gd (gb a4 12) <| nm (σ15.1 35 a4.toNatClampNeg) fun v17 => nm (v17 : Int32) fun x18 => nm (0 : Int32) fun x19 => lpc (S := Int32 × gS) K9 (fun rec s => bX10_treeOf_180 σ15 x16 x13 a3 x18 rec25 (fun a6 σ1 => rec (a6, σ1)) s.1 s.2) (x19, σ15))
noncomputable def bX10_treeOf_52 (σ : gS) (c37_1 : Int32) (c52_5 : Int32) (rec25 : Int32 → Int32 → gS → Option (Int32 × gS)) (rec37 : Int32 → Int32 → Int32 → Option (Int32 × gS)) (rec52 : Int32 → Int32 → Int32 → Option (Int32 × gS)) (a3 : Int32) (a4 : Int32) (a6 : Int32) : Option (Int32 × gS) :=
  bd (fX10_pictures σ) fun r29 => (if r29 ≤ a6 then nm (c52_5 + 1 : Int32) fun x31 => rec37 a3 a4 x31 else gd (gb c52_5 12) <| nm (σ.1 35 c52_5.toNatClampNeg) fun v32 => gd (gb a6 12) <| nm (σ.1 35 a6.toNatClampNeg) fun v33 => (if v32 = v33 then nm (a6 + 1 : Int32) fun x35 => rec52 a3 a4 x35 else bd (fX10_tiePoints σ c52_5 a6) fun r37 => (if r37 = 0 then nm (a6 + 1 : Int32) fun x39 => rec52 a3 a4 x39 else if a3 = ((-1)) then nm (c52_5 : Int32) fun x41 => nm (a6 : Int32) fun x42 => nm (a6 + 1 : Int32) fun x43 => rec52 x41 x42 x43 else bd (fX10_tiePoints σ c52_5 a6) fun r45 => bd (fX10_tiePoints σ a3 a4) fun r47 => (if r47 < r45 then nm (c52_5 : Int32) fun x49 => nm (a6 : Int32) fun x50 => nm (a6 + 1 : Int32) fun x51 => rec52 x49 x50 x51 else nm (a6 + 1 : Int32) fun x52 => rec52 a3 a4 x52))))
noncomputable def bX10_treeOf_37 (σ : gS) (c37_1 : Int32) (rec25 : Int32 → Int32 → gS → Option (Int32 × gS)) (rec37 : Int32 → Int32 → Int32 → Option (Int32 × gS)) (a3 : Int32) (a4 : Int32) (a5 : Int32) : Option (Int32 × gS) :=
  bd (fX10_pictures σ) fun r10 => (if r10 ≤ a5 then if a3 = ((-1)) then jX10_treeOf_144 σ rec25 c37_1 a3 a4 0 else jX10_treeOf_144 σ rec25 c37_1 a3 a4 1 else nm (a5 + 1 : Int32) fun x27 => lpc (S := Int32 × Int32 × Int32) K9 (fun rec s => bX10_treeOf_52 σ c37_1 a5 rec25 rec37 (fun a3 a4 a6 => rec (a3, a4, a6)) s.1 s.2.1 s.2.2) (a3, a4, x27))
noncomputable def bX10_treeOf_25 (σ : gS) (rec25 : Int32 → Int32 → gS → Option (Int32 × gS)) (a1 : Int32) (a2 : Int32) (σ1 : gS) : Option (Int32 × gS) :=
  if a2 = 0 then some (a1, σ1) else nm ((-1) : Int32) fun x6 => nm ((-1) : Int32) fun x7 => nm (0 : Int32) fun x8 => lpc (S := Int32 × Int32 × Int32) K9 (fun rec s => bX10_treeOf_37 σ1 a1 rec25 (fun a3 a4 a5 => rec (a3, a4, a5)) s.1 s.2.1 s.2.2) (x6, x7, x8)
noncomputable def bX10_treeOf_2 (σ : gS) (rec2 : Int32 → gS → Option (Int32 × gS)) (a1 : Int32) (σ1 : gS) : Option (Int32 × gS) :=
  if 12 ≤ a1 then nm (0 : Int32) fun x3 => nm (1 : Int32) fun x4 => lpc (S := Int32 × Int32 × gS) K9 (fun rec s => bX10_treeOf_25 σ1 (fun a1 a2 σ1 => rec (a1, a2, σ1)) s.1 s.2.1 s.2.2) (x3, x4, σ1) else gd (gb a1 12) <| nm (gsI σ1 35 a1.toNatClampNeg a1) fun σ53 => nm (a1 + 1 : Int32) fun x54 => rec2 x54 σ53
noncomputable def fX10_treeOf (σ : gS) : Option (Int32 × gS) :=
  nm (0 : Int32) fun x1 => lpc (S := Int32 × gS) K9 (fun rec s => bX10_treeOf_2 σ (fun a1 σ1 => rec (a1, σ1)) s.1 s.2) (x1, σ)
noncomputable abbrev rmX10_treeOf : Room := { frames := 3, cells := 0, slots := 0, locals := 68 }
set_option maxRecDepth 100000 in
set_option maxHeartbeats 4000000 in
theorem wbX10_treeOf_180 {M : gM} {G : gG} {out : Int32 × gS} (X : gX M G zM cX10_treeOf RX10 7 wsX10_treeOf rmX10_treeOf (some .int)) (σ : gS) (c180_1 : Int32) (c180_2 : Int32) (c180_3 : Int32) (c180_5 : Int32) (rec25 : Int32 → Int32 → gS → Option (Int32 × gS)) (ih25 : ∀ (a1 : Int32) (a2 : Int32) (σ1 : gS), rec25 a1 a2 σ1 = some out → WW M (gQi M G zM out.1 out.2) G zM 7 σ1 25 [(0, .ref (G.2.1 0)), (1, .int a1), (2, .int a2)] []) (rec180 : Int32 → gS → Option (Int32 × gS)) (ih180 : ∀ (a6 : Int32) (σ1 : gS), rec180 a6 σ1 = some out → WW M (gQi M G zM out.1 out.2) G zM 7 σ1 180 [(0, .ref (G.2.1 0)), (1, .int c180_1), (2, .int c180_2), (3, .int c180_3), (5, .int c180_5), (6, .int a6)] []) (a6 : Int32) (σ1 : gS) (hF : bX10_treeOf_180 σ c180_1 c180_2 c180_3 c180_5 rec25 rec180 a6 σ1 = some out) : WW M (gQi M G zM out.1 out.2) G zM 7 σ1 180 [(0, .ref (G.2.1 0)), (1, .int c180_1), (2, .int c180_2), (3, .int c180_3), (5, .int c180_5), (6, .int a6)] [] := by
  unfold bX10_treeOf_180 at hF
  refine ww_iload (pc := 180) X (j := 5) dX10_treeOf_180 rfl ?_
  refine ww_bipush (pc := 182) X (v := 12) dX10_treeOf_182 (by decide) ?_
  refine ww_icmp_ge (pc := 184) (tgt := 218) X dX10_treeOf_184 (by decide) hF (fun h20 hF => ?_) (fun h20 hF => ?_)
  · refine ww_goto (pc := 218) X (tgt := 25) dX10_treeOf_218 (by decide) ?_
    exact ww_sub [0, 1, 2] rfl (ih25 c180_1 c180_2 σ1 hF)
  · refine ww_aload_n (pc := 187) X (j := 0) dX10_treeOf_187 rfl rfl ?_
    refine ww_get (pc := 188) X (ref := "PictureBlockModel") (T := TX10) (j := 48) dX10_treeOf_188 inX10_treeOf_RX10 shzM_0 clzM_10 (by decide) rfl (List.mem_of_getElem? (i := 1) rfl) rfl ?_
    refine ww_iload (pc := 191) X (j := 5) dX10_treeOf_191 rfl ?_
    refine ww_iald (pc := 193) X dX10_treeOf_193 shzM_35 rfl hF (fun v21 ev21 bv21 hF => ?_)
    refine ww_iload (pc := 194) X (j := 4) dX10_treeOf_194 rfl ?_
    refine ww_icmp_ne (pc := 196) (tgt := 212) X dX10_treeOf_196 (by decide) hF (fun h22 hF => ?_) (fun h22 hF => ?_)
    · refine ww_iinc (pc := 212) X (j := 5) (v := 1) (lv' := [(0, .ref (G.2.1 0)), (1, .int c180_1), (2, .int c180_2), (3, .int c180_3), (5, .int c180_5)]) dX10_treeOf_212 rfl rfl (by decide) rfl hF (fun x23 ex23 hF => ?_)
      refine ww_goto (pc := 215) X (tgt := 180) dX10_treeOf_215 (by decide) ?_
      exact ww_sub [1, 2, 3, 4, 5, 0] rfl (ih180 x23 σ1 hF)
    · refine ww_aload_n (pc := 199) X (j := 0) dX10_treeOf_199 rfl rfl ?_
      refine ww_get (pc := 200) X (ref := "PictureBlockModel") (T := TX10) (j := 48) dX10_treeOf_200 inX10_treeOf_RX10 shzM_0 clzM_10 (by decide) rfl (List.mem_of_getElem? (i := 1) rfl) rfl ?_
      refine ww_iload (pc := 203) X (j := 5) dX10_treeOf_203 rfl ?_
      refine ww_aload_n (pc := 205) X (j := 0) dX10_treeOf_205 rfl rfl ?_
      refine ww_get (pc := 206) X (ref := "PictureBlockModel") (T := TX10) (j := 48) dX10_treeOf_206 inX10_treeOf_RX10 shzM_0 clzM_10 (by decide) rfl (List.mem_of_getElem? (i := 1) rfl) rfl ?_
      refine ww_iload_n (pc := 209) X (j := 3) dX10_treeOf_209 rfl rfl ?_
      refine ww_iald (pc := 210) X dX10_treeOf_210 shzM_35 rfl hF (fun v24 ev24 bv24 hF => ?_)
      refine ww_iast (pc := 211) X dX10_treeOf_211 shzM_35 rfl hF (fun σ25 eσ25 bσ25 hF => ?_)
      refine ww_iinc (pc := 212) X (j := 5) (v := 1) (lv' := [(0, .ref (G.2.1 0)), (1, .int c180_1), (2, .int c180_2), (3, .int c180_3), (5, .int c180_5)]) dX10_treeOf_212 rfl rfl (by decide) rfl hF (fun x26 ex26 hF => ?_)
      refine ww_goto (pc := 215) X (tgt := 180) dX10_treeOf_215 (by decide) ?_
      exact ww_sub [1, 2, 3, 4, 5, 0] rfl (ih180 x26 σ25 hF)
set_option maxRecDepth 100000 in
set_option maxHeartbeats 4000000 in
theorem wjX10_treeOf_144 {M : gM} {G : gG} {out : Int32 × gS} (X : gX M G zM cX10_treeOf RX10 7 wsX10_treeOf rmX10_treeOf (some .int)) (σ : gS) (rec25 : Int32 → Int32 → gS → Option (Int32 × gS)) (ih25 : ∀ (a1 : Int32) (a2 : Int32) (σ1 : gS), rec25 a1 a2 σ1 = some out → WW M (gQi M G zM out.1 out.2) G zM 7 σ1 25 [(0, .ref (G.2.1 0)), (1, .int a1), (2, .int a2)] []) (a1 : Int32) (a3 : Int32) (a4 : Int32) (z0 : Int32) (hF : jX10_treeOf_144 σ rec25 a1 a3 a4 z0 = some out) : WW M (gQi M G zM out.1 out.2) G zM 7 σ 144 [(0, .ref (G.2.1 0)), (1, .int a1), (3, .int a3), (4, .int a4)] [.int z0] := by
  unfold jX10_treeOf_144 at hF
  refine ww_istore_n (pc := 144) X (lv' := [(0, .ref (G.2.1 0)), (1, .int a1), (3, .int a3), (4, .int a4)]) dX10_treeOf_144 rfl (by decide) rfl hF (fun x13 ex13 hF => ?_)
  refine ww_iload_n (pc := 145) X (j := 0) dX10_treeOf_145 rfl rfl ?_
  refine ww_if_ne (pc := 146) (tgt := 152) X dX10_treeOf_146 (by decide) hF (fun h14 hF => ?_) (fun h14 hF => ?_)
  · refine ww_aload_n (pc := 152) X (j := 1) dX10_treeOf_152 rfl rfl ?_
    refine ww_get (pc := 153) X (ref := "PictureBlockModel") (T := TX10) (j := 47) dX10_treeOf_153 inX10_treeOf_RX10 shzM_0 clzM_10 (by decide) rfl (List.mem_of_getElem? (i := 2) rfl) rfl ?_
    refine ww_iload_n (pc := 156) X (j := 2) dX10_treeOf_156 rfl rfl ?_
    refine ww_bipush (pc := 157) X (v := 100) dX10_treeOf_157 (by decide) ?_
    refine ww_iload_n (pc := 159) X (j := 3) dX10_treeOf_159 rfl rfl ?_
    refine ww_imul (pc := 160) X dX10_treeOf_160 ?_
    refine ww_iload (pc := 161) X (j := 4) dX10_treeOf_161 rfl ?_
    refine ww_iadd (pc := 163) X dX10_treeOf_163 ?_
    refine ww_iast (pc := 164) X dX10_treeOf_164 shzM_34 rfl hF (fun σ15 eσ15 bσ15 hF => ?_)
    refine ww_iinc (pc := 165) X (j := 2) (v := 1) (lv' := [(2, .int x13), (0, .ref (G.2.1 0)), (3, .int a3), (4, .int a4)]) dX10_treeOf_165 rfl rfl (by decide) rfl hF (fun x16 ex16 hF => ?_)
    refine ww_aload_n (pc := 168) X (j := 2) dX10_treeOf_168 rfl rfl ?_
    refine ww_get (pc := 169) X (ref := "PictureBlockModel") (T := TX10) (j := 48) dX10_treeOf_169 inX10_treeOf_RX10 shzM_0 clzM_10 (by decide) rfl (List.mem_of_getElem? (i := 1) rfl) rfl ?_
    refine ww_iload (pc := 172) X (j := 4) dX10_treeOf_172 rfl ?_
    refine ww_iald (pc := 174) X dX10_treeOf_174 shzM_35 rfl hF (fun v17 ev17 bv17 hF => ?_)
    refine ww_istore (pc := 175) X (lv' := [(1, .int x16), (2, .int x13), (0, .ref (G.2.1 0)), (3, .int a3), (4, .int a4)]) dX10_treeOf_175 (by decide) rfl hF (fun x18 ex18 hF => ?_)
    refine ww_iconst (pc := 177) X (v := 0) dX10_treeOf_177 (by decide) ?_
    refine ww_istore (pc := 178) X (lv' := [(5, .int x18), (1, .int x16), (2, .int x13), (0, .ref (G.2.1 0)), (3, .int a3), (4, .int a4)]) dX10_treeOf_178 (by decide) rfl hF (fun x19 ex19 hF => ?_)
    exact ww_sub [4, 2, 3, 5, 1, 0] rfl (lpc_ind (P := (fun (s : Int32 × gS) => WW M (gQi M G zM out.1 out.2) G zM 7 s.2 180 [(0, .ref (G.2.1 0)), (1, .int x16), (2, .int x13), (3, .int a3), (5, .int x18), (6, .int s.1)] [])) (fun rec s ih hF => wbX10_treeOf_180 X σ15 x16 x13 a3 x18 rec25  ih25 (fun a6 σ1 => rec (a6, σ1)) (fun a6 σ1 h => ih (a6, σ1) h) s.1 s.2 hF) K9 (x19, σ15) hF)
  · refine ww_goto (pc := 149) X (tgt := 25) dX10_treeOf_149 (by decide) ?_
    exact ww_sub [1, 2, 0] rfl (ih25 a1 x13 σ hF)
set_option maxRecDepth 100000 in
set_option maxHeartbeats 4000000 in
theorem wbX10_treeOf_52 {M : gM} {G : gG} {out : Int32 × gS} (X : gX M G zM cX10_treeOf RX10 7 wsX10_treeOf rmX10_treeOf (some .int)) (σ : gS) (c37_1 : Int32) (c52_5 : Int32) (rec25 : Int32 → Int32 → gS → Option (Int32 × gS)) (rec37 : Int32 → Int32 → Int32 → Option (Int32 × gS)) (ih25 : ∀ (a1 : Int32) (a2 : Int32) (σ1 : gS), rec25 a1 a2 σ1 = some out → WW M (gQi M G zM out.1 out.2) G zM 7 σ1 25 [(0, .ref (G.2.1 0)), (1, .int a1), (2, .int a2)] []) (ih37 : ∀ (a3 : Int32) (a4 : Int32) (a5 : Int32), rec37 a3 a4 a5 = some out → WW M (gQi M G zM out.1 out.2) G zM 7 σ 37 [(0, .ref (G.2.1 0)), (1, .int c37_1), (3, .int a3), (4, .int a4), (5, .int a5)] []) (rec52 : Int32 → Int32 → Int32 → Option (Int32 × gS)) (ih52 : ∀ (a3 : Int32) (a4 : Int32) (a6 : Int32), rec52 a3 a4 a6 = some out → WW M (gQi M G zM out.1 out.2) G zM 7 σ 52 [(0, .ref (G.2.1 0)), (1, .int c37_1), (3, .int a3), (4, .int a4), (5, .int c52_5), (6, .int a6)] []) (a3 : Int32) (a4 : Int32) (a6 : Int32) (hF : bX10_treeOf_52 σ c37_1 c52_5 rec25 rec37 rec52 a3 a4 a6 = some out) : WW M (gQi M G zM out.1 out.2) G zM 7 σ 52 [(0, .ref (G.2.1 0)), (1, .int c37_1), (3, .int a3), (4, .int a4), (5, .int c52_5), (6, .int a6)] [] := by
  unfold bX10_treeOf_52 at hF
  refine ww_iload (pc := 52) X (j := 5) dX10_treeOf_52 rfl ?_
  refine ww_aload_n (pc := 54) X (j := 0) dX10_treeOf_54 rfl rfl ?_
  obtain ⟨r29, h28, hF⟩ := bd_some hF
  refine ww_callVi (pc := 55) X (As := []) (rest := [.int a6]) dX10_treeOf_55 (kX10_pictures (mL M) G X.2.2.2.2.2.2.1 X.2.2.2.2.2.2.2.1 σ r29 h28) rfl shzM_0 clzM_10 gX10_treeOf_X10_pictures hyX10_pictures ⟨rfl, rfl⟩ ⟨Nat.le_of_ble_eq_true rfl, Nat.le_of_ble_eq_true rfl⟩ rfl rfl (Nat.le_of_ble_eq_true rfl) ?_
  refine ww_icmp_ge (pc := 58) (tgt := 128) X dX10_treeOf_58 (by decide) hF (fun h30 hF => ?_) (fun h30 hF => ?_)
  · refine ww_iinc (pc := 128) X (j := 4) (v := 1) (lv' := [(0, .ref (G.2.1 0)), (1, .int c37_1), (3, .int a3), (4, .int a4), (6, .int a6)]) dX10_treeOf_128 rfl rfl (by decide) rfl hF (fun x31 ex31 hF => ?_)
    refine ww_goto (pc := 131) X (tgt := 37) dX10_treeOf_131 (by decide) ?_
    exact ww_sub [1, 2, 3, 4, 0] rfl (ih37 a3 a4 x31 hF)
  · refine ww_aload_n (pc := 61) X (j := 0) dX10_treeOf_61 rfl rfl ?_
    refine ww_get (pc := 62) X (ref := "PictureBlockModel") (T := TX10) (j := 48) dX10_treeOf_62 inX10_treeOf_RX10 shzM_0 clzM_10 (by decide) rfl (List.mem_of_getElem? (i := 1) rfl) rfl ?_
    refine ww_iload (pc := 65) X (j := 4) dX10_treeOf_65 rfl ?_
    refine ww_iald (pc := 67) X dX10_treeOf_67 shzM_35 rfl hF (fun v32 ev32 bv32 hF => ?_)
    refine ww_aload_n (pc := 68) X (j := 0) dX10_treeOf_68 rfl rfl ?_
    refine ww_get (pc := 69) X (ref := "PictureBlockModel") (T := TX10) (j := 48) dX10_treeOf_69 inX10_treeOf_RX10 shzM_0 clzM_10 (by decide) rfl (List.mem_of_getElem? (i := 1) rfl) rfl ?_
    refine ww_iload (pc := 72) X (j := 5) dX10_treeOf_72 rfl ?_
    refine ww_iald (pc := 74) X dX10_treeOf_74 shzM_35 rfl hF (fun v33 ev33 bv33 hF => ?_)
    refine ww_icmp_eq (pc := 75) (tgt := 122) X dX10_treeOf_75 (by decide) hF (fun h34 hF => ?_) (fun h34 hF => ?_)
    · refine ww_iinc (pc := 122) X (j := 5) (v := 1) (lv' := [(0, .ref (G.2.1 0)), (1, .int c37_1), (3, .int a3), (4, .int a4), (5, .int c52_5)]) dX10_treeOf_122 rfl rfl (by decide) rfl hF (fun x35 ex35 hF => ?_)
      refine ww_goto (pc := 125) X (tgt := 52) dX10_treeOf_125 (by decide) ?_
      exact ww_sub [1, 2, 3, 4, 5, 0] rfl (ih52 a3 a4 x35 hF)
    · refine ww_aload_n (pc := 78) X (j := 0) dX10_treeOf_78 rfl rfl ?_
      refine ww_iload (pc := 79) X (j := 4) dX10_treeOf_79 rfl ?_
      refine ww_iload (pc := 81) X (j := 5) dX10_treeOf_81 rfl ?_
      obtain ⟨r37, h36, hF⟩ := bd_some hF
      refine ww_callVi (pc := 83) X (As := [.int c52_5, .int a6]) (rest := []) dX10_treeOf_83 (kX10_tiePoints (mL M) G X.2.2.2.2.2.2.1 X.2.2.2.2.2.2.2.1 σ c52_5 a6 r37 h36) rfl shzM_0 clzM_10 gX10_treeOf_X10_tiePoints hyX10_tiePoints ⟨rfl, rfl⟩ ⟨Nat.le_of_ble_eq_true rfl, Nat.le_of_ble_eq_true rfl⟩ rfl rfl (Nat.le_of_ble_eq_true rfl) ?_
      refine ww_if_eq (pc := 86) (tgt := 122) X dX10_treeOf_86 (by decide) hF (fun h38 hF => ?_) (fun h38 hF => ?_)
      · refine ww_iinc (pc := 122) X (j := 5) (v := 1) (lv' := [(0, .ref (G.2.1 0)), (1, .int c37_1), (3, .int a3), (4, .int a4), (5, .int c52_5)]) dX10_treeOf_122 rfl rfl (by decide) rfl hF (fun x39 ex39 hF => ?_)
        refine ww_goto (pc := 125) X (tgt := 52) dX10_treeOf_125 (by decide) ?_
        exact ww_sub [1, 2, 3, 4, 5, 0] rfl (ih52 a3 a4 x39 hF)
      · refine ww_iload_n (pc := 89) X (j := 2) dX10_treeOf_89 rfl rfl ?_
        refine ww_iconst (pc := 90) X (v := (-1)) dX10_treeOf_90 (by decide) ?_
        refine ww_icmp_eq (pc := 91) (tgt := 115) X dX10_treeOf_91 (by decide) hF (fun h40 hF => ?_) (fun h40 hF => ?_)
        · refine ww_iload (pc := 115) X (j := 4) dX10_treeOf_115 rfl ?_
          refine ww_istore_n (pc := 117) X (lv' := [(0, .ref (G.2.1 0)), (1, .int c37_1), (4, .int a4), (5, .int c52_5), (6, .int a6)]) dX10_treeOf_117 rfl (by decide) rfl hF (fun x41 ex41 hF => ?_)
          refine ww_iload (pc := 118) X (j := 5) dX10_treeOf_118 rfl ?_
          refine ww_istore (pc := 120) X (lv' := [(3, .int x41), (0, .ref (G.2.1 0)), (1, .int c37_1), (5, .int c52_5), (6, .int a6)]) dX10_treeOf_120 (by decide) rfl hF (fun x42 ex42 hF => ?_)
          refine ww_iinc (pc := 122) X (j := 5) (v := 1) (lv' := [(4, .int x42), (3, .int x41), (0, .ref (G.2.1 0)), (1, .int c37_1), (5, .int c52_5)]) dX10_treeOf_122 rfl rfl (by decide) rfl hF (fun x43 ex43 hF => ?_)
          refine ww_goto (pc := 125) X (tgt := 52) dX10_treeOf_125 (by decide) ?_
          exact ww_sub [3, 4, 2, 1, 5, 0] rfl (ih52 x41 x42 x43 hF)
        · refine ww_aload_n (pc := 94) X (j := 0) dX10_treeOf_94 rfl rfl ?_
          refine ww_iload (pc := 95) X (j := 4) dX10_treeOf_95 rfl ?_
          refine ww_iload (pc := 97) X (j := 5) dX10_treeOf_97 rfl ?_
          obtain ⟨r45, h44, hF⟩ := bd_some hF
          refine ww_callVi (pc := 99) X (As := [.int c52_5, .int a6]) (rest := []) dX10_treeOf_99 (kX10_tiePoints (mL M) G X.2.2.2.2.2.2.1 X.2.2.2.2.2.2.2.1 σ c52_5 a6 r45 h44) rfl shzM_0 clzM_10 gX10_treeOf_X10_tiePoints hyX10_tiePoints ⟨rfl, rfl⟩ ⟨Nat.le_of_ble_eq_true rfl, Nat.le_of_ble_eq_true rfl⟩ rfl rfl (Nat.le_of_ble_eq_true rfl) ?_
          refine ww_aload_n (pc := 102) X (j := 0) dX10_treeOf_102 rfl rfl ?_
          refine ww_iload_n (pc := 103) X (j := 2) dX10_treeOf_103 rfl rfl ?_
          refine ww_iload (pc := 104) X (j := 3) dX10_treeOf_104 rfl ?_
          obtain ⟨r47, h46, hF⟩ := bd_some hF
          refine ww_callVi (pc := 106) X (As := [.int a3, .int a4]) (rest := [.int r45]) dX10_treeOf_106 (kX10_tiePoints (mL M) G X.2.2.2.2.2.2.1 X.2.2.2.2.2.2.2.1 σ a3 a4 r47 h46) rfl shzM_0 clzM_10 gX10_treeOf_X10_tiePoints hyX10_tiePoints ⟨rfl, rfl⟩ ⟨Nat.le_of_ble_eq_true rfl, Nat.le_of_ble_eq_true rfl⟩ rfl rfl (Nat.le_of_ble_eq_true rfl) ?_
          refine ww_icmp_gt (pc := 109) (tgt := 115) X dX10_treeOf_109 (by decide) hF (fun h48 hF => ?_) (fun h48 hF => ?_)
          · refine ww_iload (pc := 115) X (j := 4) dX10_treeOf_115 rfl ?_
            refine ww_istore_n (pc := 117) X (lv' := [(0, .ref (G.2.1 0)), (1, .int c37_1), (4, .int a4), (5, .int c52_5), (6, .int a6)]) dX10_treeOf_117 rfl (by decide) rfl hF (fun x49 ex49 hF => ?_)
            refine ww_iload (pc := 118) X (j := 5) dX10_treeOf_118 rfl ?_
            refine ww_istore (pc := 120) X (lv' := [(3, .int x49), (0, .ref (G.2.1 0)), (1, .int c37_1), (5, .int c52_5), (6, .int a6)]) dX10_treeOf_120 (by decide) rfl hF (fun x50 ex50 hF => ?_)
            refine ww_iinc (pc := 122) X (j := 5) (v := 1) (lv' := [(4, .int x50), (3, .int x49), (0, .ref (G.2.1 0)), (1, .int c37_1), (5, .int c52_5)]) dX10_treeOf_122 rfl rfl (by decide) rfl hF (fun x51 ex51 hF => ?_)
            refine ww_goto (pc := 125) X (tgt := 52) dX10_treeOf_125 (by decide) ?_
            exact ww_sub [3, 4, 2, 1, 5, 0] rfl (ih52 x49 x50 x51 hF)
          · refine ww_goto (pc := 112) X (tgt := 122) dX10_treeOf_112 (by decide) ?_
            refine ww_iinc (pc := 122) X (j := 5) (v := 1) (lv' := [(0, .ref (G.2.1 0)), (1, .int c37_1), (3, .int a3), (4, .int a4), (5, .int c52_5)]) dX10_treeOf_122 rfl rfl (by decide) rfl hF (fun x52 ex52 hF => ?_)
            refine ww_goto (pc := 125) X (tgt := 52) dX10_treeOf_125 (by decide) ?_
            exact ww_sub [1, 2, 3, 4, 5, 0] rfl (ih52 a3 a4 x52 hF)
set_option maxRecDepth 100000 in
set_option maxHeartbeats 4000000 in
theorem wbX10_treeOf_37 {M : gM} {G : gG} {out : Int32 × gS} (X : gX M G zM cX10_treeOf RX10 7 wsX10_treeOf rmX10_treeOf (some .int)) (σ : gS) (c37_1 : Int32) (rec25 : Int32 → Int32 → gS → Option (Int32 × gS)) (ih25 : ∀ (a1 : Int32) (a2 : Int32) (σ1 : gS), rec25 a1 a2 σ1 = some out → WW M (gQi M G zM out.1 out.2) G zM 7 σ1 25 [(0, .ref (G.2.1 0)), (1, .int a1), (2, .int a2)] []) (rec37 : Int32 → Int32 → Int32 → Option (Int32 × gS)) (ih37 : ∀ (a3 : Int32) (a4 : Int32) (a5 : Int32), rec37 a3 a4 a5 = some out → WW M (gQi M G zM out.1 out.2) G zM 7 σ 37 [(0, .ref (G.2.1 0)), (1, .int c37_1), (3, .int a3), (4, .int a4), (5, .int a5)] []) (a3 : Int32) (a4 : Int32) (a5 : Int32) (hF : bX10_treeOf_37 σ c37_1 rec25 rec37 a3 a4 a5 = some out) : WW M (gQi M G zM out.1 out.2) G zM 7 σ 37 [(0, .ref (G.2.1 0)), (1, .int c37_1), (3, .int a3), (4, .int a4), (5, .int a5)] [] := by
  unfold bX10_treeOf_37 at hF
  refine ww_iload (pc := 37) X (j := 4) dX10_treeOf_37 rfl ?_
  refine ww_aload_n (pc := 39) X (j := 0) dX10_treeOf_39 rfl rfl ?_
  obtain ⟨r10, h9, hF⟩ := bd_some hF
  refine ww_callVi (pc := 40) X (As := []) (rest := [.int a5]) dX10_treeOf_40 (kX10_pictures (mL M) G X.2.2.2.2.2.2.1 X.2.2.2.2.2.2.2.1 σ r10 h9) rfl shzM_0 clzM_10 gX10_treeOf_X10_pictures hyX10_pictures ⟨rfl, rfl⟩ ⟨Nat.le_of_ble_eq_true rfl, Nat.le_of_ble_eq_true rfl⟩ rfl rfl (Nat.le_of_ble_eq_true rfl) ?_
  refine ww_icmp_ge (pc := 43) (tgt := 134) X dX10_treeOf_43 (by decide) hF (fun h11 hF => ?_) (fun h11 hF => ?_)
  · refine ww_iload_n (pc := 134) X (j := 2) dX10_treeOf_134 rfl rfl ?_
    refine ww_iconst (pc := 135) X (v := (-1)) dX10_treeOf_135 (by decide) ?_
    refine ww_icmp_eq (pc := 136) (tgt := 143) X dX10_treeOf_136 (by decide) hF (fun h12 hF => ?_) (fun h12 hF => ?_)
    · refine ww_iconst (pc := 143) X (v := 0) dX10_treeOf_143 (by decide) ?_
      exact ww_sub [0, 1, 2, 3] rfl (wjX10_treeOf_144 X σ rec25 ih25 c37_1 a3 a4 0 hF)
    · refine ww_iconst (pc := 139) X (v := 1) dX10_treeOf_139 (by decide) ?_
      refine ww_goto (pc := 140) X (tgt := 144) dX10_treeOf_140 (by decide) ?_
      exact ww_sub [0, 1, 2, 3] rfl (wjX10_treeOf_144 X σ rec25 ih25 c37_1 a3 a4 1 hF)
  · refine ww_iload (pc := 46) X (j := 4) dX10_treeOf_46 rfl ?_
    refine ww_iconst (pc := 48) X (v := 1) dX10_treeOf_48 (by decide) ?_
    refine ww_iadd (pc := 49) X dX10_treeOf_49 ?_
    refine ww_istore (pc := 50) X (lv' := [(0, .ref (G.2.1 0)), (1, .int c37_1), (3, .int a3), (4, .int a4), (5, .int a5)]) dX10_treeOf_50 (by decide) rfl hF (fun x27 ex27 hF => ?_)
    exact ww_sub [1, 2, 3, 4, 5, 0] rfl (lpc_ind (P := (fun (s : Int32 × Int32 × Int32) => WW M (gQi M G zM out.1 out.2) G zM 7 σ 52 [(0, .ref (G.2.1 0)), (1, .int c37_1), (3, .int s.1), (4, .int s.2.1), (5, .int a5), (6, .int s.2.2)] [])) (fun rec s ih hF => wbX10_treeOf_52 X σ c37_1 a5 rec25  rec37  ih25 ih37 (fun a3 a4 a6 => rec (a3, a4, a6)) (fun a3 a4 a6 h => ih (a3, a4, a6) h) s.1 s.2.1 s.2.2 hF) K9 (a3, a4, x27) hF)
set_option maxRecDepth 100000 in
set_option maxHeartbeats 4000000 in
theorem wbX10_treeOf_25 {M : gM} {G : gG} {out : Int32 × gS} (X : gX M G zM cX10_treeOf RX10 7 wsX10_treeOf rmX10_treeOf (some .int)) (σ : gS) (rec25 : Int32 → Int32 → gS → Option (Int32 × gS)) (ih25 : ∀ (a1 : Int32) (a2 : Int32) (σ1 : gS), rec25 a1 a2 σ1 = some out → WW M (gQi M G zM out.1 out.2) G zM 7 σ1 25 [(0, .ref (G.2.1 0)), (1, .int a1), (2, .int a2)] []) (a1 : Int32) (a2 : Int32) (σ1 : gS) (hF : bX10_treeOf_25 σ rec25 a1 a2 σ1 = some out) : WW M (gQi M G zM out.1 out.2) G zM 7 σ1 25 [(0, .ref (G.2.1 0)), (1, .int a1), (2, .int a2)] [] := by
  unfold bX10_treeOf_25 at hF
  refine ww_iload_n (pc := 25) X (j := 2) dX10_treeOf_25 rfl rfl ?_
  refine ww_if_eq (pc := 26) (tgt := 221) X dX10_treeOf_26 (by decide) hF (fun h5 hF => ?_) (fun h5 hF => ?_)
  · refine ww_iload_n (pc := 221) X (j := 1) dX10_treeOf_221 rfl rfl ?_
    exact ww_iret (pc := 222) X dX10_treeOf_222 (fst_of hF) (snd_of hF)
  · refine ww_iconst (pc := 29) X (v := (-1)) dX10_treeOf_29 (by decide) ?_
    refine ww_istore_n (pc := 30) X (lv' := [(0, .ref (G.2.1 0)), (1, .int a1), (2, .int a2)]) dX10_treeOf_30 rfl (by decide) rfl hF (fun x6 ex6 hF => ?_)
    refine ww_iconst (pc := 31) X (v := (-1)) dX10_treeOf_31 (by decide) ?_
    refine ww_istore (pc := 32) X (lv' := [(3, .int x6), (0, .ref (G.2.1 0)), (1, .int a1), (2, .int a2)]) dX10_treeOf_32 (by decide) rfl hF (fun x7 ex7 hF => ?_)
    refine ww_iconst (pc := 34) X (v := 0) dX10_treeOf_34 (by decide) ?_
    refine ww_istore (pc := 35) X (lv' := [(4, .int x7), (3, .int x6), (0, .ref (G.2.1 0)), (1, .int a1), (2, .int a2)]) dX10_treeOf_35 (by decide) rfl hF (fun x8 ex8 hF => ?_)
    exact ww_sub [3, 4, 2, 1, 0] rfl (lpc_ind (P := (fun (s : Int32 × Int32 × Int32) => WW M (gQi M G zM out.1 out.2) G zM 7 σ1 37 [(0, .ref (G.2.1 0)), (1, .int a1), (3, .int s.1), (4, .int s.2.1), (5, .int s.2.2)] [])) (fun rec s ih hF => wbX10_treeOf_37 X σ1 a1 rec25  ih25 (fun a3 a4 a5 => rec (a3, a4, a5)) (fun a3 a4 a5 h => ih (a3, a4, a5) h) s.1 s.2.1 s.2.2 hF) K9 (x6, x7, x8) hF)
set_option maxRecDepth 100000 in
set_option maxHeartbeats 4000000 in
theorem wbX10_treeOf_2 {M : gM} {G : gG} {out : Int32 × gS} (X : gX M G zM cX10_treeOf RX10 7 wsX10_treeOf rmX10_treeOf (some .int)) (σ : gS) (rec2 : Int32 → gS → Option (Int32 × gS)) (ih2 : ∀ (a1 : Int32) (σ1 : gS), rec2 a1 σ1 = some out → WW M (gQi M G zM out.1 out.2) G zM 7 σ1 2 [(0, .ref (G.2.1 0)), (1, .int a1)] []) (a1 : Int32) (σ1 : gS) (hF : bX10_treeOf_2 σ rec2 a1 σ1 = some out) : WW M (gQi M G zM out.1 out.2) G zM 7 σ1 2 [(0, .ref (G.2.1 0)), (1, .int a1)] [] := by
  unfold bX10_treeOf_2 at hF
  refine ww_iload_n (pc := 2) X (j := 1) dX10_treeOf_2 rfl rfl ?_
  refine ww_bipush (pc := 3) X (v := 12) dX10_treeOf_3 (by decide) ?_
  refine ww_icmp_ge (pc := 5) (tgt := 21) X dX10_treeOf_5 (by decide) hF (fun h2 hF => ?_) (fun h2 hF => ?_)
  · refine ww_iconst (pc := 21) X (v := 0) dX10_treeOf_21 (by decide) ?_
    refine ww_istore_n (pc := 22) X (lv' := [(0, .ref (G.2.1 0))]) dX10_treeOf_22 rfl (by decide) rfl hF (fun x3 ex3 hF => ?_)
    refine ww_iconst (pc := 23) X (v := 1) dX10_treeOf_23 (by decide) ?_
    refine ww_istore_n (pc := 24) X (lv' := [(1, .int x3), (0, .ref (G.2.1 0))]) dX10_treeOf_24 rfl (by decide) rfl hF (fun x4 ex4 hF => ?_)
    exact ww_sub [2, 1, 0] rfl (lpc_ind (P := (fun (s : Int32 × Int32 × gS) => WW M (gQi M G zM out.1 out.2) G zM 7 s.2.2 25 [(0, .ref (G.2.1 0)), (1, .int s.1), (2, .int s.2.1)] [])) (fun rec s ih hF => wbX10_treeOf_25 X σ1 (fun a1 a2 σ1 => rec (a1, a2, σ1)) (fun a1 a2 σ1 h => ih (a1, a2, σ1) h) s.1 s.2.1 s.2.2 hF) K9 (x3, x4, σ1) hF)
  · refine ww_aload_n (pc := 8) X (j := 0) dX10_treeOf_8 rfl rfl ?_
    refine ww_get (pc := 9) X (ref := "PictureBlockModel") (T := TX10) (j := 48) dX10_treeOf_9 inX10_treeOf_RX10 shzM_0 clzM_10 (by decide) rfl (List.mem_of_getElem? (i := 1) rfl) rfl ?_
    refine ww_iload_n (pc := 12) X (j := 1) dX10_treeOf_12 rfl rfl ?_
    refine ww_iload_n (pc := 13) X (j := 1) dX10_treeOf_13 rfl rfl ?_
    refine ww_iast (pc := 14) X dX10_treeOf_14 shzM_35 rfl hF (fun σ53 eσ53 bσ53 hF => ?_)
    refine ww_iinc (pc := 15) X (j := 1) (v := 1) (lv' := [(0, .ref (G.2.1 0))]) dX10_treeOf_15 rfl rfl (by decide) rfl hF (fun x54 ex54 hF => ?_)
    refine ww_goto (pc := 18) X (tgt := 2) dX10_treeOf_18 (by decide) ?_
    exact ww_sub [1, 0] rfl (ih2 x54 σ53 hF)
set_option maxRecDepth 100000 in
set_option maxHeartbeats 4000000 in
theorem wX10_treeOf {M : gM} {G : gG} {out : Int32 × gS} (X : gX M G zM cX10_treeOf RX10 7 wsX10_treeOf rmX10_treeOf (some .int)) (σ : gS) (hF : fX10_treeOf σ = some out) : WW M (gQi M G zM out.1 out.2) G zM 7 σ 0 [(0, .ref (G.2.1 0))] [] := by
  unfold fX10_treeOf at hF
  refine ww_iconst (pc := 0) X (v := 0) dX10_treeOf_0 (by decide) ?_
  refine ww_istore_n (pc := 1) X (lv' := [(0, .ref (G.2.1 0))]) dX10_treeOf_1 rfl (by decide) rfl hF (fun x1 ex1 hF => ?_)
  exact ww_sub [1, 0] rfl (lpc_ind (P := (fun (s : Int32 × gS) => WW M (gQi M G zM out.1 out.2) G zM 7 s.2 2 [(0, .ref (G.2.1 0)), (1, .int s.1)] [])) (fun rec s ih hF => wbX10_treeOf_2 X σ (fun a1 σ1 => rec (a1, σ1)) (fun a1 σ1 h => ih (a1, σ1) h) s.1 s.2 hF) K9 (x1, σ) hF)
set_option maxRecDepth 100000 in
set_option maxHeartbeats 4000000 in
theorem kX10_treeOf (l : Launch) (G : gG) (hG : gOK G zM.1) (hT : G.2.2.1.map (fun q => q.2) = zM.2.1) (σ : gS) (out : Int32 × gS) (hF : fX10_treeOf σ = some out) : gCi l yX10_treeOf wsX10_treeOf rmX10_treeOf G zM [.ref (G.2.1 0)] σ out.1 out.2 :=
  gEnter (by decide) rfl ⟨rfl, rfl⟩ hG hT (Nat.le_of_ble_eq_true rfl) rfl (fun M X hl => wX10_treeOf X σ hF)
noncomputable def fX10_tree (σ : gS) (p1 : Int32) : Option (Int32 × gS) :=
  bd2 (fX10_treeOf σ) fun r2 σ3 => nm (r2 : Int32) fun x4 => (if p1 = ((-1)) then some (x4, σ3) else bd (fX10_isIn σ3 p1.toInt64 0 ((x4 - 1).toInt64)) fun r7 => (if r7 = 0 then some ((-1), σ3) else gd (gb p1 12) <| nm (σ3.1 34 p1.toNatClampNeg) fun v9 => some (v9, σ3)))
noncomputable abbrev rmX10_tree : Room := { frames := 4, cells := 0, slots := 0, locals := 94 }
set_option maxRecDepth 100000 in
set_option maxHeartbeats 4000000 in
theorem wX10_tree {M : gM} {G : gG} {out : Int32 × gS} (X : gX M G zM cX10_tree RX10 3 wsX10_tree rmX10_tree (some .int)) (σ : gS) (p1 : Int32) (hF : fX10_tree σ p1 = some out) : WW M (gQi M G zM out.1 out.2) G zM 3 σ 0 [(0, .ref (G.2.1 0)), (1, .int p1)] [] := by
  unfold fX10_tree at hF
  refine ww_aload_n (pc := 0) X (j := 0) dX10_tree_0 rfl rfl ?_
  obtain ⟨r2, σ3, h1, hF⟩ := bd2_some hF
  refine ww_callVi (pc := 1) X (As := []) (rest := []) dX10_tree_1 (kX10_treeOf (mL M) G X.2.2.2.2.2.2.1 X.2.2.2.2.2.2.2.1 σ (r2, σ3) h1) rfl shzM_0 clzM_10 gX10_tree_X10_treeOf hyX10_treeOf ⟨rfl, rfl⟩ ⟨Nat.le_of_ble_eq_true rfl, Nat.le_of_ble_eq_true rfl⟩ rfl rfl (Nat.le_of_ble_eq_true rfl) ?_
  refine ww_istore_n (pc := 4) X (lv' := [(0, .ref (G.2.1 0)), (1, .int p1)]) dX10_tree_4 rfl (by decide) rfl hF (fun x4 ex4 hF => ?_)
  refine ww_iload_n (pc := 5) X (j := 2) dX10_tree_5 rfl rfl ?_
  refine ww_iconst (pc := 6) X (v := (-1)) dX10_tree_6 (by decide) ?_
  refine ww_icmp_ne (pc := 7) (tgt := 14) X dX10_tree_7 (by decide) hF (fun h5 hF => ?_) (fun h5 hF => ?_)
  · refine ww_iload_n (pc := 14) X (j := 2) dX10_tree_14 rfl rfl ?_
    refine ww_i2l (pc := 15) X dX10_tree_15 ?_
    refine ww_lconst (pc := 16) X (v := 0) dX10_tree_16 (by decide) ?_
    refine ww_iload_n (pc := 17) X (j := 0) dX10_tree_17 rfl rfl ?_
    refine ww_iconst (pc := 18) X (v := 1) dX10_tree_18 (by decide) ?_
    refine ww_isub (pc := 19) X dX10_tree_19 ?_
    refine ww_i2l (pc := 20) X dX10_tree_20 ?_
    obtain ⟨r7, h6, hF⟩ := bd_some hF
    refine ww_callSi (pc := 21) X (As := [.long p1.toInt64, .long 0, .long ((x4 - 1).toInt64)]) (rest := []) dX10_tree_21 (kX10_isIn (mL M) G X.2.2.2.2.2.2.1 X.2.2.2.2.2.2.2.1 σ3 p1.toInt64 0 ((x4 - 1).toInt64) r7 h6) rfl gX10_tree_X10_isIn hyX10_isIn ⟨rfl, rfl⟩ ⟨Nat.le_of_ble_eq_true rfl, Nat.le_of_ble_eq_true rfl⟩ rfl rfl (Nat.le_of_ble_eq_true rfl) ?_
    refine ww_if_eq (pc := 24) (tgt := 36) X dX10_tree_24 (by decide) hF (fun h8 hF => ?_) (fun h8 hF => ?_)
    · refine ww_iconst (pc := 36) X (v := (-1)) dX10_tree_36 (by decide) ?_
      exact ww_iret (pc := 37) X dX10_tree_37 (fst_of hF) (snd_of hF)
    · refine ww_aload_n (pc := 27) X (j := 1) dX10_tree_27 rfl rfl ?_
      refine ww_get (pc := 28) X (ref := "PictureBlockModel") (T := TX10) (j := 47) dX10_tree_28 inX10_tree_RX10 shzM_0 clzM_10 (by decide) rfl (List.mem_of_getElem? (i := 1) rfl) rfl ?_
      refine ww_iload_n (pc := 31) X (j := 2) dX10_tree_31 rfl rfl ?_
      refine ww_iald (pc := 32) X dX10_tree_32 shzM_34 rfl hF (fun v9 ev9 bv9 hF => ?_)
      refine ww_goto (pc := 33) X (tgt := 37) dX10_tree_33 (by decide) ?_
      exact ww_iret (pc := 37) X dX10_tree_37 (fst_of hF) (snd_of hF)
  · refine ww_iload_n (pc := 10) X (j := 0) dX10_tree_10 rfl rfl ?_
    refine ww_goto (pc := 11) X (tgt := 37) dX10_tree_11 (by decide) ?_
    exact ww_iret (pc := 37) X dX10_tree_37 (fst_of hF) (snd_of hF)
set_option maxRecDepth 100000 in
set_option maxHeartbeats 4000000 in
theorem kX10_tree (l : Launch) (G : gG) (hG : gOK G zM.1) (hT : G.2.2.1.map (fun q => q.2) = zM.2.1) (σ : gS) (p1 : Int32) (out : Int32 × gS) (hF : fX10_tree σ p1 = some out) : gCi l yX10_tree wsX10_tree rmX10_tree G zM [.ref (G.2.1 0), .int p1] σ out.1 out.2 :=
  gEnter (by decide) rfl ⟨rfl, rfl⟩ hG hT (Nat.le_of_ble_eq_true rfl) rfl (fun M X hl => wX10_tree X σ p1 hF)
noncomputable def bX10_plan_153 (σ : gS) (rec153 : Int32 → Int32 → Option (Int32 × gS)) (a3 : Int32) (a4 : Int32) : Option (Int32 × gS) :=
  if 60 ≤ a4 then some (a3, σ) else gd (gb a4 60) <| nm (σ.1 36 a4.toNatClampNeg) fun v15 => (if v15 = 0 then nm (a4 + 1 : Int32) fun x17 => rec153 a3 x17 else nm (a3 + 1 : Int32) fun x18 => nm (a4 + 1 : Int32) fun x19 => rec153 x18 x19)
noncomputable def bX10_plan_53 (σ : gS) (c42_1 : Int32) (c42_2 : Int32) (c53_3 : Int32) (rec42 : Int32 → gS → Option (Int32 × gS)) (rec53 : Int32 → Int32 → gS → Option (Int32 × gS)) (a4 : Int32) (a5 : Int32) (σ1 : gS) : Option (Int32 × gS) :=
  bd (fX10_points σ1) fun r23 => (if r23 ≤ a5 then nm (c53_3 + 1 : Int32) fun x25 => rec42 x25 σ1 else if c42_1 ≤ a4 then nm (c53_3 + 1 : Int32) fun x27 => rec42 x27 σ1 else gd (gb c53_3 12) <| nm (σ1.1 34 c53_3.toNatClampNeg) fun v28 => bd (fX10_rowOf σ1 (v28 / 100) a5) fun r30 => nm (r30 : Int32) fun x31 => gd (gb c53_3 12) <| nm (σ1.1 34 c53_3.toNatClampNeg) fun v32 => bd (fX10_rowOf σ1 (irm v32 100) a5) fun r34 => nm (r34 : Int32) fun x35 => (if x31 = ((-1)) then nm (a5 + 1 : Int32) fun x37 => rec53 a4 x37 σ1 else if x35 = ((-1)) then nm (a5 + 1 : Int32) fun x43 => rec53 a4 x43 σ1 else gd (gb x31 60) <| nm (gsI σ1 36 x31.toNatClampNeg (vp_nar .boolean 1)) fun σ39 => gd (gb x35 60) <| nm (gsI σ39 36 x35.toNatClampNeg (vp_nar .boolean 1)) fun σ40 => nm (a4 + 1 : Int32) fun x41 => nm (a5 + 1 : Int32) fun x42 => rec53 x41 x42 σ40))
noncomputable def bX10_plan_42 (σ : gS) (c42_1 : Int32) (c42_2 : Int32) (rec42 : Int32 → gS → Option (Int32 × gS)) (a3 : Int32) (σ1 : gS) : Option (Int32 × gS) :=
  if c42_2 ≤ a3 then nm (0 : Int32) fun x12 => nm (0 : Int32) fun x13 => lpc (S := Int32 × Int32) K9 (fun rec s => bX10_plan_153 σ1 (fun a3 a4 => rec (a3, a4)) s.1 s.2) (x12, x13) else nm (0 : Int32) fun x20 => nm (0 : Int32) fun x21 => lpc (S := Int32 × Int32 × gS) K9 (fun rec s => bX10_plan_53 σ1 c42_1 c42_2 a3 rec42 (fun a4 a5 σ1 => rec (a4, a5, σ1)) s.1 s.2.1 s.2.2) (x20, x21, σ1)
noncomputable def bX10_plan_16 (σ : gS) (c16_1 : Int32) (rec16 : Int32 → gS → Option (Int32 × gS)) (a2 : Int32) (σ1 : gS) : Option (Int32 × gS) :=
  if 60 ≤ a2 then bd2 (fX10_treeOf σ1) fun r7 σ8 => nm (r7 : Int32) fun x9 => nm (0 : Int32) fun x10 => lpc (S := Int32 × gS) K9 (fun rec s => bX10_plan_42 σ8 c16_1 x9 (fun a3 σ1 => rec (a3, σ1)) s.1 s.2) (x10, σ8) else gd (gb a2 60) <| nm (gsI σ1 36 a2.toNatClampNeg (vp_nar .boolean 0)) fun σ44 => nm (a2 + 1 : Int32) fun x45 => rec16 x45 σ44
noncomputable def fX10_plan (σ : gS) (p1 : Int32) : Option (Int32 × gS) :=
  bd (fX10_isIn σ p1.toInt64 1 20) fun r2 => (if r2 = 0 then some ((-1), σ) else nm (0 : Int32) fun x4 => lpc (S := Int32 × gS) K9 (fun rec s => bX10_plan_16 σ p1 (fun a2 σ1 => rec (a2, σ1)) s.1 s.2) (x4, σ))
noncomputable abbrev rmX10_plan : Room := { frames := 4, cells := 0, slots := 0, locals := 94 }
set_option maxRecDepth 100000 in
set_option maxHeartbeats 4000000 in
theorem wbX10_plan_153 {M : gM} {G : gG} {out : Int32 × gS} (X : gX M G zM cX10_plan RX10 8 wsX10_plan rmX10_plan (some .int)) (σ : gS) (rec153 : Int32 → Int32 → Option (Int32 × gS)) (ih153 : ∀ (a3 : Int32) (a4 : Int32), rec153 a3 a4 = some out → WW M (gQi M G zM out.1 out.2) G zM 8 σ 153 [(0, .ref (G.2.1 0)), (3, .int a3), (4, .int a4)] []) (a3 : Int32) (a4 : Int32) (hF : bX10_plan_153 σ rec153 a3 a4 = some out) : WW M (gQi M G zM out.1 out.2) G zM 8 σ 153 [(0, .ref (G.2.1 0)), (3, .int a3), (4, .int a4)] [] := by
  unfold bX10_plan_153 at hF
  refine ww_iload (pc := 153) X (j := 2) dX10_plan_153 rfl ?_
  refine ww_bipush (pc := 155) X (v := 60) dX10_plan_155 (by decide) ?_
  refine ww_icmp_ge (pc := 157) (tgt := 179) X dX10_plan_157 (by decide) hF (fun h14 hF => ?_) (fun h14 hF => ?_)
  · refine ww_iload_n (pc := 179) X (j := 1) dX10_plan_179 rfl rfl ?_
    exact ww_iret (pc := 180) X dX10_plan_180 (fst_of hF) (snd_of hF)
  · refine ww_aload_n (pc := 160) X (j := 0) dX10_plan_160 rfl rfl ?_
    refine ww_get (pc := 161) X (ref := "PictureBlockModel") (T := TX10) (j := 49) dX10_plan_161 inX10_plan_RX10 shzM_0 clzM_10 (by decide) rfl (List.mem_of_getElem? (i := 2) rfl) rfl ?_
    refine ww_iload (pc := 164) X (j := 2) dX10_plan_164 rfl ?_
    refine ww_zald (pc := 166) X dX10_plan_166 shzM_36 rfl hF (fun v15 ev15 bv15 hF => ?_)
    refine ww_if_eq (pc := 167) (tgt := 173) X dX10_plan_167 (by decide) hF (fun h16 hF => ?_) (fun h16 hF => ?_)
    · refine ww_iinc (pc := 173) X (j := 2) (v := 1) (lv' := [(0, .ref (G.2.1 0)), (3, .int a3)]) dX10_plan_173 rfl rfl (by decide) rfl hF (fun x17 ex17 hF => ?_)
      refine ww_goto (pc := 176) X (tgt := 153) dX10_plan_176 (by decide) ?_
      exact ww_sub [1, 2, 0] rfl (ih153 a3 x17 hF)
    · refine ww_iinc (pc := 170) X (j := 1) (v := 1) (lv' := [(0, .ref (G.2.1 0)), (4, .int a4)]) dX10_plan_170 rfl rfl (by decide) rfl hF (fun x18 ex18 hF => ?_)
      refine ww_iinc (pc := 173) X (j := 2) (v := 1) (lv' := [(3, .int x18), (0, .ref (G.2.1 0))]) dX10_plan_173 rfl rfl (by decide) rfl hF (fun x19 ex19 hF => ?_)
      refine ww_goto (pc := 176) X (tgt := 153) dX10_plan_176 (by decide) ?_
      exact ww_sub [2, 1, 0] rfl (ih153 x18 x19 hF)
set_option maxRecDepth 100000 in
set_option maxHeartbeats 4000000 in
theorem wbX10_plan_53 {M : gM} {G : gG} {out : Int32 × gS} (X : gX M G zM cX10_plan RX10 8 wsX10_plan rmX10_plan (some .int)) (σ : gS) (c42_1 : Int32) (c42_2 : Int32) (c53_3 : Int32) (rec42 : Int32 → gS → Option (Int32 × gS)) (ih42 : ∀ (a3 : Int32) (σ1 : gS), rec42 a3 σ1 = some out → WW M (gQi M G zM out.1 out.2) G zM 8 σ1 42 [(0, .ref (G.2.1 0)), (1, .int c42_1), (2, .int c42_2), (3, .int a3)] []) (rec53 : Int32 → Int32 → gS → Option (Int32 × gS)) (ih53 : ∀ (a4 : Int32) (a5 : Int32) (σ1 : gS), rec53 a4 a5 σ1 = some out → WW M (gQi M G zM out.1 out.2) G zM 8 σ1 53 [(0, .ref (G.2.1 0)), (1, .int c42_1), (2, .int c42_2), (3, .int c53_3), (4, .int a4), (5, .int a5)] []) (a4 : Int32) (a5 : Int32) (σ1 : gS) (hF : bX10_plan_53 σ c42_1 c42_2 c53_3 rec42 rec53 a4 a5 σ1 = some out) : WW M (gQi M G zM out.1 out.2) G zM 8 σ1 53 [(0, .ref (G.2.1 0)), (1, .int c42_1), (2, .int c42_2), (3, .int c53_3), (4, .int a4), (5, .int a5)] [] := by
  unfold bX10_plan_53 at hF
  refine ww_iload (pc := 53) X (j := 5) dX10_plan_53 rfl ?_
  refine ww_aload_n (pc := 55) X (j := 0) dX10_plan_55 rfl rfl ?_
  obtain ⟨r23, h22, hF⟩ := bd_some hF
  refine ww_callVi (pc := 56) X (As := []) (rest := [.int a5]) dX10_plan_56 (kX10_points (mL M) G X.2.2.2.2.2.2.1 X.2.2.2.2.2.2.2.1 σ1 r23 h22) rfl shzM_0 clzM_10 gX10_plan_X10_points hyX10_points ⟨rfl, rfl⟩ ⟨Nat.le_of_ble_eq_true rfl, Nat.le_of_ble_eq_true rfl⟩ rfl rfl (Nat.le_of_ble_eq_true rfl) ?_
  refine ww_icmp_ge (pc := 59) (tgt := 142) X dX10_plan_59 (by decide) hF (fun h24 hF => ?_) (fun h24 hF => ?_)
  · refine ww_iinc (pc := 142) X (j := 3) (v := 1) (lv' := [(0, .ref (G.2.1 0)), (1, .int c42_1), (2, .int c42_2), (4, .int a4), (5, .int a5)]) dX10_plan_142 rfl rfl (by decide) rfl hF (fun x25 ex25 hF => ?_)
    refine ww_goto (pc := 145) X (tgt := 42) dX10_plan_145 (by decide) ?_
    exact ww_sub [1, 2, 3, 0] rfl (ih42 x25 σ1 hF)
  · refine ww_iload (pc := 62) X (j := 4) dX10_plan_62 rfl ?_
    refine ww_iload_n (pc := 64) X (j := 1) dX10_plan_64 rfl rfl ?_
    refine ww_icmp_ge (pc := 65) (tgt := 142) X dX10_plan_65 (by decide) hF (fun h26 hF => ?_) (fun h26 hF => ?_)
    · refine ww_iinc (pc := 142) X (j := 3) (v := 1) (lv' := [(0, .ref (G.2.1 0)), (1, .int c42_1), (2, .int c42_2), (4, .int a4), (5, .int a5)]) dX10_plan_142 rfl rfl (by decide) rfl hF (fun x27 ex27 hF => ?_)
      refine ww_goto (pc := 145) X (tgt := 42) dX10_plan_145 (by decide) ?_
      exact ww_sub [1, 2, 3, 0] rfl (ih42 x27 σ1 hF)
    · refine ww_aload_n (pc := 68) X (j := 0) dX10_plan_68 rfl rfl ?_
      refine ww_aload_n (pc := 69) X (j := 0) dX10_plan_69 rfl rfl ?_
      refine ww_get (pc := 70) X (ref := "PictureBlockModel") (T := TX10) (j := 47) dX10_plan_70 inX10_plan_RX10 shzM_0 clzM_10 (by decide) rfl (List.mem_of_getElem? (i := 3) rfl) rfl ?_
      refine ww_iload_n (pc := 73) X (j := 3) dX10_plan_73 rfl rfl ?_
      refine ww_iald (pc := 74) X dX10_plan_74 shzM_34 rfl hF (fun v28 ev28 bv28 hF => ?_)
      refine ww_bipush (pc := 75) X (v := 100) dX10_plan_75 (by decide) ?_
      refine ww_idiv (pc := 77) X dX10_plan_77 (by decide) ?_
      refine ww_iload (pc := 78) X (j := 5) dX10_plan_78 rfl ?_
      obtain ⟨r30, h29, hF⟩ := bd_some hF
      refine ww_callVi (pc := 80) X (As := [.int (v28 / 100), .int a5]) (rest := []) dX10_plan_80 (kX10_rowOf (mL M) G X.2.2.2.2.2.2.1 X.2.2.2.2.2.2.2.1 σ1 (v28 / 100) a5 r30 h29) rfl shzM_0 clzM_10 gX10_plan_X10_rowOf hyX10_rowOf ⟨rfl, rfl⟩ ⟨Nat.le_of_ble_eq_true rfl, Nat.le_of_ble_eq_true rfl⟩ rfl rfl (Nat.le_of_ble_eq_true rfl) ?_
      refine ww_istore (pc := 83) X (lv' := [(0, .ref (G.2.1 0)), (1, .int c42_1), (2, .int c42_2), (3, .int c53_3), (4, .int a4), (5, .int a5)]) dX10_plan_83 (by decide) rfl hF (fun x31 ex31 hF => ?_)
      refine ww_aload_n (pc := 85) X (j := 1) dX10_plan_85 rfl rfl ?_
      refine ww_aload_n (pc := 86) X (j := 1) dX10_plan_86 rfl rfl ?_
      refine ww_get (pc := 87) X (ref := "PictureBlockModel") (T := TX10) (j := 47) dX10_plan_87 inX10_plan_RX10 shzM_0 clzM_10 (by decide) rfl (List.mem_of_getElem? (i := 3) rfl) rfl ?_
      refine ww_iload_n (pc := 90) X (j := 4) dX10_plan_90 rfl rfl ?_
      refine ww_iald (pc := 91) X dX10_plan_91 shzM_34 rfl hF (fun v32 ev32 bv32 hF => ?_)
      refine ww_bipush (pc := 92) X (v := 100) dX10_plan_92 (by decide) ?_
      refine ww_irem (pc := 94) X dX10_plan_94 (by decide) ?_
      refine ww_iload (pc := 95) X (j := 6) dX10_plan_95 rfl ?_
      obtain ⟨r34, h33, hF⟩ := bd_some hF
      refine ww_callVi (pc := 97) X (As := [.int (irm v32 100), .int a5]) (rest := []) dX10_plan_97 (kX10_rowOf (mL M) G X.2.2.2.2.2.2.1 X.2.2.2.2.2.2.2.1 σ1 (irm v32 100) a5 r34 h33) rfl shzM_0 clzM_10 gX10_plan_X10_rowOf hyX10_rowOf ⟨rfl, rfl⟩ ⟨Nat.le_of_ble_eq_true rfl, Nat.le_of_ble_eq_true rfl⟩ rfl rfl (Nat.le_of_ble_eq_true rfl) ?_
      refine ww_istore (pc := 100) X (lv' := [(6, .int x31), (0, .ref (G.2.1 0)), (1, .int c42_1), (2, .int c42_2), (3, .int c53_3), (4, .int a4), (5, .int a5)]) dX10_plan_100 (by decide) rfl hF (fun x35 ex35 hF => ?_)
      refine ww_iload (pc := 102) X (j := 1) dX10_plan_102 rfl ?_
      refine ww_iconst (pc := 104) X (v := (-1)) dX10_plan_104 (by decide) ?_
      refine ww_icmp_eq (pc := 105) (tgt := 136) X dX10_plan_105 (by decide) hF (fun h36 hF => ?_) (fun h36 hF => ?_)
      · refine ww_iinc (pc := 136) X (j := 7) (v := 1) (lv' := [(7, .int x35), (6, .int x31), (0, .ref (G.2.1 0)), (1, .int c42_1), (2, .int c42_2), (3, .int c53_3), (4, .int a4)]) dX10_plan_136 rfl rfl (by decide) rfl hF (fun x37 ex37 hF => ?_)
        refine ww_goto (pc := 139) X (tgt := 53) dX10_plan_139 (by decide) ?_
        exact ww_sub [3, 4, 5, 6, 7, 0] rfl (ih53 a4 x37 σ1 hF)
      · refine ww_iload (pc := 108) X (j := 0) dX10_plan_108 rfl ?_
        refine ww_iconst (pc := 110) X (v := (-1)) dX10_plan_110 (by decide) ?_
        refine ww_icmp_ne (pc := 111) (tgt := 117) X dX10_plan_111 (by decide) hF (fun h38 hF => ?_) (fun h38 hF => ?_)
        · refine ww_aload_n (pc := 117) X (j := 2) dX10_plan_117 rfl rfl ?_
          refine ww_get (pc := 118) X (ref := "PictureBlockModel") (T := TX10) (j := 49) dX10_plan_118 inX10_plan_RX10 shzM_0 clzM_10 (by decide) rfl (List.mem_of_getElem? (i := 2) rfl) rfl ?_
          refine ww_iload (pc := 121) X (j := 1) dX10_plan_121 rfl ?_
          refine ww_iconst (pc := 123) X (v := 1) dX10_plan_123 (by decide) ?_
          refine ww_zast (pc := 124) X dX10_plan_124 shzM_36 rfl hF (fun σ39 eσ39 bσ39 hF => ?_)
          refine ww_aload_n (pc := 125) X (j := 2) dX10_plan_125 rfl rfl ?_
          refine ww_get (pc := 126) X (ref := "PictureBlockModel") (T := TX10) (j := 49) dX10_plan_126 inX10_plan_RX10 shzM_0 clzM_10 (by decide) rfl (List.mem_of_getElem? (i := 2) rfl) rfl ?_
          refine ww_iload (pc := 129) X (j := 0) dX10_plan_129 rfl ?_
          refine ww_iconst (pc := 131) X (v := 1) dX10_plan_131 (by decide) ?_
          refine ww_zast (pc := 132) X dX10_plan_132 shzM_36 rfl hF (fun σ40 eσ40 bσ40 hF => ?_)
          refine ww_iinc (pc := 133) X (j := 6) (v := 1) (lv' := [(7, .int x35), (6, .int x31), (0, .ref (G.2.1 0)), (1, .int c42_1), (2, .int c42_2), (3, .int c53_3), (5, .int a5)]) dX10_plan_133 rfl rfl (by decide) rfl hF (fun x41 ex41 hF => ?_)
          refine ww_iinc (pc := 136) X (j := 7) (v := 1) (lv' := [(4, .int x41), (7, .int x35), (6, .int x31), (0, .ref (G.2.1 0)), (1, .int c42_1), (2, .int c42_2), (3, .int c53_3)]) dX10_plan_136 rfl rfl (by decide) rfl hF (fun x42 ex42 hF => ?_)
          refine ww_goto (pc := 139) X (tgt := 53) dX10_plan_139 (by decide) ?_
          exact ww_sub [4, 5, 6, 7, 1, 0] rfl (ih53 x41 x42 σ40 hF)
        · refine ww_goto (pc := 114) X (tgt := 136) dX10_plan_114 (by decide) ?_
          refine ww_iinc (pc := 136) X (j := 7) (v := 1) (lv' := [(7, .int x35), (6, .int x31), (0, .ref (G.2.1 0)), (1, .int c42_1), (2, .int c42_2), (3, .int c53_3), (4, .int a4)]) dX10_plan_136 rfl rfl (by decide) rfl hF (fun x43 ex43 hF => ?_)
          refine ww_goto (pc := 139) X (tgt := 53) dX10_plan_139 (by decide) ?_
          exact ww_sub [3, 4, 5, 6, 7, 0] rfl (ih53 a4 x43 σ1 hF)
set_option maxRecDepth 100000 in
set_option maxHeartbeats 4000000 in
theorem wbX10_plan_42 {M : gM} {G : gG} {out : Int32 × gS} (X : gX M G zM cX10_plan RX10 8 wsX10_plan rmX10_plan (some .int)) (σ : gS) (c42_1 : Int32) (c42_2 : Int32) (rec42 : Int32 → gS → Option (Int32 × gS)) (ih42 : ∀ (a3 : Int32) (σ1 : gS), rec42 a3 σ1 = some out → WW M (gQi M G zM out.1 out.2) G zM 8 σ1 42 [(0, .ref (G.2.1 0)), (1, .int c42_1), (2, .int c42_2), (3, .int a3)] []) (a3 : Int32) (σ1 : gS) (hF : bX10_plan_42 σ c42_1 c42_2 rec42 a3 σ1 = some out) : WW M (gQi M G zM out.1 out.2) G zM 8 σ1 42 [(0, .ref (G.2.1 0)), (1, .int c42_1), (2, .int c42_2), (3, .int a3)] [] := by
  unfold bX10_plan_42 at hF
  refine ww_iload_n (pc := 42) X (j := 3) dX10_plan_42 rfl rfl ?_
  refine ww_iload_n (pc := 43) X (j := 2) dX10_plan_43 rfl rfl ?_
  refine ww_icmp_ge (pc := 44) (tgt := 148) X dX10_plan_44 (by decide) hF (fun h11 hF => ?_) (fun h11 hF => ?_)
  · refine ww_iconst (pc := 148) X (v := 0) dX10_plan_148 (by decide) ?_
    refine ww_istore_n (pc := 149) X (lv' := [(0, .ref (G.2.1 0)), (1, .int c42_1), (2, .int c42_2)]) dX10_plan_149 rfl (by decide) rfl hF (fun x12 ex12 hF => ?_)
    refine ww_iconst (pc := 150) X (v := 0) dX10_plan_150 (by decide) ?_
    refine ww_istore (pc := 151) X (lv' := [(3, .int x12), (0, .ref (G.2.1 0)), (1, .int c42_1), (2, .int c42_2)]) dX10_plan_151 (by decide) rfl hF (fun x13 ex13 hF => ?_)
    exact ww_sub [2, 1, 0] rfl (lpc_ind (P := (fun (s : Int32 × Int32) => WW M (gQi M G zM out.1 out.2) G zM 8 σ1 153 [(0, .ref (G.2.1 0)), (3, .int s.1), (4, .int s.2)] [])) (fun rec s ih hF => wbX10_plan_153 X σ1 (fun a3 a4 => rec (a3, a4)) (fun a3 a4 h => ih (a3, a4) h) s.1 s.2 hF) K9 (x12, x13) hF)
  · refine ww_iconst (pc := 47) X (v := 0) dX10_plan_47 (by decide) ?_
    refine ww_istore (pc := 48) X (lv' := [(0, .ref (G.2.1 0)), (1, .int c42_1), (2, .int c42_2), (3, .int a3)]) dX10_plan_48 (by decide) rfl hF (fun x20 ex20 hF => ?_)
    refine ww_iconst (pc := 50) X (v := 0) dX10_plan_50 (by decide) ?_
    refine ww_istore (pc := 51) X (lv' := [(4, .int x20), (0, .ref (G.2.1 0)), (1, .int c42_1), (2, .int c42_2), (3, .int a3)]) dX10_plan_51 (by decide) rfl hF (fun x21 ex21 hF => ?_)
    exact ww_sub [2, 3, 4, 5, 1, 0] rfl (lpc_ind (P := (fun (s : Int32 × Int32 × gS) => WW M (gQi M G zM out.1 out.2) G zM 8 s.2.2 53 [(0, .ref (G.2.1 0)), (1, .int c42_1), (2, .int c42_2), (3, .int a3), (4, .int s.1), (5, .int s.2.1)] [])) (fun rec s ih hF => wbX10_plan_53 X σ1 c42_1 c42_2 a3 rec42  ih42 (fun a4 a5 σ1 => rec (a4, a5, σ1)) (fun a4 a5 σ1 h => ih (a4, a5, σ1) h) s.1 s.2.1 s.2.2 hF) K9 (x20, x21, σ1) hF)
set_option maxRecDepth 100000 in
set_option maxHeartbeats 4000000 in
theorem wbX10_plan_16 {M : gM} {G : gG} {out : Int32 × gS} (X : gX M G zM cX10_plan RX10 8 wsX10_plan rmX10_plan (some .int)) (σ : gS) (c16_1 : Int32) (rec16 : Int32 → gS → Option (Int32 × gS)) (ih16 : ∀ (a2 : Int32) (σ1 : gS), rec16 a2 σ1 = some out → WW M (gQi M G zM out.1 out.2) G zM 8 σ1 16 [(0, .ref (G.2.1 0)), (1, .int c16_1), (2, .int a2)] []) (a2 : Int32) (σ1 : gS) (hF : bX10_plan_16 σ c16_1 rec16 a2 σ1 = some out) : WW M (gQi M G zM out.1 out.2) G zM 8 σ1 16 [(0, .ref (G.2.1 0)), (1, .int c16_1), (2, .int a2)] [] := by
  unfold bX10_plan_16 at hF
  refine ww_iload_n (pc := 16) X (j := 2) dX10_plan_16 rfl rfl ?_
  refine ww_bipush (pc := 17) X (v := 60) dX10_plan_17 (by decide) ?_
  refine ww_icmp_ge (pc := 19) (tgt := 35) X dX10_plan_19 (by decide) hF (fun h5 hF => ?_) (fun h5 hF => ?_)
  · refine ww_aload_n (pc := 35) X (j := 0) dX10_plan_35 rfl rfl ?_
    obtain ⟨r7, σ8, h6, hF⟩ := bd2_some hF
    refine ww_callVi (pc := 36) X (As := []) (rest := []) dX10_plan_36 (kX10_treeOf (mL M) G X.2.2.2.2.2.2.1 X.2.2.2.2.2.2.2.1 σ1 (r7, σ8) h6) rfl shzM_0 clzM_10 gX10_plan_X10_treeOf hyX10_treeOf ⟨rfl, rfl⟩ ⟨Nat.le_of_ble_eq_true rfl, Nat.le_of_ble_eq_true rfl⟩ rfl rfl (Nat.le_of_ble_eq_true rfl) ?_
    refine ww_istore_n (pc := 39) X (lv' := [(0, .ref (G.2.1 0)), (1, .int c16_1)]) dX10_plan_39 rfl (by decide) rfl hF (fun x9 ex9 hF => ?_)
    refine ww_iconst (pc := 40) X (v := 0) dX10_plan_40 (by decide) ?_
    refine ww_istore_n (pc := 41) X (lv' := [(2, .int x9), (0, .ref (G.2.1 0)), (1, .int c16_1)]) dX10_plan_41 rfl (by decide) rfl hF (fun x10 ex10 hF => ?_)
    exact ww_sub [2, 3, 1, 0] rfl (lpc_ind (P := (fun (s : Int32 × gS) => WW M (gQi M G zM out.1 out.2) G zM 8 s.2 42 [(0, .ref (G.2.1 0)), (1, .int c16_1), (2, .int x9), (3, .int s.1)] [])) (fun rec s ih hF => wbX10_plan_42 X σ8 c16_1 x9 (fun a3 σ1 => rec (a3, σ1)) (fun a3 σ1 h => ih (a3, σ1) h) s.1 s.2 hF) K9 (x10, σ8) hF)
  · refine ww_aload_n (pc := 22) X (j := 0) dX10_plan_22 rfl rfl ?_
    refine ww_get (pc := 23) X (ref := "PictureBlockModel") (T := TX10) (j := 49) dX10_plan_23 inX10_plan_RX10 shzM_0 clzM_10 (by decide) rfl (List.mem_of_getElem? (i := 2) rfl) rfl ?_
    refine ww_iload_n (pc := 26) X (j := 2) dX10_plan_26 rfl rfl ?_
    refine ww_iconst (pc := 27) X (v := 0) dX10_plan_27 (by decide) ?_
    refine ww_zast (pc := 28) X dX10_plan_28 shzM_36 rfl hF (fun σ44 eσ44 bσ44 hF => ?_)
    refine ww_iinc (pc := 29) X (j := 2) (v := 1) (lv' := [(0, .ref (G.2.1 0)), (1, .int c16_1)]) dX10_plan_29 rfl rfl (by decide) rfl hF (fun x45 ex45 hF => ?_)
    refine ww_goto (pc := 32) X (tgt := 16) dX10_plan_32 (by decide) ?_
    exact ww_sub [1, 2, 0] rfl (ih16 x45 σ44 hF)
set_option maxRecDepth 100000 in
set_option maxHeartbeats 4000000 in
theorem wX10_plan {M : gM} {G : gG} {out : Int32 × gS} (X : gX M G zM cX10_plan RX10 8 wsX10_plan rmX10_plan (some .int)) (σ : gS) (p1 : Int32) (hF : fX10_plan σ p1 = some out) : WW M (gQi M G zM out.1 out.2) G zM 8 σ 0 [(0, .ref (G.2.1 0)), (1, .int p1)] [] := by
  unfold fX10_plan at hF
  refine ww_iload_n (pc := 0) X (j := 1) dX10_plan_0 rfl rfl ?_
  refine ww_i2l (pc := 1) X dX10_plan_1 ?_
  refine ww_lconst (pc := 2) X (v := 1) dX10_plan_2 (by decide) ?_
  refine ww_ldc2 (pc := 3) X (v := 20) (List.mem_of_getElem? (i := 1) rfl) dX10_plan_3 ?_
  obtain ⟨r2, h1, hF⟩ := bd_some hF
  refine ww_callSi (pc := 6) X (As := [.long p1.toInt64, .long 1, .long 20]) (rest := []) dX10_plan_6 (kX10_isIn (mL M) G X.2.2.2.2.2.2.1 X.2.2.2.2.2.2.2.1 σ p1.toInt64 1 20 r2 h1) rfl gX10_plan_X10_isIn hyX10_isIn ⟨rfl, rfl⟩ ⟨Nat.le_of_ble_eq_true rfl, Nat.le_of_ble_eq_true rfl⟩ rfl rfl (Nat.le_of_ble_eq_true rfl) ?_
  refine ww_if_ne (pc := 9) (tgt := 14) X dX10_plan_9 (by decide) hF (fun h3 hF => ?_) (fun h3 hF => ?_)
  · refine ww_iconst (pc := 14) X (v := 0) dX10_plan_14 (by decide) ?_
    refine ww_istore_n (pc := 15) X (lv' := [(0, .ref (G.2.1 0)), (1, .int p1)]) dX10_plan_15 rfl (by decide) rfl hF (fun x4 ex4 hF => ?_)
    exact ww_sub [1, 2, 0] rfl (lpc_ind (P := (fun (s : Int32 × gS) => WW M (gQi M G zM out.1 out.2) G zM 8 s.2 16 [(0, .ref (G.2.1 0)), (1, .int p1), (2, .int s.1)] [])) (fun rec s ih hF => wbX10_plan_16 X σ p1 (fun a2 σ1 => rec (a2, σ1)) (fun a2 σ1 h => ih (a2, σ1) h) s.1 s.2 hF) K9 (x4, σ) hF)
  · refine ww_iconst (pc := 12) X (v := (-1)) dX10_plan_12 (by decide) ?_
    exact ww_iret (pc := 13) X dX10_plan_13 (fst_of hF) (snd_of hF)
set_option maxRecDepth 100000 in
set_option maxHeartbeats 4000000 in
theorem kX10_plan (l : Launch) (G : gG) (hG : gOK G zM.1) (hT : G.2.2.1.map (fun q => q.2) = zM.2.1) (σ : gS) (p1 : Int32) (out : Int32 × gS) (hF : fX10_plan σ p1 = some out) : gCi l yX10_plan wsX10_plan rmX10_plan G zM [.ref (G.2.1 0), .int p1] σ out.1 out.2 :=
  gEnter (by decide) rfl ⟨rfl, rfl⟩ hG hT (Nat.le_of_ble_eq_true rfl) rfl (fun M X hl => wX10_plan X σ p1 hF)
noncomputable def bX10_putsAside_28 (σ : gS) (rec28 : Int32 → gS → Option (gS)) (a1 : Int32) (σ1 : gS) : Option (gS) :=
  if 12 ≤ a1 then nm (gsI σ1 0 52 (σ1.1 0 36)) fun σ5 => some σ5 else gd (gb a1 12) <| nm (σ1.1 27 a1.toNatClampNeg) fun v6 => gd (gb a1 12) <| nm (gsI σ1 38 a1.toNatClampNeg v6) fun σ7 => nm (a1 + 1 : Int32) fun x8 => rec28 x8 σ7
noncomputable def bX10_putsAside_2 (σ : gS) (rec2 : Int32 → gS → Option (gS)) (a1 : Int32) (σ1 : gS) : Option (gS) :=
  if 76 ≤ a1 then nm (0 : Int32) fun x3 => lpc (S := Int32 × gS) K9 (fun rec s => bX10_putsAside_28 σ1 (fun a1 σ1 => rec (a1, σ1)) s.1 s.2) (x3, σ1) else gd (gb a1 76) <| nm (σ1.1 28 a1.toNatClampNeg) fun v9 => gd (gb a1 76) <| nm (gsI σ1 37 a1.toNatClampNeg v9) fun σ10 => nm (a1 + 1 : Int32) fun x11 => rec2 x11 σ10
noncomputable def fX10_putsAside (σ : gS) : Option (gS) :=
  nm (0 : Int32) fun x1 => lpc (S := Int32 × gS) K9 (fun rec s => bX10_putsAside_2 σ (fun a1 σ1 => rec (a1, σ1)) s.1 s.2) (x1, σ)
noncomputable abbrev rmX10_putsAside : Room := { frames := 0, cells := 0, slots := 0, locals := 0 }
set_option maxRecDepth 100000 in
set_option maxHeartbeats 4000000 in
theorem wbX10_putsAside_28 {M : gM} {G : gG} {out : gS} (X : gX M G zM cX10_putsAside RX10 2 wsX10_putsAside rmX10_putsAside none) (σ : gS) (rec28 : Int32 → gS → Option (gS)) (ih28 : ∀ (a1 : Int32) (σ1 : gS), rec28 a1 σ1 = some out → WW M (gQv M G zM out) G zM 2 σ1 28 [(0, .ref (G.2.1 0)), (1, .int a1)] []) (a1 : Int32) (σ1 : gS) (hF : bX10_putsAside_28 σ rec28 a1 σ1 = some out) : WW M (gQv M G zM out) G zM 2 σ1 28 [(0, .ref (G.2.1 0)), (1, .int a1)] [] := by
  unfold bX10_putsAside_28 at hF
  refine ww_iload_n (pc := 28) X (j := 1) dX10_putsAside_28 rfl rfl ?_
  refine ww_bipush (pc := 29) X (v := 12) dX10_putsAside_29 (by decide) ?_
  refine ww_icmp_ge (pc := 31) (tgt := 52) X dX10_putsAside_31 (by decide) hF (fun h4 hF => ?_) (fun h4 hF => ?_)
  · refine ww_aload_n (pc := 52) X (j := 0) dX10_putsAside_52 rfl rfl ?_
    refine ww_aload_n (pc := 53) X (j := 0) dX10_putsAside_53 rfl rfl ?_
    refine ww_get (pc := 54) X (ref := "PictureBlockModel") (T := TX10) (j := 36) dX10_putsAside_54 inX10_putsAside_RX10 shzM_0 clzM_10 (by decide) rfl (List.mem_of_getElem? (i := 5) rfl) rfl ?_
    refine ww_putI (pc := 57) X (ref := "PictureBlockModel") (T := TX10) (j := 52) dX10_putsAside_57 inX10_putsAside_RX10 tyX10 tyX10_ok nmX10 shzM_0 clzM_10 (by decide) rfl (List.mem_of_getElem? (i := 6) rfl) rfl rfl (by decide +kernel) hF (fun σ5 eσ5 hF => ?_)
    exact ww_vret (pc := 60) X dX10_putsAside_60 (by cases hF; rfl)
  · refine ww_aload_n (pc := 34) X (j := 0) dX10_putsAside_34 rfl rfl ?_
    refine ww_get (pc := 35) X (ref := "PictureBlockModel") (T := TX10) (j := 51) dX10_putsAside_35 inX10_putsAside_RX10 shzM_0 clzM_10 (by decide) rfl (List.mem_of_getElem? (i := 3) rfl) rfl ?_
    refine ww_iload_n (pc := 38) X (j := 1) dX10_putsAside_38 rfl rfl ?_
    refine ww_aload_n (pc := 39) X (j := 0) dX10_putsAside_39 rfl rfl ?_
    refine ww_get (pc := 40) X (ref := "PictureBlockModel") (T := TX10) (j := 37) dX10_putsAside_40 inX10_putsAside_RX10 shzM_0 clzM_10 (by decide) rfl (List.mem_of_getElem? (i := 4) rfl) rfl ?_
    refine ww_iload_n (pc := 43) X (j := 1) dX10_putsAside_43 rfl rfl ?_
    refine ww_iald (pc := 44) X dX10_putsAside_44 shzM_27 rfl hF (fun v6 ev6 bv6 hF => ?_)
    refine ww_iast (pc := 45) X dX10_putsAside_45 shzM_38 rfl hF (fun σ7 eσ7 bσ7 hF => ?_)
    refine ww_iinc (pc := 46) X (j := 1) (v := 1) (lv' := [(0, .ref (G.2.1 0))]) dX10_putsAside_46 rfl rfl (by decide) rfl hF (fun x8 ex8 hF => ?_)
    refine ww_goto (pc := 49) X (tgt := 28) dX10_putsAside_49 (by decide) ?_
    exact ww_sub [1, 0] rfl (ih28 x8 σ7 hF)
set_option maxRecDepth 100000 in
set_option maxHeartbeats 4000000 in
theorem wbX10_putsAside_2 {M : gM} {G : gG} {out : gS} (X : gX M G zM cX10_putsAside RX10 2 wsX10_putsAside rmX10_putsAside none) (σ : gS) (rec2 : Int32 → gS → Option (gS)) (ih2 : ∀ (a1 : Int32) (σ1 : gS), rec2 a1 σ1 = some out → WW M (gQv M G zM out) G zM 2 σ1 2 [(0, .ref (G.2.1 0)), (1, .int a1)] []) (a1 : Int32) (σ1 : gS) (hF : bX10_putsAside_2 σ rec2 a1 σ1 = some out) : WW M (gQv M G zM out) G zM 2 σ1 2 [(0, .ref (G.2.1 0)), (1, .int a1)] [] := by
  unfold bX10_putsAside_2 at hF
  refine ww_iload_n (pc := 2) X (j := 1) dX10_putsAside_2 rfl rfl ?_
  refine ww_bipush (pc := 3) X (v := 76) dX10_putsAside_3 (by decide) ?_
  refine ww_icmp_ge (pc := 5) (tgt := 26) X dX10_putsAside_5 (by decide) hF (fun h2 hF => ?_) (fun h2 hF => ?_)
  · refine ww_iconst (pc := 26) X (v := 0) dX10_putsAside_26 (by decide) ?_
    refine ww_istore_n (pc := 27) X (lv' := [(0, .ref (G.2.1 0))]) dX10_putsAside_27 rfl (by decide) rfl hF (fun x3 ex3 hF => ?_)
    exact ww_sub [1, 0] rfl (lpc_ind (P := (fun (s : Int32 × gS) => WW M (gQv M G zM out) G zM 2 s.2 28 [(0, .ref (G.2.1 0)), (1, .int s.1)] [])) (fun rec s ih hF => wbX10_putsAside_28 X σ1 (fun a1 σ1 => rec (a1, σ1)) (fun a1 σ1 h => ih (a1, σ1) h) s.1 s.2 hF) K9 (x3, σ1) hF)
  · refine ww_aload_n (pc := 8) X (j := 0) dX10_putsAside_8 rfl rfl ?_
    refine ww_get (pc := 9) X (ref := "PictureBlockModel") (T := TX10) (j := 50) dX10_putsAside_9 inX10_putsAside_RX10 shzM_0 clzM_10 (by decide) rfl (List.mem_of_getElem? (i := 1) rfl) rfl ?_
    refine ww_iload_n (pc := 12) X (j := 1) dX10_putsAside_12 rfl rfl ?_
    refine ww_aload_n (pc := 13) X (j := 0) dX10_putsAside_13 rfl rfl ?_
    refine ww_get (pc := 14) X (ref := "PictureBlockModel") (T := TX10) (j := 38) dX10_putsAside_14 inX10_putsAside_RX10 shzM_0 clzM_10 (by decide) rfl (List.mem_of_getElem? (i := 2) rfl) rfl ?_
    refine ww_iload_n (pc := 17) X (j := 1) dX10_putsAside_17 rfl rfl ?_
    refine ww_iald (pc := 18) X dX10_putsAside_18 shzM_28 rfl hF (fun v9 ev9 bv9 hF => ?_)
    refine ww_iast (pc := 19) X dX10_putsAside_19 shzM_37 rfl hF (fun σ10 eσ10 bσ10 hF => ?_)
    refine ww_iinc (pc := 20) X (j := 1) (v := 1) (lv' := [(0, .ref (G.2.1 0))]) dX10_putsAside_20 rfl rfl (by decide) rfl hF (fun x11 ex11 hF => ?_)
    refine ww_goto (pc := 23) X (tgt := 2) dX10_putsAside_23 (by decide) ?_
    exact ww_sub [1, 0] rfl (ih2 x11 σ10 hF)
set_option maxRecDepth 100000 in
set_option maxHeartbeats 4000000 in
theorem wX10_putsAside {M : gM} {G : gG} {out : gS} (X : gX M G zM cX10_putsAside RX10 2 wsX10_putsAside rmX10_putsAside none) (σ : gS) (hF : fX10_putsAside σ = some out) : WW M (gQv M G zM out) G zM 2 σ 0 [(0, .ref (G.2.1 0))] [] := by
  unfold fX10_putsAside at hF
  refine ww_iconst (pc := 0) X (v := 0) dX10_putsAside_0 (by decide) ?_
  refine ww_istore_n (pc := 1) X (lv' := [(0, .ref (G.2.1 0))]) dX10_putsAside_1 rfl (by decide) rfl hF (fun x1 ex1 hF => ?_)
  exact ww_sub [1, 0] rfl (lpc_ind (P := (fun (s : Int32 × gS) => WW M (gQv M G zM out) G zM 2 s.2 2 [(0, .ref (G.2.1 0)), (1, .int s.1)] [])) (fun rec s ih hF => wbX10_putsAside_2 X σ (fun a1 σ1 => rec (a1, σ1)) (fun a1 σ1 h => ih (a1, σ1) h) s.1 s.2 hF) K9 (x1, σ) hF)
set_option maxRecDepth 100000 in
set_option maxHeartbeats 4000000 in
theorem kX10_putsAside (l : Launch) (G : gG) (hG : gOK G zM.1) (hT : G.2.2.1.map (fun q => q.2) = zM.2.1) (σ : gS) (out : gS) (hF : fX10_putsAside σ = some out) : gCv l yX10_putsAside wsX10_putsAside rmX10_putsAside G zM [.ref (G.2.1 0)] σ out :=
  gEnter (by decide) rfl ⟨rfl, rfl⟩ hG hT (Nat.le_of_ble_eq_true rfl) rfl (fun M X hl => wX10_putsAside X σ hF)
noncomputable def bX10_takesBack_28 (σ : gS) (rec28 : Int32 → gS → Option (gS)) (a1 : Int32) (σ1 : gS) : Option (gS) :=
  if 12 ≤ a1 then nm (gsI σ1 0 36 (σ1.1 0 52)) fun σ5 => some σ5 else gd (gb a1 12) <| nm (σ1.1 38 a1.toNatClampNeg) fun v6 => gd (gb a1 12) <| nm (gsI σ1 27 a1.toNatClampNeg v6) fun σ7 => nm (a1 + 1 : Int32) fun x8 => rec28 x8 σ7
noncomputable def bX10_takesBack_2 (σ : gS) (rec2 : Int32 → gS → Option (gS)) (a1 : Int32) (σ1 : gS) : Option (gS) :=
  if 76 ≤ a1 then nm (0 : Int32) fun x3 => lpc (S := Int32 × gS) K9 (fun rec s => bX10_takesBack_28 σ1 (fun a1 σ1 => rec (a1, σ1)) s.1 s.2) (x3, σ1) else gd (gb a1 76) <| nm (σ1.1 37 a1.toNatClampNeg) fun v9 => gd (gb a1 76) <| nm (gsI σ1 28 a1.toNatClampNeg v9) fun σ10 => nm (a1 + 1 : Int32) fun x11 => rec2 x11 σ10
noncomputable def fX10_takesBack (σ : gS) : Option (gS) :=
  nm (0 : Int32) fun x1 => lpc (S := Int32 × gS) K9 (fun rec s => bX10_takesBack_2 σ (fun a1 σ1 => rec (a1, σ1)) s.1 s.2) (x1, σ)
noncomputable abbrev rmX10_takesBack : Room := { frames := 0, cells := 0, slots := 0, locals := 0 }
set_option maxRecDepth 100000 in
set_option maxHeartbeats 4000000 in
theorem wbX10_takesBack_28 {M : gM} {G : gG} {out : gS} (X : gX M G zM cX10_takesBack RX10 2 wsX10_takesBack rmX10_takesBack none) (σ : gS) (rec28 : Int32 → gS → Option (gS)) (ih28 : ∀ (a1 : Int32) (σ1 : gS), rec28 a1 σ1 = some out → WW M (gQv M G zM out) G zM 2 σ1 28 [(0, .ref (G.2.1 0)), (1, .int a1)] []) (a1 : Int32) (σ1 : gS) (hF : bX10_takesBack_28 σ rec28 a1 σ1 = some out) : WW M (gQv M G zM out) G zM 2 σ1 28 [(0, .ref (G.2.1 0)), (1, .int a1)] [] := by
  unfold bX10_takesBack_28 at hF
  refine ww_iload_n (pc := 28) X (j := 1) dX10_takesBack_28 rfl rfl ?_
  refine ww_bipush (pc := 29) X (v := 12) dX10_takesBack_29 (by decide) ?_
  refine ww_icmp_ge (pc := 31) (tgt := 52) X dX10_takesBack_31 (by decide) hF (fun h4 hF => ?_) (fun h4 hF => ?_)
  · refine ww_aload_n (pc := 52) X (j := 0) dX10_takesBack_52 rfl rfl ?_
    refine ww_aload_n (pc := 53) X (j := 0) dX10_takesBack_53 rfl rfl ?_
    refine ww_get (pc := 54) X (ref := "PictureBlockModel") (T := TX10) (j := 52) dX10_takesBack_54 inX10_takesBack_RX10 shzM_0 clzM_10 (by decide) rfl (List.mem_of_getElem? (i := 5) rfl) rfl ?_
    refine ww_putI (pc := 57) X (ref := "PictureBlockModel") (T := TX10) (j := 36) dX10_takesBack_57 inX10_takesBack_RX10 tyX10 tyX10_ok nmX10 shzM_0 clzM_10 (by decide) rfl (List.mem_of_getElem? (i := 6) rfl) rfl rfl (by decide +kernel) hF (fun σ5 eσ5 hF => ?_)
    exact ww_vret (pc := 60) X dX10_takesBack_60 (by cases hF; rfl)
  · refine ww_aload_n (pc := 34) X (j := 0) dX10_takesBack_34 rfl rfl ?_
    refine ww_get (pc := 35) X (ref := "PictureBlockModel") (T := TX10) (j := 37) dX10_takesBack_35 inX10_takesBack_RX10 shzM_0 clzM_10 (by decide) rfl (List.mem_of_getElem? (i := 3) rfl) rfl ?_
    refine ww_iload_n (pc := 38) X (j := 1) dX10_takesBack_38 rfl rfl ?_
    refine ww_aload_n (pc := 39) X (j := 0) dX10_takesBack_39 rfl rfl ?_
    refine ww_get (pc := 40) X (ref := "PictureBlockModel") (T := TX10) (j := 51) dX10_takesBack_40 inX10_takesBack_RX10 shzM_0 clzM_10 (by decide) rfl (List.mem_of_getElem? (i := 4) rfl) rfl ?_
    refine ww_iload_n (pc := 43) X (j := 1) dX10_takesBack_43 rfl rfl ?_
    refine ww_iald (pc := 44) X dX10_takesBack_44 shzM_38 rfl hF (fun v6 ev6 bv6 hF => ?_)
    refine ww_iast (pc := 45) X dX10_takesBack_45 shzM_27 rfl hF (fun σ7 eσ7 bσ7 hF => ?_)
    refine ww_iinc (pc := 46) X (j := 1) (v := 1) (lv' := [(0, .ref (G.2.1 0))]) dX10_takesBack_46 rfl rfl (by decide) rfl hF (fun x8 ex8 hF => ?_)
    refine ww_goto (pc := 49) X (tgt := 28) dX10_takesBack_49 (by decide) ?_
    exact ww_sub [1, 0] rfl (ih28 x8 σ7 hF)
set_option maxRecDepth 100000 in
set_option maxHeartbeats 4000000 in
theorem wbX10_takesBack_2 {M : gM} {G : gG} {out : gS} (X : gX M G zM cX10_takesBack RX10 2 wsX10_takesBack rmX10_takesBack none) (σ : gS) (rec2 : Int32 → gS → Option (gS)) (ih2 : ∀ (a1 : Int32) (σ1 : gS), rec2 a1 σ1 = some out → WW M (gQv M G zM out) G zM 2 σ1 2 [(0, .ref (G.2.1 0)), (1, .int a1)] []) (a1 : Int32) (σ1 : gS) (hF : bX10_takesBack_2 σ rec2 a1 σ1 = some out) : WW M (gQv M G zM out) G zM 2 σ1 2 [(0, .ref (G.2.1 0)), (1, .int a1)] [] := by
  unfold bX10_takesBack_2 at hF
  refine ww_iload_n (pc := 2) X (j := 1) dX10_takesBack_2 rfl rfl ?_
  refine ww_bipush (pc := 3) X (v := 76) dX10_takesBack_3 (by decide) ?_
  refine ww_icmp_ge (pc := 5) (tgt := 26) X dX10_takesBack_5 (by decide) hF (fun h2 hF => ?_) (fun h2 hF => ?_)
  · refine ww_iconst (pc := 26) X (v := 0) dX10_takesBack_26 (by decide) ?_
    refine ww_istore_n (pc := 27) X (lv' := [(0, .ref (G.2.1 0))]) dX10_takesBack_27 rfl (by decide) rfl hF (fun x3 ex3 hF => ?_)
    exact ww_sub [1, 0] rfl (lpc_ind (P := (fun (s : Int32 × gS) => WW M (gQv M G zM out) G zM 2 s.2 28 [(0, .ref (G.2.1 0)), (1, .int s.1)] [])) (fun rec s ih hF => wbX10_takesBack_28 X σ1 (fun a1 σ1 => rec (a1, σ1)) (fun a1 σ1 h => ih (a1, σ1) h) s.1 s.2 hF) K9 (x3, σ1) hF)
  · refine ww_aload_n (pc := 8) X (j := 0) dX10_takesBack_8 rfl rfl ?_
    refine ww_get (pc := 9) X (ref := "PictureBlockModel") (T := TX10) (j := 38) dX10_takesBack_9 inX10_takesBack_RX10 shzM_0 clzM_10 (by decide) rfl (List.mem_of_getElem? (i := 1) rfl) rfl ?_
    refine ww_iload_n (pc := 12) X (j := 1) dX10_takesBack_12 rfl rfl ?_
    refine ww_aload_n (pc := 13) X (j := 0) dX10_takesBack_13 rfl rfl ?_
    refine ww_get (pc := 14) X (ref := "PictureBlockModel") (T := TX10) (j := 50) dX10_takesBack_14 inX10_takesBack_RX10 shzM_0 clzM_10 (by decide) rfl (List.mem_of_getElem? (i := 2) rfl) rfl ?_
    refine ww_iload_n (pc := 17) X (j := 1) dX10_takesBack_17 rfl rfl ?_
    refine ww_iald (pc := 18) X dX10_takesBack_18 shzM_37 rfl hF (fun v9 ev9 bv9 hF => ?_)
    refine ww_iast (pc := 19) X dX10_takesBack_19 shzM_28 rfl hF (fun σ10 eσ10 bσ10 hF => ?_)
    refine ww_iinc (pc := 20) X (j := 1) (v := 1) (lv' := [(0, .ref (G.2.1 0))]) dX10_takesBack_20 rfl rfl (by decide) rfl hF (fun x11 ex11 hF => ?_)
    refine ww_goto (pc := 23) X (tgt := 2) dX10_takesBack_23 (by decide) ?_
    exact ww_sub [1, 0] rfl (ih2 x11 σ10 hF)
set_option maxRecDepth 100000 in
set_option maxHeartbeats 4000000 in
theorem wX10_takesBack {M : gM} {G : gG} {out : gS} (X : gX M G zM cX10_takesBack RX10 2 wsX10_takesBack rmX10_takesBack none) (σ : gS) (hF : fX10_takesBack σ = some out) : WW M (gQv M G zM out) G zM 2 σ 0 [(0, .ref (G.2.1 0))] [] := by
  unfold fX10_takesBack at hF
  refine ww_iconst (pc := 0) X (v := 0) dX10_takesBack_0 (by decide) ?_
  refine ww_istore_n (pc := 1) X (lv' := [(0, .ref (G.2.1 0))]) dX10_takesBack_1 rfl (by decide) rfl hF (fun x1 ex1 hF => ?_)
  exact ww_sub [1, 0] rfl (lpc_ind (P := (fun (s : Int32 × gS) => WW M (gQv M G zM out) G zM 2 s.2 2 [(0, .ref (G.2.1 0)), (1, .int s.1)] [])) (fun rec s ih hF => wbX10_takesBack_2 X σ (fun a1 σ1 => rec (a1, σ1)) (fun a1 σ1 h => ih (a1, σ1) h) s.1 s.2 hF) K9 (x1, σ) hF)
set_option maxRecDepth 100000 in
set_option maxHeartbeats 4000000 in
theorem kX10_takesBack (l : Launch) (G : gG) (hG : gOK G zM.1) (hT : G.2.2.1.map (fun q => q.2) = zM.2.1) (σ : gS) (out : gS) (hF : fX10_takesBack σ = some out) : gCv l yX10_takesBack wsX10_takesBack rmX10_takesBack G zM [.ref (G.2.1 0)] σ out :=
  gEnter (by decide) rfl ⟨rfl, rfl⟩ hG hT (Nat.le_of_ble_eq_true rfl) rfl (fun M X hl => wX10_takesBack X σ hF)
noncomputable def fX10_placeBy (σ : gS) (p1 : Int32) (p2 : Int32) (p3 : Int32) : Option (Int32 × gS) :=
  bd (fX10_putsAside σ) fun σ2 => nm (gsI σ2 0 36 p1) fun σ3 => bd2 (fX10_starts σ3) fun r5 σ6 => nm (r5 : Int32) fun x7 => bd2 (fX10_rests σ6 200) fun r9 σ10 => nm (r9 : Int32) fun x11 => gd (gb ((38 * p3) + p2) 76) <| nm (σ10.1 28 ((38 * p3) + p2).toNatClampNeg) fun v12 => nm (v12 : Int32) fun x13 => bd (fX10_takesBack σ10) fun σ15 => some (x13, σ15)
noncomputable abbrev rmX10_placeBy : Room := { frames := 6, cells := 0, slots := 0, locals := 146 }
set_option maxRecDepth 100000 in
set_option maxHeartbeats 4000000 in
theorem wX10_placeBy {M : gM} {G : gG} {out : Int32 × gS} (X : gX M G zM cX10_placeBy RX10 7 wsX10_placeBy rmX10_placeBy (some .int)) (σ : gS) (p1 : Int32) (p2 : Int32) (p3 : Int32) (hF : fX10_placeBy σ p1 p2 p3 = some out) : WW M (gQi M G zM out.1 out.2) G zM 7 σ 0 [(0, .ref (G.2.1 0)), (1, .int p1), (2, .int p2), (3, .int p3)] [] := by
  unfold fX10_placeBy at hF
  refine ww_aload_n (pc := 0) X (j := 0) dX10_placeBy_0 rfl rfl ?_
  obtain ⟨σ2, h1, hF⟩ := bd_some hF
  refine ww_callVv (pc := 1) X (As := []) (rest := []) dX10_placeBy_1 (kX10_putsAside (mL M) G X.2.2.2.2.2.2.1 X.2.2.2.2.2.2.2.1 σ σ2 h1) rfl shzM_0 clzM_10 gX10_placeBy_X10_putsAside hyX10_putsAside ⟨rfl, rfl⟩ ⟨Nat.le_of_ble_eq_true rfl, Nat.le_of_ble_eq_true rfl⟩ rfl rfl (Nat.le_of_ble_eq_true rfl) ?_
  refine ww_aload_n (pc := 4) X (j := 0) dX10_placeBy_4 rfl rfl ?_
  refine ww_iload_n (pc := 5) X (j := 1) dX10_placeBy_5 rfl rfl ?_
  refine ww_putI (pc := 6) X (ref := "PictureBlockModel") (T := TX10) (j := 36) dX10_placeBy_6 inX10_placeBy_RX10 tyX10 tyX10_ok nmX10 shzM_0 clzM_10 (by decide) rfl (List.mem_of_getElem? (i := 1) rfl) rfl rfl (by decide +kernel) hF (fun σ3 eσ3 hF => ?_)
  refine ww_aload_n (pc := 9) X (j := 0) dX10_placeBy_9 rfl rfl ?_
  obtain ⟨r5, σ6, h4, hF⟩ := bd2_some hF
  refine ww_callVi (pc := 10) X (As := []) (rest := []) dX10_placeBy_10 (kX10_starts (mL M) G X.2.2.2.2.2.2.1 X.2.2.2.2.2.2.2.1 σ3 (r5, σ6) h4) rfl shzM_0 clzM_10 gX10_placeBy_X10_starts hyX10_starts ⟨rfl, rfl⟩ ⟨Nat.le_of_ble_eq_true rfl, Nat.le_of_ble_eq_true rfl⟩ rfl rfl (Nat.le_of_ble_eq_true rfl) ?_
  refine ww_istore (pc := 13) X (lv' := [(0, .ref (G.2.1 0)), (1, .int p1), (2, .int p2), (3, .int p3)]) dX10_placeBy_13 (by decide) rfl hF (fun x7 ex7 hF => ?_)
  refine ww_aload_n (pc := 15) X (j := 1) dX10_placeBy_15 rfl rfl ?_
  refine ww_sipush (pc := 16) X (v := 200) dX10_placeBy_16 (by decide) ?_
  obtain ⟨r9, σ10, h8, hF⟩ := bd2_some hF
  refine ww_callVi (pc := 19) X (As := [.int 200]) (rest := []) dX10_placeBy_19 (kX10_rests (mL M) G X.2.2.2.2.2.2.1 X.2.2.2.2.2.2.2.1 σ6 200 (r9, σ10) h8) rfl shzM_0 clzM_10 gX10_placeBy_X10_rests hyX10_rests ⟨rfl, rfl⟩ ⟨Nat.le_of_ble_eq_true rfl, Nat.le_of_ble_eq_true rfl⟩ rfl rfl (Nat.le_of_ble_eq_true rfl) ?_
  refine ww_istore (pc := 22) X (lv' := [(4, .int x7), (0, .ref (G.2.1 0)), (1, .int p1), (2, .int p2), (3, .int p3)]) dX10_placeBy_22 (by decide) rfl hF (fun x11 ex11 hF => ?_)
  refine ww_aload_n (pc := 24) X (j := 2) dX10_placeBy_24 rfl rfl ?_
  refine ww_get (pc := 25) X (ref := "PictureBlockModel") (T := TX10) (j := 38) dX10_placeBy_25 inX10_placeBy_RX10 shzM_0 clzM_10 (by decide) rfl (List.mem_of_getElem? (i := 2) rfl) rfl ?_
  refine ww_bipush (pc := 28) X (v := 38) dX10_placeBy_28 (by decide) ?_
  refine ww_iload_n (pc := 30) X (j := 5) dX10_placeBy_30 rfl rfl ?_
  refine ww_imul (pc := 31) X dX10_placeBy_31 ?_
  refine ww_iload_n (pc := 32) X (j := 4) dX10_placeBy_32 rfl rfl ?_
  refine ww_iadd (pc := 33) X dX10_placeBy_33 ?_
  refine ww_iald (pc := 34) X dX10_placeBy_34 shzM_28 rfl hF (fun v12 ev12 bv12 hF => ?_)
  refine ww_istore (pc := 35) X (lv' := [(5, .int x11), (4, .int x7), (0, .ref (G.2.1 0)), (1, .int p1), (2, .int p2), (3, .int p3)]) dX10_placeBy_35 (by decide) rfl hF (fun x13 ex13 hF => ?_)
  refine ww_aload_n (pc := 37) X (j := 3) dX10_placeBy_37 rfl rfl ?_
  obtain ⟨σ15, h14, hF⟩ := bd_some hF
  refine ww_callVv (pc := 38) X (As := []) (rest := []) dX10_placeBy_38 (kX10_takesBack (mL M) G X.2.2.2.2.2.2.1 X.2.2.2.2.2.2.2.1 σ10 σ15 h14) rfl shzM_0 clzM_10 gX10_placeBy_X10_takesBack hyX10_takesBack ⟨rfl, rfl⟩ ⟨Nat.le_of_ble_eq_true rfl, Nat.le_of_ble_eq_true rfl⟩ rfl rfl (Nat.le_of_ble_eq_true rfl) ?_
  refine ww_iload (pc := 41) X (j := 0) dX10_placeBy_41 rfl ?_
  exact ww_iret (pc := 43) X dX10_placeBy_43 (fst_of hF) (snd_of hF)
set_option maxRecDepth 100000 in
set_option maxHeartbeats 4000000 in
theorem kX10_placeBy (l : Launch) (G : gG) (hG : gOK G zM.1) (hT : G.2.2.1.map (fun q => q.2) = zM.2.1) (σ : gS) (p1 : Int32) (p2 : Int32) (p3 : Int32) (out : Int32 × gS) (hF : fX10_placeBy σ p1 p2 p3 = some out) : gCi l yX10_placeBy wsX10_placeBy rmX10_placeBy G zM [.ref (G.2.1 0), .int p1, .int p2, .int p3] σ out.1 out.2 :=
  gEnter (by decide) rfl ⟨rfl, rfl⟩ hG hT (Nat.le_of_ble_eq_true rfl) rfl (fun M X hl => wX10_placeBy X σ p1 p2 p3 hF)
noncomputable def fX10_differ (σ : gS) (p1 : Int32) (p2 : Int32) : Option (Int32 × gS) :=
  bd (fX10_isPicture σ p1) fun r2 => (if r2 = 0 then some ((-1000000000), σ) else bd (fX10_isIn σ p2.toInt64 0 1) fun r5 => (if r5 = 0 then some ((-1000000000), σ) else bd2 (fX10_placeBy σ 1 p1 p2) fun r8 σ9 => bd2 (fX10_placeBy σ9 2 p1 p2) fun r11 σ12 => some (r8 - r11, σ12)))
noncomputable abbrev rmX10_differ : Room := { frames := 7, cells := 0, slots := 0, locals := 172 }
set_option maxRecDepth 100000 in
set_option maxHeartbeats 4000000 in
theorem wX10_differ {M : gM} {G : gG} {out : Int32 × gS} (X : gX M G zM cX10_differ RX10 3 wsX10_differ rmX10_differ (some .int)) (σ : gS) (p1 : Int32) (p2 : Int32) (hF : fX10_differ σ p1 p2 = some out) : WW M (gQi M G zM out.1 out.2) G zM 3 σ 0 [(0, .ref (G.2.1 0)), (1, .int p1), (2, .int p2)] [] := by
  unfold fX10_differ at hF
  refine ww_aload_n (pc := 0) X (j := 0) dX10_differ_0 rfl rfl ?_
  refine ww_iload_n (pc := 1) X (j := 1) dX10_differ_1 rfl rfl ?_
  obtain ⟨r2, h1, hF⟩ := bd_some hF
  refine ww_callVi (pc := 2) X (As := [.int p1]) (rest := []) dX10_differ_2 (kX10_isPicture (mL M) G X.2.2.2.2.2.2.1 X.2.2.2.2.2.2.2.1 σ p1 r2 h1) rfl shzM_0 clzM_10 gX10_differ_X10_isPicture hyX10_isPicture ⟨rfl, rfl⟩ ⟨Nat.le_of_ble_eq_true rfl, Nat.le_of_ble_eq_true rfl⟩ rfl rfl (Nat.le_of_ble_eq_true rfl) ?_
  refine ww_if_eq (pc := 5) (tgt := 36) X dX10_differ_5 (by decide) hF (fun h3 hF => ?_) (fun h3 hF => ?_)
  · refine ww_ldcw (pc := 36) X (v := (-1000000000)) (List.mem_of_getElem? (i := 1) rfl) dX10_differ_36 ?_
    exact ww_iret (pc := 39) X dX10_differ_39 (fst_of hF) (snd_of hF)
  · refine ww_iload_n (pc := 8) X (j := 2) dX10_differ_8 rfl rfl ?_
    refine ww_i2l (pc := 9) X dX10_differ_9 ?_
    refine ww_lconst (pc := 10) X (v := 0) dX10_differ_10 (by decide) ?_
    refine ww_lconst (pc := 11) X (v := 1) dX10_differ_11 (by decide) ?_
    obtain ⟨r5, h4, hF⟩ := bd_some hF
    refine ww_callSi (pc := 12) X (As := [.long p2.toInt64, .long 0, .long 1]) (rest := []) dX10_differ_12 (kX10_isIn (mL M) G X.2.2.2.2.2.2.1 X.2.2.2.2.2.2.2.1 σ p2.toInt64 0 1 r5 h4) rfl gX10_differ_X10_isIn hyX10_isIn ⟨rfl, rfl⟩ ⟨Nat.le_of_ble_eq_true rfl, Nat.le_of_ble_eq_true rfl⟩ rfl rfl (Nat.le_of_ble_eq_true rfl) ?_
    refine ww_if_eq (pc := 15) (tgt := 36) X dX10_differ_15 (by decide) hF (fun h6 hF => ?_) (fun h6 hF => ?_)
    · refine ww_ldcw (pc := 36) X (v := (-1000000000)) (List.mem_of_getElem? (i := 1) rfl) dX10_differ_36 ?_
      exact ww_iret (pc := 39) X dX10_differ_39 (fst_of hF) (snd_of hF)
    · refine ww_aload_n (pc := 18) X (j := 0) dX10_differ_18 rfl rfl ?_
      refine ww_iconst (pc := 19) X (v := 1) dX10_differ_19 (by decide) ?_
      refine ww_iload_n (pc := 20) X (j := 1) dX10_differ_20 rfl rfl ?_
      refine ww_iload_n (pc := 21) X (j := 2) dX10_differ_21 rfl rfl ?_
      obtain ⟨r8, σ9, h7, hF⟩ := bd2_some hF
      refine ww_callVi (pc := 22) X (As := [.int 1, .int p1, .int p2]) (rest := []) dX10_differ_22 (kX10_placeBy (mL M) G X.2.2.2.2.2.2.1 X.2.2.2.2.2.2.2.1 σ 1 p1 p2 (r8, σ9) h7) rfl shzM_0 clzM_10 gX10_differ_X10_placeBy hyX10_placeBy ⟨rfl, rfl⟩ ⟨Nat.le_of_ble_eq_true rfl, Nat.le_of_ble_eq_true rfl⟩ rfl rfl (Nat.le_of_ble_eq_true rfl) ?_
      refine ww_aload_n (pc := 25) X (j := 0) dX10_differ_25 rfl rfl ?_
      refine ww_iconst (pc := 26) X (v := 2) dX10_differ_26 (by decide) ?_
      refine ww_iload_n (pc := 27) X (j := 1) dX10_differ_27 rfl rfl ?_
      refine ww_iload_n (pc := 28) X (j := 2) dX10_differ_28 rfl rfl ?_
      obtain ⟨r11, σ12, h10, hF⟩ := bd2_some hF
      refine ww_callVi (pc := 29) X (As := [.int 2, .int p1, .int p2]) (rest := [.int r8]) dX10_differ_29 (kX10_placeBy (mL M) G X.2.2.2.2.2.2.1 X.2.2.2.2.2.2.2.1 σ9 2 p1 p2 (r11, σ12) h10) rfl shzM_0 clzM_10 gX10_differ_X10_placeBy hyX10_placeBy ⟨rfl, rfl⟩ ⟨Nat.le_of_ble_eq_true rfl, Nat.le_of_ble_eq_true rfl⟩ rfl rfl (Nat.le_of_ble_eq_true rfl) ?_
      refine ww_isub (pc := 32) X dX10_differ_32 ?_
      refine ww_goto (pc := 33) X (tgt := 39) dX10_differ_33 (by decide) ?_
      exact ww_iret (pc := 39) X dX10_differ_39 (fst_of hF) (snd_of hF)
set_option maxRecDepth 100000 in
set_option maxHeartbeats 4000000 in
theorem kX10_differ (l : Launch) (G : gG) (hG : gOK G zM.1) (hT : G.2.2.1.map (fun q => q.2) = zM.2.1) (σ : gS) (p1 : Int32) (p2 : Int32) (out : Int32 × gS) (hF : fX10_differ σ p1 p2 = some out) : gCi l yX10_differ wsX10_differ rmX10_differ G zM [.ref (G.2.1 0), .int p1, .int p2] σ out.1 out.2 :=
  gEnter (by decide) rfl ⟨rfl, rfl⟩ hG hT (Nat.le_of_ble_eq_true rfl) rfl (fun M X hl => wX10_differ X σ p1 p2 hF)
noncomputable def fX10_canMeasure (σ : gS) (p1 : Int32) (p2 : Int32) (p3 : Int32) : Option (Int32) :=
  bd (fX10_isRow σ p1) fun r2 => (if r2 = 0 then some 0 else bd (fX10_isIn σ p2.toInt64 0 9999) fun r5 => (if r5 = 0 then some 0 else bd (fX10_isIn σ p3.toInt64 0 9999) fun r8 => (if r8 = 0 then some 0 else some 1)))
noncomputable abbrev rmX10_canMeasure : Room := { frames := 2, cells := 0, slots := 0, locals := 46 }
set_option maxRecDepth 100000 in
set_option maxHeartbeats 4000000 in
theorem wX10_canMeasure {M : gM} {G : gG} {out : Int32} (X : gX M G zM cX10_canMeasure RX10 4 wsX10_canMeasure rmX10_canMeasure (some .boolean)) (σ : gS) (p1 : Int32) (p2 : Int32) (p3 : Int32) (hF : fX10_canMeasure σ p1 p2 p3 = some out) : WW M (gQi M G zM out σ) G zM 4 σ 0 [(0, .ref (G.2.1 0)), (1, .int p1), (2, .int p2), (3, .int p3)] [] := by
  unfold fX10_canMeasure at hF
  refine ww_aload_n (pc := 0) X (j := 0) dX10_canMeasure_0 rfl rfl ?_
  refine ww_iload_n (pc := 1) X (j := 1) dX10_canMeasure_1 rfl rfl ?_
  obtain ⟨r2, h1, hF⟩ := bd_some hF
  refine ww_callVi (pc := 2) X (As := [.int p1]) (rest := []) dX10_canMeasure_2 (kX10_isRow (mL M) G X.2.2.2.2.2.2.1 X.2.2.2.2.2.2.2.1 σ p1 r2 h1) rfl shzM_0 clzM_10 gX10_canMeasure_X10_isRow hyX10_isRow ⟨rfl, rfl⟩ ⟨Nat.le_of_ble_eq_true rfl, Nat.le_of_ble_eq_true rfl⟩ rfl rfl (Nat.le_of_ble_eq_true rfl) ?_
  refine ww_if_eq (pc := 5) (tgt := 36) X dX10_canMeasure_5 (by decide) hF (fun h3 hF => ?_) (fun h3 hF => ?_)
  · refine ww_iconst (pc := 36) X (v := 0) dX10_canMeasure_36 (by decide) ?_
    exact ww_zret (pc := 37) X dX10_canMeasure_37 (by cases hF; rfl) rfl
  · refine ww_iload_n (pc := 8) X (j := 2) dX10_canMeasure_8 rfl rfl ?_
    refine ww_i2l (pc := 9) X dX10_canMeasure_9 ?_
    refine ww_lconst (pc := 10) X (v := 0) dX10_canMeasure_10 (by decide) ?_
    refine ww_ldc2 (pc := 11) X (v := 9999) (List.mem_of_getElem? (i := 1) rfl) dX10_canMeasure_11 ?_
    obtain ⟨r5, h4, hF⟩ := bd_some hF
    refine ww_callSi (pc := 14) X (As := [.long p2.toInt64, .long 0, .long 9999]) (rest := []) dX10_canMeasure_14 (kX10_isIn (mL M) G X.2.2.2.2.2.2.1 X.2.2.2.2.2.2.2.1 σ p2.toInt64 0 9999 r5 h4) rfl gX10_canMeasure_X10_isIn hyX10_isIn ⟨rfl, rfl⟩ ⟨Nat.le_of_ble_eq_true rfl, Nat.le_of_ble_eq_true rfl⟩ rfl rfl (Nat.le_of_ble_eq_true rfl) ?_
    refine ww_if_eq (pc := 17) (tgt := 36) X dX10_canMeasure_17 (by decide) hF (fun h6 hF => ?_) (fun h6 hF => ?_)
    · refine ww_iconst (pc := 36) X (v := 0) dX10_canMeasure_36 (by decide) ?_
      exact ww_zret (pc := 37) X dX10_canMeasure_37 (by cases hF; rfl) rfl
    · refine ww_iload_n (pc := 20) X (j := 3) dX10_canMeasure_20 rfl rfl ?_
      refine ww_i2l (pc := 21) X dX10_canMeasure_21 ?_
      refine ww_lconst (pc := 22) X (v := 0) dX10_canMeasure_22 (by decide) ?_
      refine ww_ldc2 (pc := 23) X (v := 9999) (List.mem_of_getElem? (i := 1) rfl) dX10_canMeasure_23 ?_
      obtain ⟨r8, h7, hF⟩ := bd_some hF
      refine ww_callSi (pc := 26) X (As := [.long p3.toInt64, .long 0, .long 9999]) (rest := []) dX10_canMeasure_26 (kX10_isIn (mL M) G X.2.2.2.2.2.2.1 X.2.2.2.2.2.2.2.1 σ p3.toInt64 0 9999 r8 h7) rfl gX10_canMeasure_X10_isIn hyX10_isIn ⟨rfl, rfl⟩ ⟨Nat.le_of_ble_eq_true rfl, Nat.le_of_ble_eq_true rfl⟩ rfl rfl (Nat.le_of_ble_eq_true rfl) ?_
      refine ww_if_eq (pc := 29) (tgt := 36) X dX10_canMeasure_29 (by decide) hF (fun h9 hF => ?_) (fun h9 hF => ?_)
      · refine ww_iconst (pc := 36) X (v := 0) dX10_canMeasure_36 (by decide) ?_
        exact ww_zret (pc := 37) X dX10_canMeasure_37 (by cases hF; rfl) rfl
      · refine ww_iconst (pc := 32) X (v := 1) dX10_canMeasure_32 (by decide) ?_
        refine ww_goto (pc := 33) X (tgt := 37) dX10_canMeasure_33 (by decide) ?_
        exact ww_zret (pc := 37) X dX10_canMeasure_37 (by cases hF; rfl) rfl
set_option maxRecDepth 100000 in
set_option maxHeartbeats 4000000 in
theorem kX10_canMeasure (l : Launch) (G : gG) (hG : gOK G zM.1) (hT : G.2.2.1.map (fun q => q.2) = zM.2.1) (σ : gS) (p1 : Int32) (p2 : Int32) (p3 : Int32) (out : Int32) (hF : fX10_canMeasure σ p1 p2 p3 = some out) : gCi l yX10_canMeasure wsX10_canMeasure rmX10_canMeasure G zM [.ref (G.2.1 0), .int p1, .int p2, .int p3] σ out σ :=
  gEnter (by decide) rfl ⟨rfl, rfl⟩ hG hT (Nat.le_of_ble_eq_true rfl) rfl (fun M X hl => wX10_canMeasure X σ p1 p2 p3 hF)
noncomputable def fX10_measures (σ : gS) (p1 : Int32) (p2 : Int32) (p3 : Int32) : Option (gS) :=
  gd (gb (120 + (2 * p1)) 240) <| nm (gsI σ 24 (120 + (2 * p1)).toNatClampNeg p2) fun σ1 => gd (gb ((120 + (2 * p1)) + 1) 240) <| nm (gsI σ1 24 ((120 + (2 * p1)) + 1).toNatClampNeg p3) fun σ2 => some σ2
noncomputable abbrev rmX10_measures : Room := { frames := 0, cells := 0, slots := 0, locals := 0 }
set_option maxRecDepth 100000 in
set_option maxHeartbeats 4000000 in
theorem wX10_measures {M : gM} {G : gG} {out : gS} (X : gX M G zM cX10_measures RX10 4 wsX10_measures rmX10_measures none) (σ : gS) (p1 : Int32) (p2 : Int32) (p3 : Int32) (hF : fX10_measures σ p1 p2 p3 = some out) : WW M (gQv M G zM out) G zM 4 σ 0 [(0, .ref (G.2.1 0)), (1, .int p1), (2, .int p2), (3, .int p3)] [] := by
  unfold fX10_measures at hF
  refine ww_aload_n (pc := 0) X (j := 0) dX10_measures_0 rfl rfl ?_
  refine ww_get (pc := 1) X (ref := "PictureBlockModel") (T := TX10) (j := 32) dX10_measures_1 inX10_measures_RX10 shzM_0 clzM_10 (by decide) rfl (List.mem_of_getElem? (i := 1) rfl) rfl ?_
  refine ww_bipush (pc := 4) X (v := 120) dX10_measures_4 (by decide) ?_
  refine ww_iconst (pc := 6) X (v := 2) dX10_measures_6 (by decide) ?_
  refine ww_iload_n (pc := 7) X (j := 1) dX10_measures_7 rfl rfl ?_
  refine ww_imul (pc := 8) X dX10_measures_8 ?_
  refine ww_iadd (pc := 9) X dX10_measures_9 ?_
  refine ww_iload_n (pc := 10) X (j := 2) dX10_measures_10 rfl rfl ?_
  refine ww_iast (pc := 11) X dX10_measures_11 shzM_24 rfl hF (fun σ1 eσ1 bσ1 hF => ?_)
  refine ww_aload_n (pc := 12) X (j := 0) dX10_measures_12 rfl rfl ?_
  refine ww_get (pc := 13) X (ref := "PictureBlockModel") (T := TX10) (j := 32) dX10_measures_13 inX10_measures_RX10 shzM_0 clzM_10 (by decide) rfl (List.mem_of_getElem? (i := 1) rfl) rfl ?_
  refine ww_bipush (pc := 16) X (v := 120) dX10_measures_16 (by decide) ?_
  refine ww_iconst (pc := 18) X (v := 2) dX10_measures_18 (by decide) ?_
  refine ww_iload_n (pc := 19) X (j := 1) dX10_measures_19 rfl rfl ?_
  refine ww_imul (pc := 20) X dX10_measures_20 ?_
  refine ww_iadd (pc := 21) X dX10_measures_21 ?_
  refine ww_iconst (pc := 22) X (v := 1) dX10_measures_22 (by decide) ?_
  refine ww_iadd (pc := 23) X dX10_measures_23 ?_
  refine ww_iload_n (pc := 24) X (j := 3) dX10_measures_24 rfl rfl ?_
  refine ww_iast (pc := 25) X dX10_measures_25 shzM_24 rfl hF (fun σ2 eσ2 bσ2 hF => ?_)
  exact ww_vret (pc := 26) X dX10_measures_26 (by cases hF; rfl)
set_option maxRecDepth 100000 in
set_option maxHeartbeats 4000000 in
theorem kX10_measures (l : Launch) (G : gG) (hG : gOK G zM.1) (hT : G.2.2.1.map (fun q => q.2) = zM.2.1) (σ : gS) (p1 : Int32) (p2 : Int32) (p3 : Int32) (out : gS) (hF : fX10_measures σ p1 p2 p3 = some out) : gCv l yX10_measures wsX10_measures rmX10_measures G zM [.ref (G.2.1 0), .int p1, .int p2, .int p3] σ out :=
  gEnter (by decide) rfl ⟨rfl, rfl⟩ hG hT (Nat.le_of_ble_eq_true rfl) rfl (fun M X hl => wX10_measures X σ p1 p2 p3 hF)
noncomputable def bX10_alters_143 (σ : gS) (c143_1 : Int32) (c143_4 : Int32) (c143_5 : Int32) (c143_6 : Int32) (rec143 : Int32 → Int32 → Option (Int32 × gS)) (a8 : Int32) (a9 : Int32) : Option (Int32 × gS) :=
  bd (fX10_pictures σ) fun r30 => (if r30 ≤ a9 then bd (fX10_measures σ c143_1 c143_5 c143_6) fun σ33 => bd (fX10_takesBack σ33) fun σ35 => some (a8, σ35) else gd (gb a9 76) <| nm (σ.1 28 a9.toNatClampNeg) fun v36 => gd (gb a9 24) <| nm (σ.1 39 a9.toNatClampNeg) fun v37 => bd (fX10_apart σ v36.toInt64 v37.toInt64) fun r39 => (if c143_4.toInt64 < r39 then nm (a8 + 1 : Int32) fun x41 => nm (a9 + 1 : Int32) fun x42 => rec143 x41 x42 else gd (gb (38 + a9) 76) <| nm (σ.1 28 (38 + a9).toNatClampNeg) fun v43 => gd (gb (12 + a9) 24) <| nm (σ.1 39 (12 + a9).toNatClampNeg) fun v44 => bd (fX10_apart σ v43.toInt64 v44.toInt64) fun r46 => (if r46 ≤ c143_4.toInt64 then nm (a9 + 1 : Int32) fun x48 => rec143 a8 x48 else nm (a8 + 1 : Int32) fun x49 => nm (a9 + 1 : Int32) fun x50 => rec143 x49 x50)))
noncomputable def bX10_alters_73 (σ : gS) (c61_1 : Int32) (c61_2 : Int32) (c61_3 : Int32) (c61_4 : Int32) (c61_5 : Int32) (c61_6 : Int32) (c73_8 : Int32) (rec61 : Int32 → gS → Option (Int32 × gS)) (rec73 : Int32 → gS → Option (Int32 × gS)) (a9 : Int32) (σ1 : gS) : Option (Int32 × gS) :=
  if 2 ≤ a9 then nm (c73_8 + 1 : Int32) fun x53 => rec61 x53 σ1 else gd (gb ((38 * a9) + c73_8) 76) <| nm (σ1.1 28 ((38 * a9) + c73_8).toNatClampNeg) fun v54 => gd (gb ((12 * a9) + c73_8) 24) <| nm (gsI σ1 39 ((12 * a9) + c73_8).toNatClampNeg v54) fun σ55 => nm (a9 + 1 : Int32) fun x56 => rec73 x56 σ55
noncomputable def bX10_alters_61 (σ : gS) (c61_1 : Int32) (c61_2 : Int32) (c61_3 : Int32) (c61_4 : Int32) (c61_5 : Int32) (c61_6 : Int32) (rec61 : Int32 → gS → Option (Int32 × gS)) (a8 : Int32) (σ1 : gS) : Option (Int32 × gS) :=
  bd (fX10_pictures σ1) fun r17 => (if r17 ≤ a8 then bd (fX10_takesBack σ1) fun σ20 => bd (fX10_measures σ20 c61_1 c61_2 c61_3) fun σ22 => bd2 (fX10_rests σ22 200) fun r24 σ25 => nm (r24 : Int32) fun x26 => nm (0 : Int32) fun x27 => nm (0 : Int32) fun x28 => lpc (S := Int32 × Int32) K9 (fun rec s => bX10_alters_143 σ25 c61_1 c61_4 c61_5 c61_6 (fun a8 a9 => rec (a8, a9)) s.1 s.2) (x27, x28) else nm (0 : Int32) fun x51 => lpc (S := Int32 × gS) K9 (fun rec s => bX10_alters_73 σ1 c61_1 c61_2 c61_3 c61_4 c61_5 c61_6 a8 rec61 (fun a9 σ1 => rec (a9, σ1)) s.1 s.2) (x51, σ1))
noncomputable def fX10_alters (σ : gS) (p1 : Int32) (p2 : Int32) (p3 : Int32) (p4 : Int32) : Option (Int32 × gS) :=
  bd (fX10_canMeasure σ p1 p2 p3) fun r2 => (if r2 = 0 then some ((-1), σ) else if 0 ≤ p4 then gd (gb (120 + (2 * p1)) 240) <| nm (σ.1 24 (120 + (2 * p1)).toNatClampNeg) fun v5 => nm (v5 : Int32) fun x6 => gd (gb ((120 + (2 * p1)) + 1) 240) <| nm (σ.1 24 ((120 + (2 * p1)) + 1).toNatClampNeg) fun v7 => nm (v7 : Int32) fun x8 => bd (fX10_putsAside σ) fun σ10 => bd2 (fX10_rests σ10 200) fun r12 σ13 => nm (r12 : Int32) fun x14 => nm (0 : Int32) fun x15 => lpc (S := Int32 × gS) K9 (fun rec s => bX10_alters_61 σ13 p1 p2 p3 p4 x6 x8 (fun a8 σ1 => rec (a8, σ1)) s.1 s.2) (x15, σ13) else some ((-1), σ))
noncomputable abbrev rmX10_alters : Room := { frames := 6, cells := 0, slots := 0, locals := 138 }
set_option maxRecDepth 100000 in
set_option maxHeartbeats 4000000 in
theorem wbX10_alters_143 {M : gM} {G : gG} {out : Int32 × gS} (X : gX M G zM cX10_alters RX10 10 wsX10_alters rmX10_alters (some .int)) (σ : gS) (c143_1 : Int32) (c143_4 : Int32) (c143_5 : Int32) (c143_6 : Int32) (rec143 : Int32 → Int32 → Option (Int32 × gS)) (ih143 : ∀ (a8 : Int32) (a9 : Int32), rec143 a8 a9 = some out → WW M (gQi M G zM out.1 out.2) G zM 10 σ 143 [(0, .ref (G.2.1 0)), (1, .int c143_1), (4, .int c143_4), (5, .int c143_5), (6, .int c143_6), (8, .int a8), (9, .int a9)] []) (a8 : Int32) (a9 : Int32) (hF : bX10_alters_143 σ c143_1 c143_4 c143_5 c143_6 rec143 a8 a9 = some out) : WW M (gQi M G zM out.1 out.2) G zM 10 σ 143 [(0, .ref (G.2.1 0)), (1, .int c143_1), (4, .int c143_4), (5, .int c143_5), (6, .int c143_6), (8, .int a8), (9, .int a9)] [] := by
  unfold bX10_alters_143 at hF
  refine ww_iload (pc := 143) X (j := 6) dX10_alters_143 rfl ?_
  refine ww_aload_n (pc := 145) X (j := 0) dX10_alters_145 rfl rfl ?_
  obtain ⟨r30, h29, hF⟩ := bd_some hF
  refine ww_callVi (pc := 146) X (As := []) (rest := [.int a9]) dX10_alters_146 (kX10_pictures (mL M) G X.2.2.2.2.2.2.1 X.2.2.2.2.2.2.2.1 σ r30 h29) rfl shzM_0 clzM_10 gX10_alters_X10_pictures hyX10_pictures ⟨rfl, rfl⟩ ⟨Nat.le_of_ble_eq_true rfl, Nat.le_of_ble_eq_true rfl⟩ rfl rfl (Nat.le_of_ble_eq_true rfl) ?_
  refine ww_icmp_ge (pc := 149) (tgt := 219) X dX10_alters_149 (by decide) hF (fun h31 hF => ?_) (fun h31 hF => ?_)
  · refine ww_aload_n (pc := 219) X (j := 0) dX10_alters_219 rfl rfl ?_
    refine ww_iload_n (pc := 220) X (j := 1) dX10_alters_220 rfl rfl ?_
    refine ww_iload (pc := 221) X (j := 3) dX10_alters_221 rfl ?_
    refine ww_iload (pc := 223) X (j := 4) dX10_alters_223 rfl ?_
    obtain ⟨σ33, h32, hF⟩ := bd_some hF
    refine ww_callVv (pc := 225) X (As := [.int c143_1, .int c143_5, .int c143_6]) (rest := []) dX10_alters_225 (kX10_measures (mL M) G X.2.2.2.2.2.2.1 X.2.2.2.2.2.2.2.1 σ c143_1 c143_5 c143_6 σ33 h32) rfl shzM_0 clzM_10 gX10_alters_X10_measures hyX10_measures ⟨rfl, rfl⟩ ⟨Nat.le_of_ble_eq_true rfl, Nat.le_of_ble_eq_true rfl⟩ rfl rfl (Nat.le_of_ble_eq_true rfl) ?_
    refine ww_aload_n (pc := 228) X (j := 0) dX10_alters_228 rfl rfl ?_
    obtain ⟨σ35, h34, hF⟩ := bd_some hF
    refine ww_callVv (pc := 229) X (As := []) (rest := []) dX10_alters_229 (kX10_takesBack (mL M) G X.2.2.2.2.2.2.1 X.2.2.2.2.2.2.2.1 σ33 σ35 h34) rfl shzM_0 clzM_10 gX10_alters_X10_takesBack hyX10_takesBack ⟨rfl, rfl⟩ ⟨Nat.le_of_ble_eq_true rfl, Nat.le_of_ble_eq_true rfl⟩ rfl rfl (Nat.le_of_ble_eq_true rfl) ?_
    refine ww_iload (pc := 232) X (j := 5) dX10_alters_232 rfl ?_
    exact ww_iret (pc := 234) X dX10_alters_234 (fst_of hF) (snd_of hF)
  · refine ww_aload_n (pc := 152) X (j := 0) dX10_alters_152 rfl rfl ?_
    refine ww_get (pc := 153) X (ref := "PictureBlockModel") (T := TX10) (j := 38) dX10_alters_153 inX10_alters_RX10 shzM_0 clzM_10 (by decide) rfl (List.mem_of_getElem? (i := 3) rfl) rfl ?_
    refine ww_iload (pc := 156) X (j := 6) dX10_alters_156 rfl ?_
    refine ww_iald (pc := 158) X dX10_alters_158 shzM_28 rfl hF (fun v36 ev36 bv36 hF => ?_)
    refine ww_i2l (pc := 159) X dX10_alters_159 ?_
    refine ww_aload_n (pc := 160) X (j := 0) dX10_alters_160 rfl rfl ?_
    refine ww_get (pc := 161) X (ref := "PictureBlockModel") (T := TX10) (j := 53) dX10_alters_161 inX10_alters_RX10 shzM_0 clzM_10 (by decide) rfl (List.mem_of_getElem? (i := 2) rfl) rfl ?_
    refine ww_iload (pc := 164) X (j := 6) dX10_alters_164 rfl ?_
    refine ww_iald (pc := 166) X dX10_alters_166 shzM_39 rfl hF (fun v37 ev37 bv37 hF => ?_)
    refine ww_i2l (pc := 167) X dX10_alters_167 ?_
    obtain ⟨r39, h38, hF⟩ := bd_some hF
    refine ww_callSl (pc := 168) X (As := [.long v36.toInt64, .long v37.toInt64]) (rest := []) dX10_alters_168 (kX10_apart (mL M) G X.2.2.2.2.2.2.1 X.2.2.2.2.2.2.2.1 σ v36.toInt64 v37.toInt64 r39 h38) rfl gX10_alters_X10_apart hyX10_apart ⟨rfl, rfl⟩ ⟨Nat.le_of_ble_eq_true rfl, Nat.le_of_ble_eq_true rfl⟩ rfl rfl (Nat.le_of_ble_eq_true rfl) ?_
    refine ww_iload (pc := 171) X (j := 2) dX10_alters_171 rfl ?_
    refine ww_i2l (pc := 173) X dX10_alters_173 ?_
    refine ww_lcmp_gt (pc := 174) (tgt := 210) X dX10_alters_174 dX10_alters_175 (by decide) hF (fun h40 hF => ?_) (fun h40 hF => ?_)
    · refine ww_iinc (pc := 210) X (j := 5) (v := 1) (lv' := [(0, .ref (G.2.1 0)), (1, .int c143_1), (4, .int c143_4), (5, .int c143_5), (6, .int c143_6), (9, .int a9)]) dX10_alters_210 rfl rfl (by decide) rfl hF (fun x41 ex41 hF => ?_)
      refine ww_iinc (pc := 213) X (j := 6) (v := 1) (lv' := [(8, .int x41), (0, .ref (G.2.1 0)), (1, .int c143_1), (4, .int c143_4), (5, .int c143_5), (6, .int c143_6)]) dX10_alters_213 rfl rfl (by decide) rfl hF (fun x42 ex42 hF => ?_)
      refine ww_goto (pc := 216) X (tgt := 143) dX10_alters_216 (by decide) ?_
      exact ww_sub [2, 3, 4, 5, 6, 1, 0] rfl (ih143 x41 x42 hF)
    · refine ww_aload_n (pc := 178) X (j := 0) dX10_alters_178 rfl rfl ?_
      refine ww_get (pc := 179) X (ref := "PictureBlockModel") (T := TX10) (j := 38) dX10_alters_179 inX10_alters_RX10 shzM_0 clzM_10 (by decide) rfl (List.mem_of_getElem? (i := 3) rfl) rfl ?_
      refine ww_bipush (pc := 182) X (v := 38) dX10_alters_182 (by decide) ?_
      refine ww_iload (pc := 184) X (j := 6) dX10_alters_184 rfl ?_
      refine ww_iadd (pc := 186) X dX10_alters_186 ?_
      refine ww_iald (pc := 187) X dX10_alters_187 shzM_28 rfl hF (fun v43 ev43 bv43 hF => ?_)
      refine ww_i2l (pc := 188) X dX10_alters_188 ?_
      refine ww_aload_n (pc := 189) X (j := 0) dX10_alters_189 rfl rfl ?_
      refine ww_get (pc := 190) X (ref := "PictureBlockModel") (T := TX10) (j := 53) dX10_alters_190 inX10_alters_RX10 shzM_0 clzM_10 (by decide) rfl (List.mem_of_getElem? (i := 2) rfl) rfl ?_
      refine ww_bipush (pc := 193) X (v := 12) dX10_alters_193 (by decide) ?_
      refine ww_iload (pc := 195) X (j := 6) dX10_alters_195 rfl ?_
      refine ww_iadd (pc := 197) X dX10_alters_197 ?_
      refine ww_iald (pc := 198) X dX10_alters_198 shzM_39 rfl hF (fun v44 ev44 bv44 hF => ?_)
      refine ww_i2l (pc := 199) X dX10_alters_199 ?_
      obtain ⟨r46, h45, hF⟩ := bd_some hF
      refine ww_callSl (pc := 200) X (As := [.long v43.toInt64, .long v44.toInt64]) (rest := []) dX10_alters_200 (kX10_apart (mL M) G X.2.2.2.2.2.2.1 X.2.2.2.2.2.2.2.1 σ v43.toInt64 v44.toInt64 r46 h45) rfl gX10_alters_X10_apart hyX10_apart ⟨rfl, rfl⟩ ⟨Nat.le_of_ble_eq_true rfl, Nat.le_of_ble_eq_true rfl⟩ rfl rfl (Nat.le_of_ble_eq_true rfl) ?_
      refine ww_iload (pc := 203) X (j := 2) dX10_alters_203 rfl ?_
      refine ww_i2l (pc := 205) X dX10_alters_205 ?_
      refine ww_lcmp_le (pc := 206) (tgt := 213) X dX10_alters_206 dX10_alters_207 (by decide) hF (fun h47 hF => ?_) (fun h47 hF => ?_)
      · refine ww_iinc (pc := 213) X (j := 6) (v := 1) (lv' := [(0, .ref (G.2.1 0)), (1, .int c143_1), (4, .int c143_4), (5, .int c143_5), (6, .int c143_6), (8, .int a8)]) dX10_alters_213 rfl rfl (by decide) rfl hF (fun x48 ex48 hF => ?_)
        refine ww_goto (pc := 216) X (tgt := 143) dX10_alters_216 (by decide) ?_
        exact ww_sub [1, 2, 3, 4, 5, 6, 0] rfl (ih143 a8 x48 hF)
      · refine ww_iinc (pc := 210) X (j := 5) (v := 1) (lv' := [(0, .ref (G.2.1 0)), (1, .int c143_1), (4, .int c143_4), (5, .int c143_5), (6, .int c143_6), (9, .int a9)]) dX10_alters_210 rfl rfl (by decide) rfl hF (fun x49 ex49 hF => ?_)
        refine ww_iinc (pc := 213) X (j := 6) (v := 1) (lv' := [(8, .int x49), (0, .ref (G.2.1 0)), (1, .int c143_1), (4, .int c143_4), (5, .int c143_5), (6, .int c143_6)]) dX10_alters_213 rfl rfl (by decide) rfl hF (fun x50 ex50 hF => ?_)
        refine ww_goto (pc := 216) X (tgt := 143) dX10_alters_216 (by decide) ?_
        exact ww_sub [2, 3, 4, 5, 6, 1, 0] rfl (ih143 x49 x50 hF)
set_option maxRecDepth 100000 in
set_option maxHeartbeats 4000000 in
theorem wbX10_alters_73 {M : gM} {G : gG} {out : Int32 × gS} (X : gX M G zM cX10_alters RX10 10 wsX10_alters rmX10_alters (some .int)) (σ : gS) (c61_1 : Int32) (c61_2 : Int32) (c61_3 : Int32) (c61_4 : Int32) (c61_5 : Int32) (c61_6 : Int32) (c73_8 : Int32) (rec61 : Int32 → gS → Option (Int32 × gS)) (ih61 : ∀ (a8 : Int32) (σ1 : gS), rec61 a8 σ1 = some out → WW M (gQi M G zM out.1 out.2) G zM 10 σ1 61 [(0, .ref (G.2.1 0)), (1, .int c61_1), (2, .int c61_2), (3, .int c61_3), (4, .int c61_4), (5, .int c61_5), (6, .int c61_6), (8, .int a8)] []) (rec73 : Int32 → gS → Option (Int32 × gS)) (ih73 : ∀ (a9 : Int32) (σ1 : gS), rec73 a9 σ1 = some out → WW M (gQi M G zM out.1 out.2) G zM 10 σ1 73 [(0, .ref (G.2.1 0)), (1, .int c61_1), (2, .int c61_2), (3, .int c61_3), (4, .int c61_4), (5, .int c61_5), (6, .int c61_6), (8, .int c73_8), (9, .int a9)] []) (a9 : Int32) (σ1 : gS) (hF : bX10_alters_73 σ c61_1 c61_2 c61_3 c61_4 c61_5 c61_6 c73_8 rec61 rec73 a9 σ1 = some out) : WW M (gQi M G zM out.1 out.2) G zM 10 σ1 73 [(0, .ref (G.2.1 0)), (1, .int c61_1), (2, .int c61_2), (3, .int c61_3), (4, .int c61_4), (5, .int c61_5), (6, .int c61_6), (8, .int c73_8), (9, .int a9)] [] := by
  unfold bX10_alters_73 at hF
  refine ww_iload (pc := 73) X (j := 8) dX10_alters_73 rfl ?_
  refine ww_iconst (pc := 75) X (v := 2) dX10_alters_75 (by decide) ?_
  refine ww_icmp_ge (pc := 76) (tgt := 111) X dX10_alters_76 (by decide) hF (fun h52 hF => ?_) (fun h52 hF => ?_)
  · refine ww_iinc (pc := 111) X (j := 7) (v := 1) (lv' := [(0, .ref (G.2.1 0)), (1, .int c61_1), (2, .int c61_2), (3, .int c61_3), (4, .int c61_4), (5, .int c61_5), (6, .int c61_6), (9, .int a9)]) dX10_alters_111 rfl rfl (by decide) rfl hF (fun x53 ex53 hF => ?_)
    refine ww_goto (pc := 114) X (tgt := 61) dX10_alters_114 (by decide) ?_
    exact ww_sub [1, 2, 3, 4, 5, 6, 7, 0] rfl (ih61 x53 σ1 hF)
  · refine ww_aload_n (pc := 79) X (j := 0) dX10_alters_79 rfl rfl ?_
    refine ww_get (pc := 80) X (ref := "PictureBlockModel") (T := TX10) (j := 53) dX10_alters_80 inX10_alters_RX10 shzM_0 clzM_10 (by decide) rfl (List.mem_of_getElem? (i := 2) rfl) rfl ?_
    refine ww_bipush (pc := 83) X (v := 12) dX10_alters_83 (by decide) ?_
    refine ww_iload (pc := 85) X (j := 8) dX10_alters_85 rfl ?_
    refine ww_imul (pc := 87) X dX10_alters_87 ?_
    refine ww_iload (pc := 88) X (j := 7) dX10_alters_88 rfl ?_
    refine ww_iadd (pc := 90) X dX10_alters_90 ?_
    refine ww_aload_n (pc := 91) X (j := 0) dX10_alters_91 rfl rfl ?_
    refine ww_get (pc := 92) X (ref := "PictureBlockModel") (T := TX10) (j := 38) dX10_alters_92 inX10_alters_RX10 shzM_0 clzM_10 (by decide) rfl (List.mem_of_getElem? (i := 3) rfl) rfl ?_
    refine ww_bipush (pc := 95) X (v := 38) dX10_alters_95 (by decide) ?_
    refine ww_iload (pc := 97) X (j := 8) dX10_alters_97 rfl ?_
    refine ww_imul (pc := 99) X dX10_alters_99 ?_
    refine ww_iload (pc := 100) X (j := 7) dX10_alters_100 rfl ?_
    refine ww_iadd (pc := 102) X dX10_alters_102 ?_
    refine ww_iald (pc := 103) X dX10_alters_103 shzM_28 rfl hF (fun v54 ev54 bv54 hF => ?_)
    refine ww_iast (pc := 104) X dX10_alters_104 shzM_39 rfl hF (fun σ55 eσ55 bσ55 hF => ?_)
    refine ww_iinc (pc := 105) X (j := 8) (v := 1) (lv' := [(0, .ref (G.2.1 0)), (1, .int c61_1), (2, .int c61_2), (3, .int c61_3), (4, .int c61_4), (5, .int c61_5), (6, .int c61_6), (8, .int c73_8)]) dX10_alters_105 rfl rfl (by decide) rfl hF (fun x56 ex56 hF => ?_)
    refine ww_goto (pc := 108) X (tgt := 73) dX10_alters_108 (by decide) ?_
    exact ww_sub [1, 2, 3, 4, 5, 6, 7, 8, 0] rfl (ih73 x56 σ55 hF)
set_option maxRecDepth 100000 in
set_option maxHeartbeats 4000000 in
theorem wbX10_alters_61 {M : gM} {G : gG} {out : Int32 × gS} (X : gX M G zM cX10_alters RX10 10 wsX10_alters rmX10_alters (some .int)) (σ : gS) (c61_1 : Int32) (c61_2 : Int32) (c61_3 : Int32) (c61_4 : Int32) (c61_5 : Int32) (c61_6 : Int32) (rec61 : Int32 → gS → Option (Int32 × gS)) (ih61 : ∀ (a8 : Int32) (σ1 : gS), rec61 a8 σ1 = some out → WW M (gQi M G zM out.1 out.2) G zM 10 σ1 61 [(0, .ref (G.2.1 0)), (1, .int c61_1), (2, .int c61_2), (3, .int c61_3), (4, .int c61_4), (5, .int c61_5), (6, .int c61_6), (8, .int a8)] []) (a8 : Int32) (σ1 : gS) (hF : bX10_alters_61 σ c61_1 c61_2 c61_3 c61_4 c61_5 c61_6 rec61 a8 σ1 = some out) : WW M (gQi M G zM out.1 out.2) G zM 10 σ1 61 [(0, .ref (G.2.1 0)), (1, .int c61_1), (2, .int c61_2), (3, .int c61_3), (4, .int c61_4), (5, .int c61_5), (6, .int c61_6), (8, .int a8)] [] := by
  unfold bX10_alters_61 at hF
  refine ww_iload (pc := 61) X (j := 7) dX10_alters_61 rfl ?_
  refine ww_aload_n (pc := 63) X (j := 0) dX10_alters_63 rfl rfl ?_
  obtain ⟨r17, h16, hF⟩ := bd_some hF
  refine ww_callVi (pc := 64) X (As := []) (rest := [.int a8]) dX10_alters_64 (kX10_pictures (mL M) G X.2.2.2.2.2.2.1 X.2.2.2.2.2.2.2.1 σ1 r17 h16) rfl shzM_0 clzM_10 gX10_alters_X10_pictures hyX10_pictures ⟨rfl, rfl⟩ ⟨Nat.le_of_ble_eq_true rfl, Nat.le_of_ble_eq_true rfl⟩ rfl rfl (Nat.le_of_ble_eq_true rfl) ?_
  refine ww_icmp_ge (pc := 67) (tgt := 117) X dX10_alters_67 (by decide) hF (fun h18 hF => ?_) (fun h18 hF => ?_)
  · refine ww_aload_n (pc := 117) X (j := 0) dX10_alters_117 rfl rfl ?_
    obtain ⟨σ20, h19, hF⟩ := bd_some hF
    refine ww_callVv (pc := 118) X (As := []) (rest := []) dX10_alters_118 (kX10_takesBack (mL M) G X.2.2.2.2.2.2.1 X.2.2.2.2.2.2.2.1 σ1 σ20 h19) rfl shzM_0 clzM_10 gX10_alters_X10_takesBack hyX10_takesBack ⟨rfl, rfl⟩ ⟨Nat.le_of_ble_eq_true rfl, Nat.le_of_ble_eq_true rfl⟩ rfl rfl (Nat.le_of_ble_eq_true rfl) ?_
    refine ww_aload_n (pc := 121) X (j := 0) dX10_alters_121 rfl rfl ?_
    refine ww_iload_n (pc := 122) X (j := 1) dX10_alters_122 rfl rfl ?_
    refine ww_iload_n (pc := 123) X (j := 2) dX10_alters_123 rfl rfl ?_
    refine ww_iload_n (pc := 124) X (j := 3) dX10_alters_124 rfl rfl ?_
    obtain ⟨σ22, h21, hF⟩ := bd_some hF
    refine ww_callVv (pc := 125) X (As := [.int c61_1, .int c61_2, .int c61_3]) (rest := []) dX10_alters_125 (kX10_measures (mL M) G X.2.2.2.2.2.2.1 X.2.2.2.2.2.2.2.1 σ20 c61_1 c61_2 c61_3 σ22 h21) rfl shzM_0 clzM_10 gX10_alters_X10_measures hyX10_measures ⟨rfl, rfl⟩ ⟨Nat.le_of_ble_eq_true rfl, Nat.le_of_ble_eq_true rfl⟩ rfl rfl (Nat.le_of_ble_eq_true rfl) ?_
    refine ww_aload_n (pc := 128) X (j := 0) dX10_alters_128 rfl rfl ?_
    refine ww_sipush (pc := 129) X (v := 200) dX10_alters_129 (by decide) ?_
    obtain ⟨r24, σ25, h23, hF⟩ := bd2_some hF
    refine ww_callVi (pc := 132) X (As := [.int 200]) (rest := []) dX10_alters_132 (kX10_rests (mL M) G X.2.2.2.2.2.2.1 X.2.2.2.2.2.2.2.1 σ22 200 (r24, σ25) h23) rfl shzM_0 clzM_10 gX10_alters_X10_rests hyX10_rests ⟨rfl, rfl⟩ ⟨Nat.le_of_ble_eq_true rfl, Nat.le_of_ble_eq_true rfl⟩ rfl rfl (Nat.le_of_ble_eq_true rfl) ?_
    refine ww_istore (pc := 135) X (lv' := [(0, .ref (G.2.1 0)), (1, .int c61_1), (2, .int c61_2), (3, .int c61_3), (4, .int c61_4), (5, .int c61_5), (6, .int c61_6), (8, .int a8)]) dX10_alters_135 (by decide) rfl hF (fun x26 ex26 hF => ?_)
    refine ww_iconst (pc := 137) X (v := 0) dX10_alters_137 (by decide) ?_
    refine ww_istore (pc := 138) X (lv' := [(7, .int x26), (0, .ref (G.2.1 0)), (1, .int c61_1), (2, .int c61_2), (3, .int c61_3), (4, .int c61_4), (5, .int c61_5), (6, .int c61_6)]) dX10_alters_138 (by decide) rfl hF (fun x27 ex27 hF => ?_)
    refine ww_iconst (pc := 140) X (v := 0) dX10_alters_140 (by decide) ?_
    refine ww_istore (pc := 141) X (lv' := [(8, .int x27), (7, .int x26), (0, .ref (G.2.1 0)), (1, .int c61_1), (2, .int c61_2), (3, .int c61_3), (4, .int c61_4), (5, .int c61_5), (6, .int c61_6)]) dX10_alters_141 (by decide) rfl hF (fun x28 ex28 hF => ?_)
    exact ww_sub [3, 4, 7, 8, 9, 1, 0] rfl (lpc_ind (P := (fun (s : Int32 × Int32) => WW M (gQi M G zM out.1 out.2) G zM 10 σ25 143 [(0, .ref (G.2.1 0)), (1, .int c61_1), (4, .int c61_4), (5, .int c61_5), (6, .int c61_6), (8, .int s.1), (9, .int s.2)] [])) (fun rec s ih hF => wbX10_alters_143 X σ25 c61_1 c61_4 c61_5 c61_6 (fun a8 a9 => rec (a8, a9)) (fun a8 a9 h => ih (a8, a9) h) s.1 s.2 hF) K9 (x27, x28) hF)
  · refine ww_iconst (pc := 70) X (v := 0) dX10_alters_70 (by decide) ?_
    refine ww_istore (pc := 71) X (lv' := [(0, .ref (G.2.1 0)), (1, .int c61_1), (2, .int c61_2), (3, .int c61_3), (4, .int c61_4), (5, .int c61_5), (6, .int c61_6), (8, .int a8)]) dX10_alters_71 (by decide) rfl hF (fun x51 ex51 hF => ?_)
    exact ww_sub [1, 2, 3, 4, 5, 6, 7, 8, 0] rfl (lpc_ind (P := (fun (s : Int32 × gS) => WW M (gQi M G zM out.1 out.2) G zM 10 s.2 73 [(0, .ref (G.2.1 0)), (1, .int c61_1), (2, .int c61_2), (3, .int c61_3), (4, .int c61_4), (5, .int c61_5), (6, .int c61_6), (8, .int a8), (9, .int s.1)] [])) (fun rec s ih hF => wbX10_alters_73 X σ1 c61_1 c61_2 c61_3 c61_4 c61_5 c61_6 a8 rec61  ih61 (fun a9 σ1 => rec (a9, σ1)) (fun a9 σ1 h => ih (a9, σ1) h) s.1 s.2 hF) K9 (x51, σ1) hF)
set_option maxRecDepth 100000 in
set_option maxHeartbeats 4000000 in
theorem wX10_alters {M : gM} {G : gG} {out : Int32 × gS} (X : gX M G zM cX10_alters RX10 10 wsX10_alters rmX10_alters (some .int)) (σ : gS) (p1 : Int32) (p2 : Int32) (p3 : Int32) (p4 : Int32) (hF : fX10_alters σ p1 p2 p3 p4 = some out) : WW M (gQi M G zM out.1 out.2) G zM 10 σ 0 [(0, .ref (G.2.1 0)), (1, .int p1), (2, .int p2), (3, .int p3), (4, .int p4)] [] := by
  unfold fX10_alters at hF
  refine ww_aload_n (pc := 0) X (j := 0) dX10_alters_0 rfl rfl ?_
  refine ww_iload_n (pc := 1) X (j := 1) dX10_alters_1 rfl rfl ?_
  refine ww_iload_n (pc := 2) X (j := 2) dX10_alters_2 rfl rfl ?_
  refine ww_iload_n (pc := 3) X (j := 3) dX10_alters_3 rfl rfl ?_
  obtain ⟨r2, h1, hF⟩ := bd_some hF
  refine ww_callVi (pc := 4) X (As := [.int p1, .int p2, .int p3]) (rest := []) dX10_alters_4 (kX10_canMeasure (mL M) G X.2.2.2.2.2.2.1 X.2.2.2.2.2.2.2.1 σ p1 p2 p3 r2 h1) rfl shzM_0 clzM_10 gX10_alters_X10_canMeasure hyX10_canMeasure ⟨rfl, rfl⟩ ⟨Nat.le_of_ble_eq_true rfl, Nat.le_of_ble_eq_true rfl⟩ rfl rfl (Nat.le_of_ble_eq_true rfl) ?_
  refine ww_if_eq (pc := 7) (tgt := 15) X dX10_alters_7 (by decide) hF (fun h3 hF => ?_) (fun h3 hF => ?_)
  · refine ww_iconst (pc := 15) X (v := (-1)) dX10_alters_15 (by decide) ?_
    exact ww_iret (pc := 16) X dX10_alters_16 (fst_of hF) (snd_of hF)
  · refine ww_iload (pc := 10) X (j := 4) dX10_alters_10 rfl ?_
    refine ww_if_ge (pc := 12) (tgt := 17) X dX10_alters_12 (by decide) hF (fun h4 hF => ?_) (fun h4 hF => ?_)
    · refine ww_aload_n (pc := 17) X (j := 0) dX10_alters_17 rfl rfl ?_
      refine ww_get (pc := 18) X (ref := "PictureBlockModel") (T := TX10) (j := 32) dX10_alters_18 inX10_alters_RX10 shzM_0 clzM_10 (by decide) rfl (List.mem_of_getElem? (i := 1) rfl) rfl ?_
      refine ww_bipush (pc := 21) X (v := 120) dX10_alters_21 (by decide) ?_
      refine ww_iconst (pc := 23) X (v := 2) dX10_alters_23 (by decide) ?_
      refine ww_iload_n (pc := 24) X (j := 1) dX10_alters_24 rfl rfl ?_
      refine ww_imul (pc := 25) X dX10_alters_25 ?_
      refine ww_iadd (pc := 26) X dX10_alters_26 ?_
      refine ww_iald (pc := 27) X dX10_alters_27 shzM_24 rfl hF (fun v5 ev5 bv5 hF => ?_)
      refine ww_istore (pc := 28) X (lv' := [(0, .ref (G.2.1 0)), (1, .int p1), (2, .int p2), (3, .int p3), (4, .int p4)]) dX10_alters_28 (by decide) rfl hF (fun x6 ex6 hF => ?_)
      refine ww_aload_n (pc := 30) X (j := 1) dX10_alters_30 rfl rfl ?_
      refine ww_get (pc := 31) X (ref := "PictureBlockModel") (T := TX10) (j := 32) dX10_alters_31 inX10_alters_RX10 shzM_0 clzM_10 (by decide) rfl (List.mem_of_getElem? (i := 1) rfl) rfl ?_
      refine ww_bipush (pc := 34) X (v := 120) dX10_alters_34 (by decide) ?_
      refine ww_iconst (pc := 36) X (v := 2) dX10_alters_36 (by decide) ?_
      refine ww_iload_n (pc := 37) X (j := 2) dX10_alters_37 rfl rfl ?_
      refine ww_imul (pc := 38) X dX10_alters_38 ?_
      refine ww_iadd (pc := 39) X dX10_alters_39 ?_
      refine ww_iconst (pc := 40) X (v := 1) dX10_alters_40 (by decide) ?_
      refine ww_iadd (pc := 41) X dX10_alters_41 ?_
      refine ww_iald (pc := 42) X dX10_alters_42 shzM_24 rfl hF (fun v7 ev7 bv7 hF => ?_)
      refine ww_istore (pc := 43) X (lv' := [(5, .int x6), (0, .ref (G.2.1 0)), (1, .int p1), (2, .int p2), (3, .int p3), (4, .int p4)]) dX10_alters_43 (by decide) rfl hF (fun x8 ex8 hF => ?_)
      refine ww_aload_n (pc := 45) X (j := 2) dX10_alters_45 rfl rfl ?_
      obtain ⟨σ10, h9, hF⟩ := bd_some hF
      refine ww_callVv (pc := 46) X (As := []) (rest := []) dX10_alters_46 (kX10_putsAside (mL M) G X.2.2.2.2.2.2.1 X.2.2.2.2.2.2.2.1 σ σ10 h9) rfl shzM_0 clzM_10 gX10_alters_X10_putsAside hyX10_putsAside ⟨rfl, rfl⟩ ⟨Nat.le_of_ble_eq_true rfl, Nat.le_of_ble_eq_true rfl⟩ rfl rfl (Nat.le_of_ble_eq_true rfl) ?_
      refine ww_aload_n (pc := 49) X (j := 2) dX10_alters_49 rfl rfl ?_
      refine ww_sipush (pc := 50) X (v := 200) dX10_alters_50 (by decide) ?_
      obtain ⟨r12, σ13, h11, hF⟩ := bd2_some hF
      refine ww_callVi (pc := 53) X (As := [.int 200]) (rest := []) dX10_alters_53 (kX10_rests (mL M) G X.2.2.2.2.2.2.1 X.2.2.2.2.2.2.2.1 σ10 200 (r12, σ13) h11) rfl shzM_0 clzM_10 gX10_alters_X10_rests hyX10_rests ⟨rfl, rfl⟩ ⟨Nat.le_of_ble_eq_true rfl, Nat.le_of_ble_eq_true rfl⟩ rfl rfl (Nat.le_of_ble_eq_true rfl) ?_
      refine ww_istore (pc := 56) X (lv' := [(6, .int x8), (5, .int x6), (0, .ref (G.2.1 0)), (1, .int p1), (2, .int p2), (3, .int p3), (4, .int p4)]) dX10_alters_56 (by decide) rfl hF (fun x14 ex14 hF => ?_)
      refine ww_iconst (pc := 58) X (v := 0) dX10_alters_58 (by decide) ?_
      refine ww_istore (pc := 59) X (lv' := [(7, .int x14), (6, .int x8), (5, .int x6), (0, .ref (G.2.1 0)), (1, .int p1), (2, .int p2), (3, .int p3), (4, .int p4)]) dX10_alters_59 (by decide) rfl hF (fun x15 ex15 hF => ?_)
      exact ww_sub [4, 5, 6, 7, 8, 3, 2, 0] rfl (lpc_ind (P := (fun (s : Int32 × gS) => WW M (gQi M G zM out.1 out.2) G zM 10 s.2 61 [(0, .ref (G.2.1 0)), (1, .int p1), (2, .int p2), (3, .int p3), (4, .int p4), (5, .int x6), (6, .int x8), (8, .int s.1)] [])) (fun rec s ih hF => wbX10_alters_61 X σ13 p1 p2 p3 p4 x6 x8 (fun a8 σ1 => rec (a8, σ1)) (fun a8 σ1 h => ih (a8, σ1) h) s.1 s.2 hF) K9 (x15, σ13) hF)
    · refine ww_iconst (pc := 15) X (v := (-1)) dX10_alters_15 (by decide) ?_
      exact ww_iret (pc := 16) X dX10_alters_16 (fst_of hF) (snd_of hF)
set_option maxRecDepth 100000 in
set_option maxHeartbeats 4000000 in
theorem kX10_alters (l : Launch) (G : gG) (hG : gOK G zM.1) (hT : G.2.2.1.map (fun q => q.2) = zM.2.1) (σ : gS) (p1 : Int32) (p2 : Int32) (p3 : Int32) (p4 : Int32) (out : Int32 × gS) (hF : fX10_alters σ p1 p2 p3 p4 = some out) : gCi l yX10_alters wsX10_alters rmX10_alters G zM [.ref (G.2.1 0), .int p1, .int p2, .int p3, .int p4] σ out.1 out.2 :=
  gEnter (by decide) rfl ⟨rfl, rfl⟩ hG hT (Nat.le_of_ble_eq_true rfl) rfl (fun M X hl => wX10_alters X σ p1 p2 p3 p4 hF)
