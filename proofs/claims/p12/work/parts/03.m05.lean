noncomputable def bX10_controls_4 (σ : gS) (rec4 : Int32 → Int32 → Option (Int32)) (a1 : Int32) (a2 : Int32) : Option (Int32) :=
  bd (fX10_points σ) fun r4 => (if r4 ≤ a2 then some a1 else bd (fX10_isControl σ a2) fun r7 => (if r7 = 0 then nm (a2 + 1 : Int32) fun x9 => rec4 a1 x9 else nm (a1 + 1 : Int32) fun x10 => nm (a2 + 1 : Int32) fun x11 => rec4 x10 x11))
noncomputable def fX10_controls (σ : gS) : Option (Int32) :=
  nm (0 : Int32) fun x1 => nm (0 : Int32) fun x2 => lpc (S := Int32 × Int32) K9 (fun rec s => bX10_controls_4 σ (fun a1 a2 => rec (a1, a2)) s.1 s.2) (x1, x2)
noncomputable abbrev rmX10_controls : Room := { frames := 1, cells := 0, slots := 0, locals := 22 }
set_option maxRecDepth 100000 in
set_option maxHeartbeats 4000000 in
theorem wbX10_controls_4 {M : gM} {G : gG} {out : Int32} (X : gX M G zM cX10_controls RX10 3 wsX10_controls rmX10_controls (some .int)) (σ : gS) (rec4 : Int32 → Int32 → Option (Int32)) (ih4 : ∀ (a1 : Int32) (a2 : Int32), rec4 a1 a2 = some out → WW M (gQi M G zM out σ) G zM 3 σ 4 [(0, .ref (G.2.1 0)), (1, .int a1), (2, .int a2)] []) (a1 : Int32) (a2 : Int32) (hF : bX10_controls_4 σ rec4 a1 a2 = some out) : WW M (gQi M G zM out σ) G zM 3 σ 4 [(0, .ref (G.2.1 0)), (1, .int a1), (2, .int a2)] [] := by
  unfold bX10_controls_4 at hF
  refine ww_iload_n (pc := 4) X (j := 2) dX10_controls_4 rfl rfl ?_
  refine ww_aload_n (pc := 5) X (j := 0) dX10_controls_5 rfl rfl ?_
  obtain ⟨r4, h3, hF⟩ := bd_some hF
  refine ww_callVi (pc := 6) X (As := []) (rest := [.int a2]) dX10_controls_6 (kX10_points (mL M) G X.2.2.2.2.2.2.1 X.2.2.2.2.2.2.2.1 σ r4 h3) rfl shzM_0 clzM_10 gX10_controls_X10_points hyX10_points ⟨rfl, rfl⟩ ⟨Nat.le_of_ble_eq_true rfl, Nat.le_of_ble_eq_true rfl⟩ rfl rfl (Nat.le_of_ble_eq_true rfl) ?_
  refine ww_icmp_ge (pc := 9) (tgt := 29) X dX10_controls_9 (by decide) hF (fun h5 hF => ?_) (fun h5 hF => ?_)
  · refine ww_iload_n (pc := 29) X (j := 1) dX10_controls_29 rfl rfl ?_
    exact ww_iret (pc := 30) X dX10_controls_30 (Option.some.inj hF) rfl
  · refine ww_aload_n (pc := 12) X (j := 0) dX10_controls_12 rfl rfl ?_
    refine ww_iload_n (pc := 13) X (j := 2) dX10_controls_13 rfl rfl ?_
    obtain ⟨r7, h6, hF⟩ := bd_some hF
    refine ww_callVi (pc := 14) X (As := [.int a2]) (rest := []) dX10_controls_14 (kX10_isControl (mL M) G X.2.2.2.2.2.2.1 X.2.2.2.2.2.2.2.1 σ a2 r7 h6) rfl shzM_0 clzM_10 gX10_controls_X10_isControl hyX10_isControl ⟨rfl, rfl⟩ ⟨Nat.le_of_ble_eq_true rfl, Nat.le_of_ble_eq_true rfl⟩ rfl rfl (Nat.le_of_ble_eq_true rfl) ?_
    refine ww_if_eq (pc := 17) (tgt := 23) X dX10_controls_17 (by decide) hF (fun h8 hF => ?_) (fun h8 hF => ?_)
    · refine ww_iinc (pc := 23) X (j := 2) (v := 1) (lv' := [(0, .ref (G.2.1 0)), (1, .int a1)]) dX10_controls_23 rfl rfl (by decide) rfl hF (fun x9 ex9 hF => ?_)
      refine ww_goto (pc := 26) X (tgt := 4) dX10_controls_26 (by decide) ?_
      exact ww_sub [1, 2, 0] rfl (ih4 a1 x9 hF)
    · refine ww_iinc (pc := 20) X (j := 1) (v := 1) (lv' := [(0, .ref (G.2.1 0)), (2, .int a2)]) dX10_controls_20 rfl rfl (by decide) rfl hF (fun x10 ex10 hF => ?_)
      refine ww_iinc (pc := 23) X (j := 2) (v := 1) (lv' := [(1, .int x10), (0, .ref (G.2.1 0))]) dX10_controls_23 rfl rfl (by decide) rfl hF (fun x11 ex11 hF => ?_)
      refine ww_goto (pc := 26) X (tgt := 4) dX10_controls_26 (by decide) ?_
      exact ww_sub [2, 1, 0] rfl (ih4 x10 x11 hF)
set_option maxRecDepth 100000 in
set_option maxHeartbeats 4000000 in
theorem wX10_controls {M : gM} {G : gG} {out : Int32} (X : gX M G zM cX10_controls RX10 3 wsX10_controls rmX10_controls (some .int)) (σ : gS) (hF : fX10_controls σ = some out) : WW M (gQi M G zM out σ) G zM 3 σ 0 [(0, .ref (G.2.1 0))] [] := by
  unfold fX10_controls at hF
  refine ww_iconst (pc := 0) X (v := 0) dX10_controls_0 (by decide) ?_
  refine ww_istore_n (pc := 1) X (lv' := [(0, .ref (G.2.1 0))]) dX10_controls_1 rfl (by decide) rfl hF (fun x1 ex1 hF => ?_)
  refine ww_iconst (pc := 2) X (v := 0) dX10_controls_2 (by decide) ?_
  refine ww_istore_n (pc := 3) X (lv' := [(1, .int x1), (0, .ref (G.2.1 0))]) dX10_controls_3 rfl (by decide) rfl hF (fun x2 ex2 hF => ?_)
  exact ww_sub [2, 1, 0] rfl (lpc_ind (P := (fun (s : Int32 × Int32) => WW M (gQi M G zM out σ) G zM 3 σ 4 [(0, .ref (G.2.1 0)), (1, .int s.1), (2, .int s.2)] [])) (fun rec s ih hF => wbX10_controls_4 X σ (fun a1 a2 => rec (a1, a2)) (fun a1 a2 h => ih (a1, a2) h) s.1 s.2 hF) K9 (x1, x2) hF)
set_option maxRecDepth 100000 in
set_option maxHeartbeats 4000000 in
theorem kX10_controls (l : Launch) (G : gG) (hG : gOK G zM.1) (hT : G.2.2.1.map (fun q => q.2) = zM.2.1) (σ : gS) (out : Int32) (hF : fX10_controls σ = some out) : gCi l yX10_controls wsX10_controls rmX10_controls G zM [.ref (G.2.1 0)] σ out σ :=
  gEnter (by decide) rfl ⟨rfl, rfl⟩ hG hT (Nat.le_of_ble_eq_true rfl) rfl (fun M X hl => wX10_controls X σ hF)
noncomputable def jX10_has_52 (σ : gS) (a1 : Int32) : Option (Int32) :=
  gd (gb (6 + a1) 12) <| nm (σ.1 15 (6 + a1).toNatClampNeg) fun v1 => some v1
noncomputable def fX10_has (σ : gS) (p1 : Int32) : Option (Int32) :=
  if p1 = 0 then jX10_has_52 σ p1 else if p1 = 1 then jX10_has_52 σ p1 else if p1 = 2 then jX10_has_52 σ p1 else if p1 = 3 then jX10_has_52 σ p1 else if p1 = 4 then jX10_has_52 σ p1 else if p1 = 5 then jX10_has_52 σ p1 else if p1 = 6 then bd (fX10_dropped σ) fun r9 => some r9 else if p1 = 7 then some (σ.1 0 36) else if p1 = 8 then bd (fX10_controls σ) fun r13 => some r13 else some ((-1))
noncomputable abbrev rmX10_has : Room := { frames := 2, cells := 0, slots := 0, locals := 44 }
set_option maxRecDepth 100000 in
set_option maxHeartbeats 4000000 in
theorem wjX10_has_52 {M : gM} {G : gG} {out : Int32} (X : gX M G zM cX10_has RX10 2 wsX10_has rmX10_has (some .int)) (σ : gS) (a1 : Int32) (hF : jX10_has_52 σ a1 = some out) : WW M (gQi M G zM out σ) G zM 2 σ 52 [(0, .ref (G.2.1 0)), (1, .int a1)] [] := by
  unfold jX10_has_52 at hF
  refine ww_aload_n (pc := 52) X (j := 0) dX10_has_52 rfl rfl ?_
  refine ww_get (pc := 53) X (ref := "PictureBlockModel") (T := TX10) (j := 23) dX10_has_53 inX10_has_RX10 shzM_0 clzM_10 (by decide) rfl (List.mem_of_getElem? (i := 1) rfl) rfl ?_
  refine ww_bipush (pc := 56) X (v := 6) dX10_has_56 (by decide) ?_
  refine ww_iload_n (pc := 58) X (j := 1) dX10_has_58 rfl rfl ?_
  refine ww_iadd (pc := 59) X dX10_has_59 ?_
  refine ww_iald (pc := 60) X dX10_has_60 shzM_15 rfl hF (fun v1 ev1 bv1 hF => ?_)
  exact ww_iret (pc := 61) X dX10_has_61 (Option.some.inj hF) rfl
set_option maxRecDepth 100000 in
set_option maxHeartbeats 4000000 in
theorem wX10_has {M : gM} {G : gG} {out : Int32} (X : gX M G zM cX10_has RX10 2 wsX10_has rmX10_has (some .int)) (σ : gS) (p1 : Int32) (hF : fX10_has σ p1 = some out) : WW M (gQi M G zM out σ) G zM 2 σ 0 [(0, .ref (G.2.1 0)), (1, .int p1)] [] := by
  unfold fX10_has at hF
  refine ww_iload_n (pc := 0) X (j := 1) dX10_has_0 rfl rfl ?_
  refine ww_case (v := 0) hF (fun h2 hF => ?_) (fun h2 hF => ?_)
  · refine ww_tin (pc := 1) X (off := 51) (tgt := 52) dX10_has_1 (by decide) (by decide) (by decide) (by decide) ?_
    exact ww_sub [0, 1] rfl (wjX10_has_52 X σ p1 hF)
  refine ww_case (v := 1) hF (fun h3 hF => ?_) (fun h3 hF => ?_)
  · refine ww_tin (pc := 1) X (off := 51) (tgt := 52) dX10_has_1 (by decide) (by decide) (by decide) (by decide) ?_
    exact ww_sub [0, 1] rfl (wjX10_has_52 X σ p1 hF)
  refine ww_case (v := 2) hF (fun h4 hF => ?_) (fun h4 hF => ?_)
  · refine ww_tin (pc := 1) X (off := 51) (tgt := 52) dX10_has_1 (by decide) (by decide) (by decide) (by decide) ?_
    exact ww_sub [0, 1] rfl (wjX10_has_52 X σ p1 hF)
  refine ww_case (v := 3) hF (fun h5 hF => ?_) (fun h5 hF => ?_)
  · refine ww_tin (pc := 1) X (off := 51) (tgt := 52) dX10_has_1 (by decide) (by decide) (by decide) (by decide) ?_
    exact ww_sub [0, 1] rfl (wjX10_has_52 X σ p1 hF)
  refine ww_case (v := 4) hF (fun h6 hF => ?_) (fun h6 hF => ?_)
  · refine ww_tin (pc := 1) X (off := 51) (tgt := 52) dX10_has_1 (by decide) (by decide) (by decide) (by decide) ?_
    exact ww_sub [0, 1] rfl (wjX10_has_52 X σ p1 hF)
  refine ww_case (v := 5) hF (fun h7 hF => ?_) (fun h7 hF => ?_)
  · refine ww_tin (pc := 1) X (off := 51) (tgt := 52) dX10_has_1 (by decide) (by decide) (by decide) (by decide) ?_
    exact ww_sub [0, 1] rfl (wjX10_has_52 X σ p1 hF)
  refine ww_case (v := 6) hF (fun h10 hF => ?_) (fun h10 hF => ?_)
  · refine ww_tin (pc := 1) X (off := 61) (tgt := 62) dX10_has_1 (by decide) (by decide) (by decide) (by decide) ?_
    refine ww_aload_n (pc := 62) X (j := 0) dX10_has_62 rfl rfl ?_
    obtain ⟨r9, h8, hF⟩ := bd_some hF
    refine ww_callVi (pc := 63) X (As := []) (rest := []) dX10_has_63 (kX10_dropped (mL M) G X.2.2.2.2.2.2.1 X.2.2.2.2.2.2.2.1 σ r9 h8) rfl shzM_0 clzM_10 gX10_has_X10_dropped hyX10_dropped ⟨rfl, rfl⟩ ⟨Nat.le_of_ble_eq_true rfl, Nat.le_of_ble_eq_true rfl⟩ rfl rfl (Nat.le_of_ble_eq_true rfl) ?_
    exact ww_iret (pc := 66) X dX10_has_66 (Option.some.inj hF) rfl
  refine ww_case (v := 7) hF (fun h11 hF => ?_) (fun h11 hF => ?_)
  · refine ww_tin (pc := 1) X (off := 66) (tgt := 67) dX10_has_1 (by decide) (by decide) (by decide) (by decide) ?_
    refine ww_aload_n (pc := 67) X (j := 0) dX10_has_67 rfl rfl ?_
    refine ww_get (pc := 68) X (ref := "PictureBlockModel") (T := TX10) (j := 36) dX10_has_68 inX10_has_RX10 shzM_0 clzM_10 (by decide) rfl (List.mem_of_getElem? (i := 2) rfl) rfl ?_
    exact ww_iret (pc := 71) X dX10_has_71 (Option.some.inj hF) rfl
  refine ww_case (v := 8) hF (fun h14 hF => ?_) (fun h14 hF => ?_)
  · refine ww_tin (pc := 1) X (off := 71) (tgt := 72) dX10_has_1 (by decide) (by decide) (by decide) (by decide) ?_
    refine ww_aload_n (pc := 72) X (j := 0) dX10_has_72 rfl rfl ?_
    obtain ⟨r13, h12, hF⟩ := bd_some hF
    refine ww_callVi (pc := 73) X (As := []) (rest := []) dX10_has_73 (kX10_controls (mL M) G X.2.2.2.2.2.2.1 X.2.2.2.2.2.2.2.1 σ r13 h12) rfl shzM_0 clzM_10 gX10_has_X10_controls hyX10_controls ⟨rfl, rfl⟩ ⟨Nat.le_of_ble_eq_true rfl, Nat.le_of_ble_eq_true rfl⟩ rfl rfl (Nat.le_of_ble_eq_true rfl) ?_
    exact ww_iret (pc := 76) X dX10_has_76 (Option.some.inj hF) rfl
  refine ww_tout (pc := 1) X (tgt := 77) dX10_has_1 (sw_out 0 8 (fun i q1 q2 => by rcases (show i = 0 ∨ i = 1 ∨ i = 2 ∨ i = 3 ∨ i = 4 ∨ i = 5 ∨ i = 6 ∨ i = 7 ∨ i = 8 by omega) with rfl | rfl | rfl | rfl | rfl | rfl | rfl | rfl | rfl <;> first | exact lv_neT h2 (by decide) | exact lv_neT h3 (by decide) | exact lv_neT h4 (by decide) | exact lv_neT h5 (by decide) | exact lv_neT h6 (by decide) | exact lv_neT h7 (by decide) | exact lv_neT h10 (by decide) | exact lv_neT h11 (by decide) | exact lv_neT h14 (by decide))) (by decide) ?_
  refine ww_iconst (pc := 77) X (v := (-1)) dX10_has_77 (by decide) ?_
  exact ww_iret (pc := 78) X dX10_has_78 (Option.some.inj hF) rfl
set_option maxRecDepth 100000 in
set_option maxHeartbeats 4000000 in
theorem kX10_has (l : Launch) (G : gG) (hG : gOK G zM.1) (hT : G.2.2.1.map (fun q => q.2) = zM.2.1) (σ : gS) (p1 : Int32) (out : Int32) (hF : fX10_has σ p1 = some out) : gCi l yX10_has wsX10_has rmX10_has G zM [.ref (G.2.1 0), .int p1] σ out σ :=
  gEnter (by decide) rfl ⟨rfl, rfl⟩ hG hT (Nat.le_of_ble_eq_true rfl) rfl (fun M X hl => wX10_has X σ p1 hF)
noncomputable def bX10_letter_105 (σ : gS) (c105_3 : Int32) (rec105 : Int64 → Int32 → Option (Int32)) (a4 : Int64) (a7 : Int32) : Option (Int32) :=
  if a7 ≤ c105_3 then some ((lrm a4 27).toInt32) else nm (a4 / 27 : Int64) fun x19 => nm (a7 + (-1) : Int32) fun x20 => rec105 x19 x20
noncomputable def bX10_letter_70 (σ : gS) (c70_3 : Int32) (c70_4 : Int64) (rec70 : Int32 → Int64 → Option (Int32)) (a6 : Int32) (a7 : Int64) : Option (Int32) :=
  if a7 ≤ 0 then if c70_3 < a6 then nm (a6 - 1 : Int32) fun x17 => lpc (S := Int64 × Int32) K9 (fun rec s => bX10_letter_105 σ c70_3 (fun a4 a7 => rec (a4, a7)) s.1 s.2) (c70_4, x17) else some 0 else nm (a6 + 1 : Int32) fun x21 => nm (a7 / 27 : Int64) fun x22 => rec70 x21 x22
noncomputable def fX10_letter (σ : gS) (p1 : Int32) (p2 : Int32) (p3 : Int32) : Option (Int32) :=
  bd (fX10_isIn σ p1.toInt64 0 2) fun r2 => (if r2 = 0 then some ((-1)) else gd (gb (6 + p1) 12) <| nm (σ.1 15 (6 + p1).toNatClampNeg) fun v4 => bd (fX10_isIn σ p2.toInt64 0 ((v4 - 1).toInt64)) fun r6 => (if r6 = 0 then some ((-1)) else bd (fX10_isIn σ p3.toInt64 0 5) fun r9 => (if r9 = 0 then some ((-1)) else gd (gb ((60 + (20 * p1)) + p2) 120) <| nm (σ.2 14 ((60 + (20 * p1)) + p2).toNatClampNeg) fun v11 => nm (v11 : Int64) fun x12 => nm (0 : Int32) fun x13 => nm (x12 : Int64) fun x14 => lpc (S := Int32 × Int64) K9 (fun rec s => bX10_letter_70 σ p3 x12 (fun a6 a7 => rec (a6, a7)) s.1 s.2) (x13, x14))))
noncomputable abbrev rmX10_letter : Room := { frames := 1, cells := 0, slots := 0, locals := 25 }
set_option maxRecDepth 100000 in
set_option maxHeartbeats 4000000 in
theorem wbX10_letter_105 {M : gM} {G : gG} {out : Int32} (X : gX M G zM cX10_letter RX10 9 wsX10_letter rmX10_letter (some .int)) (σ : gS) (c105_3 : Int32) (rec105 : Int64 → Int32 → Option (Int32)) (ih105 : ∀ (a4 : Int64) (a7 : Int32), rec105 a4 a7 = some out → WW M (gQi M G zM out σ) G zM 9 σ 105 [(3, .int c105_3), (4, .long a4), (7, .int a7)] []) (a4 : Int64) (a7 : Int32) (hF : bX10_letter_105 σ c105_3 rec105 a4 a7 = some out) : WW M (gQi M G zM out σ) G zM 9 σ 105 [(3, .int c105_3), (4, .long a4), (7, .int a7)] [] := by
  unfold bX10_letter_105 at hF
  refine ww_iload (pc := 105) X (j := 2) dX10_letter_105 rfl ?_
  refine ww_iload_n (pc := 107) X (j := 0) dX10_letter_107 rfl rfl ?_
  refine ww_icmp_le (pc := 108) (tgt := 125) X dX10_letter_108 (by decide) hF (fun h18 hF => ?_) (fun h18 hF => ?_)
  · refine ww_lload (pc := 125) X (j := 1) dX10_letter_125 rfl ?_
    refine ww_ldc2 (pc := 127) X (v := 27) (List.mem_of_getElem? (i := 5) rfl) dX10_letter_127 ?_
    refine ww_lrem (pc := 130) X dX10_letter_130 (by decide) ?_
    refine ww_l2i (pc := 131) X dX10_letter_131 ?_
    exact ww_iret (pc := 132) X dX10_letter_132 (Option.some.inj hF) rfl
  · refine ww_lload (pc := 111) X (j := 1) dX10_letter_111 rfl ?_
    refine ww_ldc2 (pc := 113) X (v := 27) (List.mem_of_getElem? (i := 5) rfl) dX10_letter_113 ?_
    refine ww_ldiv (pc := 116) X dX10_letter_116 (by decide) ?_
    refine ww_lstore (pc := 117) X (lv' := [(3, .int c105_3), (7, .int a7)]) dX10_letter_117 (by decide) rfl hF (fun x19 ex19 hF => ?_)
    refine ww_iinc (pc := 119) X (j := 2) (v := (-1)) (lv' := [(4, .long x19), (3, .int c105_3)]) dX10_letter_119 rfl rfl (by decide) rfl hF (fun x20 ex20 hF => ?_)
    refine ww_goto (pc := 122) X (tgt := 105) dX10_letter_122 (by decide) ?_
    exact ww_sub [2, 1, 0] rfl (ih105 x19 x20 hF)
set_option maxRecDepth 100000 in
set_option maxHeartbeats 4000000 in
theorem wbX10_letter_70 {M : gM} {G : gG} {out : Int32} (X : gX M G zM cX10_letter RX10 9 wsX10_letter rmX10_letter (some .int)) (σ : gS) (c70_3 : Int32) (c70_4 : Int64) (rec70 : Int32 → Int64 → Option (Int32)) (ih70 : ∀ (a6 : Int32) (a7 : Int64), rec70 a6 a7 = some out → WW M (gQi M G zM out σ) G zM 9 σ 70 [(3, .int c70_3), (4, .long c70_4), (6, .int a6), (7, .long a7)] []) (a6 : Int32) (a7 : Int64) (hF : bX10_letter_70 σ c70_3 c70_4 rec70 a6 a7 = some out) : WW M (gQi M G zM out σ) G zM 9 σ 70 [(3, .int c70_3), (4, .long c70_4), (6, .int a6), (7, .long a7)] [] := by
  unfold bX10_letter_70 at hF
  refine ww_lload (pc := 70) X (j := 3) dX10_letter_70 rfl ?_
  refine ww_lconst (pc := 72) X (v := 0) dX10_letter_72 (by decide) ?_
  refine ww_lcmp_le (pc := 73) (tgt := 91) X dX10_letter_73 dX10_letter_74 (by decide) hF (fun h15 hF => ?_) (fun h15 hF => ?_)
  · refine ww_iload_n (pc := 91) X (j := 0) dX10_letter_91 rfl rfl ?_
    refine ww_iload (pc := 92) X (j := 2) dX10_letter_92 rfl ?_
    refine ww_icmp_lt (pc := 94) (tgt := 99) X dX10_letter_94 (by decide) hF (fun h16 hF => ?_) (fun h16 hF => ?_)
    · refine ww_iload (pc := 99) X (j := 2) dX10_letter_99 rfl ?_
      refine ww_iconst (pc := 101) X (v := 1) dX10_letter_101 (by decide) ?_
      refine ww_isub (pc := 102) X dX10_letter_102 ?_
      refine ww_istore (pc := 103) X (lv' := [(3, .int c70_3), (4, .long c70_4), (6, .int a6)]) dX10_letter_103 (by decide) rfl hF (fun x17 ex17 hF => ?_)
      exact ww_sub [1, 2, 0] rfl (lpc_ind (P := (fun (s : Int64 × Int32) => WW M (gQi M G zM out σ) G zM 9 σ 105 [(3, .int c70_3), (4, .long s.1), (7, .int s.2)] [])) (fun rec s ih hF => wbX10_letter_105 X σ c70_3 (fun a4 a7 => rec (a4, a7)) (fun a4 a7 h => ih (a4, a7) h) s.1 s.2 hF) K9 (c70_4, x17) hF)
    · refine ww_iconst (pc := 97) X (v := 0) dX10_letter_97 (by decide) ?_
      exact ww_iret (pc := 98) X dX10_letter_98 (Option.some.inj hF) rfl
  · refine ww_iinc (pc := 77) X (j := 2) (v := 1) (lv' := [(3, .int c70_3), (4, .long c70_4), (7, .long a7)]) dX10_letter_77 rfl rfl (by decide) rfl hF (fun x21 ex21 hF => ?_)
    refine ww_lload (pc := 80) X (j := 3) dX10_letter_80 rfl ?_
    refine ww_ldc2 (pc := 82) X (v := 27) (List.mem_of_getElem? (i := 5) rfl) dX10_letter_82 ?_
    refine ww_ldiv (pc := 85) X dX10_letter_85 (by decide) ?_
    refine ww_lstore (pc := 86) X (lv' := [(6, .int x21), (3, .int c70_3), (4, .long c70_4)]) dX10_letter_86 (by decide) rfl hF (fun x22 ex22 hF => ?_)
    refine ww_goto (pc := 88) X (tgt := 70) dX10_letter_88 (by decide) ?_
    exact ww_sub [2, 3, 1, 0] rfl (ih70 x21 x22 hF)
set_option maxRecDepth 100000 in
set_option maxHeartbeats 4000000 in
theorem wX10_letter {M : gM} {G : gG} {out : Int32} (X : gX M G zM cX10_letter RX10 9 wsX10_letter rmX10_letter (some .int)) (σ : gS) (p1 : Int32) (p2 : Int32) (p3 : Int32) (hF : fX10_letter σ p1 p2 p3 = some out) : WW M (gQi M G zM out σ) G zM 9 σ 0 [(0, .ref (G.2.1 0)), (1, .int p1), (2, .int p2), (3, .int p3)] [] := by
  unfold fX10_letter at hF
  refine ww_iload_n (pc := 0) X (j := 1) dX10_letter_0 rfl rfl ?_
  refine ww_i2l (pc := 1) X dX10_letter_1 ?_
  refine ww_lconst (pc := 2) X (v := 0) dX10_letter_2 (by decide) ?_
  refine ww_ldc2 (pc := 3) X (v := 2) (List.mem_of_getElem? (i := 1) rfl) dX10_letter_3 ?_
  obtain ⟨r2, h1, hF⟩ := bd_some hF
  refine ww_callSi (pc := 6) X (As := [.long p1.toInt64, .long 0, .long 2]) (rest := []) dX10_letter_6 (kX10_isIn (mL M) G X.2.2.2.2.2.2.1 X.2.2.2.2.2.2.2.1 σ p1.toInt64 0 2 r2 h1) rfl gX10_letter_X10_isIn hyX10_isIn ⟨rfl, rfl⟩ ⟨Nat.le_of_ble_eq_true rfl, Nat.le_of_ble_eq_true rfl⟩ rfl rfl (Nat.le_of_ble_eq_true rfl) ?_
  refine ww_if_eq (pc := 9) (tgt := 45) X dX10_letter_9 (by decide) hF (fun h3 hF => ?_) (fun h3 hF => ?_)
  · refine ww_iconst (pc := 45) X (v := (-1)) dX10_letter_45 (by decide) ?_
    exact ww_iret (pc := 46) X dX10_letter_46 (Option.some.inj hF) rfl
  · refine ww_iload_n (pc := 12) X (j := 2) dX10_letter_12 rfl rfl ?_
    refine ww_i2l (pc := 13) X dX10_letter_13 ?_
    refine ww_lconst (pc := 14) X (v := 0) dX10_letter_14 (by decide) ?_
    refine ww_aload_n (pc := 15) X (j := 0) dX10_letter_15 rfl rfl ?_
    refine ww_get (pc := 16) X (ref := "PictureBlockModel") (T := TX10) (j := 23) dX10_letter_16 inX10_letter_RX10 shzM_0 clzM_10 (by decide) rfl (List.mem_of_getElem? (i := 2) rfl) rfl ?_
    refine ww_bipush (pc := 19) X (v := 6) dX10_letter_19 (by decide) ?_
    refine ww_iload_n (pc := 21) X (j := 1) dX10_letter_21 rfl rfl ?_
    refine ww_iadd (pc := 22) X dX10_letter_22 ?_
    refine ww_iald (pc := 23) X dX10_letter_23 shzM_15 rfl hF (fun v4 ev4 bv4 hF => ?_)
    refine ww_iconst (pc := 24) X (v := 1) dX10_letter_24 (by decide) ?_
    refine ww_isub (pc := 25) X dX10_letter_25 ?_
    refine ww_i2l (pc := 26) X dX10_letter_26 ?_
    obtain ⟨r6, h5, hF⟩ := bd_some hF
    refine ww_callSi (pc := 27) X (As := [.long p2.toInt64, .long 0, .long ((v4 - 1).toInt64)]) (rest := []) dX10_letter_27 (kX10_isIn (mL M) G X.2.2.2.2.2.2.1 X.2.2.2.2.2.2.2.1 σ p2.toInt64 0 ((v4 - 1).toInt64) r6 h5) rfl gX10_letter_X10_isIn hyX10_isIn ⟨rfl, rfl⟩ ⟨Nat.le_of_ble_eq_true rfl, Nat.le_of_ble_eq_true rfl⟩ rfl rfl (Nat.le_of_ble_eq_true rfl) ?_
    refine ww_if_eq (pc := 30) (tgt := 45) X dX10_letter_30 (by decide) hF (fun h7 hF => ?_) (fun h7 hF => ?_)
    · refine ww_iconst (pc := 45) X (v := (-1)) dX10_letter_45 (by decide) ?_
      exact ww_iret (pc := 46) X dX10_letter_46 (Option.some.inj hF) rfl
    · refine ww_iload_n (pc := 33) X (j := 3) dX10_letter_33 rfl rfl ?_
      refine ww_i2l (pc := 34) X dX10_letter_34 ?_
      refine ww_lconst (pc := 35) X (v := 0) dX10_letter_35 (by decide) ?_
      refine ww_ldc2 (pc := 36) X (v := 5) (List.mem_of_getElem? (i := 3) rfl) dX10_letter_36 ?_
      obtain ⟨r9, h8, hF⟩ := bd_some hF
      refine ww_callSi (pc := 39) X (As := [.long p3.toInt64, .long 0, .long 5]) (rest := []) dX10_letter_39 (kX10_isIn (mL M) G X.2.2.2.2.2.2.1 X.2.2.2.2.2.2.2.1 σ p3.toInt64 0 5 r9 h8) rfl gX10_letter_X10_isIn hyX10_isIn ⟨rfl, rfl⟩ ⟨Nat.le_of_ble_eq_true rfl, Nat.le_of_ble_eq_true rfl⟩ rfl rfl (Nat.le_of_ble_eq_true rfl) ?_
      refine ww_if_ne (pc := 42) (tgt := 47) X dX10_letter_42 (by decide) hF (fun h10 hF => ?_) (fun h10 hF => ?_)
      · refine ww_aload_n (pc := 47) X (j := 0) dX10_letter_47 rfl rfl ?_
        refine ww_get (pc := 48) X (ref := "PictureBlockModel") (T := TX10) (j := 22) dX10_letter_48 inX10_letter_RX10 shzM_0 clzM_10 (by decide) rfl (List.mem_of_getElem? (i := 4) rfl) rfl ?_
        refine ww_bipush (pc := 51) X (v := 60) dX10_letter_51 (by decide) ?_
        refine ww_bipush (pc := 53) X (v := 20) dX10_letter_53 (by decide) ?_
        refine ww_iload_n (pc := 55) X (j := 1) dX10_letter_55 rfl rfl ?_
        refine ww_imul (pc := 56) X dX10_letter_56 ?_
        refine ww_iadd (pc := 57) X dX10_letter_57 ?_
        refine ww_iload_n (pc := 58) X (j := 2) dX10_letter_58 rfl rfl ?_
        refine ww_iadd (pc := 59) X dX10_letter_59 ?_
        refine ww_lald (pc := 60) X dX10_letter_60 shzM_14 rfl hF (fun v11 ev11 bv11 hF => ?_)
        refine ww_lstore (pc := 61) X (lv' := [(0, .ref (G.2.1 0)), (1, .int p1), (2, .int p2), (3, .int p3)]) dX10_letter_61 (by decide) rfl hF (fun x12 ex12 hF => ?_)
        refine ww_iconst (pc := 63) X (v := 0) dX10_letter_63 (by decide) ?_
        refine ww_istore (pc := 64) X (lv' := [(4, .long x12), (0, .ref (G.2.1 0)), (1, .int p1), (2, .int p2), (3, .int p3)]) dX10_letter_64 (by decide) rfl hF (fun x13 ex13 hF => ?_)
        refine ww_lload (pc := 66) X (j := 1) dX10_letter_66 rfl ?_
        refine ww_lstore (pc := 68) X (lv' := [(6, .int x13), (4, .long x12), (0, .ref (G.2.1 0)), (1, .int p1), (2, .int p2), (3, .int p3)]) dX10_letter_68 (by decide) rfl hF (fun x14 ex14 hF => ?_)
        exact ww_sub [6, 2, 1, 0] rfl (lpc_ind (P := (fun (s : Int32 × Int64) => WW M (gQi M G zM out σ) G zM 9 σ 70 [(3, .int p3), (4, .long x12), (6, .int s.1), (7, .long s.2)] [])) (fun rec s ih hF => wbX10_letter_70 X σ p3 x12 (fun a6 a7 => rec (a6, a7)) (fun a6 a7 h => ih (a6, a7) h) s.1 s.2 hF) K9 (x13, x14) hF)
      · refine ww_iconst (pc := 45) X (v := (-1)) dX10_letter_45 (by decide) ?_
        exact ww_iret (pc := 46) X dX10_letter_46 (Option.some.inj hF) rfl
set_option maxRecDepth 100000 in
set_option maxHeartbeats 4000000 in
theorem kX10_letter (l : Launch) (G : gG) (hG : gOK G zM.1) (hT : G.2.2.1.map (fun q => q.2) = zM.2.1) (σ : gS) (p1 : Int32) (p2 : Int32) (p3 : Int32) (out : Int32) (hF : fX10_letter σ p1 p2 p3 = some out) : gCi l yX10_letter wsX10_letter rmX10_letter G zM [.ref (G.2.1 0), .int p1, .int p2, .int p3] σ out σ :=
  gEnter (by decide) rfl ⟨rfl, rfl⟩ hG hT (Nat.le_of_ble_eq_true rfl) rfl (fun M X hl => wX10_letter X σ p1 p2 p3 hF)
noncomputable def fX10_isPicture (σ : gS) (p1 : Int32) : Option (Int32) :=
  bd (fX10_pictures σ) fun r2 => bd (fX10_isIn σ p1.toInt64 0 ((r2 - 1).toInt64)) fun r4 => some (vp_nar .boolean r4)
noncomputable abbrev rmX10_isPicture : Room := { frames := 1, cells := 0, slots := 0, locals := 25 }
set_option maxRecDepth 100000 in
set_option maxHeartbeats 4000000 in
theorem wX10_isPicture {M : gM} {G : gG} {out : Int32} (X : gX M G zM cX10_isPicture RX10 2 wsX10_isPicture rmX10_isPicture (some .boolean)) (σ : gS) (p1 : Int32) (hF : fX10_isPicture σ p1 = some out) : WW M (gQi M G zM out σ) G zM 2 σ 0 [(0, .ref (G.2.1 0)), (1, .int p1)] [] := by
  unfold fX10_isPicture at hF
  refine ww_iload_n (pc := 0) X (j := 1) dX10_isPicture_0 rfl rfl ?_
  refine ww_i2l (pc := 1) X dX10_isPicture_1 ?_
  refine ww_lconst (pc := 2) X (v := 0) dX10_isPicture_2 (by decide) ?_
  refine ww_aload_n (pc := 3) X (j := 0) dX10_isPicture_3 rfl rfl ?_
  obtain ⟨r2, h1, hF⟩ := bd_some hF
  refine ww_callVi (pc := 4) X (As := []) (rest := [.long 0, .long p1.toInt64]) dX10_isPicture_4 (kX10_pictures (mL M) G X.2.2.2.2.2.2.1 X.2.2.2.2.2.2.2.1 σ r2 h1) rfl shzM_0 clzM_10 gX10_isPicture_X10_pictures hyX10_pictures ⟨rfl, rfl⟩ ⟨Nat.le_of_ble_eq_true rfl, Nat.le_of_ble_eq_true rfl⟩ rfl rfl (Nat.le_of_ble_eq_true rfl) ?_
  refine ww_iconst (pc := 7) X (v := 1) dX10_isPicture_7 (by decide) ?_
  refine ww_isub (pc := 8) X dX10_isPicture_8 ?_
  refine ww_i2l (pc := 9) X dX10_isPicture_9 ?_
  obtain ⟨r4, h3, hF⟩ := bd_some hF
  refine ww_callSi (pc := 10) X (As := [.long p1.toInt64, .long 0, .long ((r2 - 1).toInt64)]) (rest := []) dX10_isPicture_10 (kX10_isIn (mL M) G X.2.2.2.2.2.2.1 X.2.2.2.2.2.2.2.1 σ p1.toInt64 0 ((r2 - 1).toInt64) r4 h3) rfl gX10_isPicture_X10_isIn hyX10_isIn ⟨rfl, rfl⟩ ⟨Nat.le_of_ble_eq_true rfl, Nat.le_of_ble_eq_true rfl⟩ rfl rfl (Nat.le_of_ble_eq_true rfl) ?_
  exact ww_zret (pc := 13) X dX10_isPicture_13 (by cases hF; rfl) rfl
set_option maxRecDepth 100000 in
set_option maxHeartbeats 4000000 in
theorem kX10_isPicture (l : Launch) (G : gG) (hG : gOK G zM.1) (hT : G.2.2.1.map (fun q => q.2) = zM.2.1) (σ : gS) (p1 : Int32) (out : Int32) (hF : fX10_isPicture σ p1 = some out) : gCi l yX10_isPicture wsX10_isPicture rmX10_isPicture G zM [.ref (G.2.1 0), .int p1] σ out σ :=
  gEnter (by decide) rfl ⟨rfl, rfl⟩ hG hT (Nat.le_of_ble_eq_true rfl) rfl (fun M X hl => wX10_isPicture X σ p1 hF)
noncomputable def fX10_strip (σ : gS) (p1 : Int32) : Option (Int32) :=
  gd (gb (12 + p1) 24) <| nm (σ.1 16 (12 + p1).toNatClampNeg) fun v1 => some v1
noncomputable abbrev rmX10_strip : Room := { frames := 0, cells := 0, slots := 0, locals := 0 }
set_option maxRecDepth 100000 in
set_option maxHeartbeats 4000000 in
theorem wX10_strip {M : gM} {G : gG} {out : Int32} (X : gX M G zM cX10_strip RX10 2 wsX10_strip rmX10_strip (some .int)) (σ : gS) (p1 : Int32) (hF : fX10_strip σ p1 = some out) : WW M (gQi M G zM out σ) G zM 2 σ 0 [(0, .ref (G.2.1 0)), (1, .int p1)] [] := by
  unfold fX10_strip at hF
  refine ww_aload_n (pc := 0) X (j := 0) dX10_strip_0 rfl rfl ?_
  refine ww_get (pc := 1) X (ref := "PictureBlockModel") (T := TX10) (j := 24) dX10_strip_1 inX10_strip_RX10 shzM_0 clzM_10 (by decide) rfl (List.mem_of_getElem? (i := 1) rfl) rfl ?_
  refine ww_bipush (pc := 4) X (v := 12) dX10_strip_4 (by decide) ?_
  refine ww_iload_n (pc := 6) X (j := 1) dX10_strip_6 rfl rfl ?_
  refine ww_iadd (pc := 7) X dX10_strip_7 ?_
  refine ww_iald (pc := 8) X dX10_strip_8 shzM_16 rfl hF (fun v1 ev1 bv1 hF => ?_)
  exact ww_iret (pc := 9) X dX10_strip_9 (Option.some.inj hF) rfl
set_option maxRecDepth 100000 in
set_option maxHeartbeats 4000000 in
theorem kX10_strip (l : Launch) (G : gG) (hG : gOK G zM.1) (hT : G.2.2.1.map (fun q => q.2) = zM.2.1) (σ : gS) (p1 : Int32) (out : Int32) (hF : fX10_strip σ p1 = some out) : gCi l yX10_strip wsX10_strip rmX10_strip G zM [.ref (G.2.1 0), .int p1] σ out σ :=
  gEnter (by decide) rfl ⟨rfl, rfl⟩ hG hT (Nat.le_of_ble_eq_true rfl) rfl (fun M X hl => wX10_strip X σ p1 hF)
noncomputable def jX10_rowsOf_39 (σ : gS) (c5_1 : Int32) (c5_2 : Int32) (rec5 : Int32 → Int32 → Option (Int32)) (a3 : Int32) (a4 : Int32) : Option (Int32) :=
  if c5_2 = ((-1)) then nm (a3 + 1 : Int32) fun x11 => nm (a4 + 1 : Int32) fun x12 => rec5 x11 x12 else bd (fX10_pointOf σ a4) fun r14 => (if r14 = c5_2 then nm (a3 + 1 : Int32) fun x17 => nm (a4 + 1 : Int32) fun x18 => rec5 x17 x18 else nm (a4 + 1 : Int32) fun x16 => rec5 a3 x16)
noncomputable def bX10_rowsOf_5 (σ : gS) (c5_1 : Int32) (c5_2 : Int32) (rec5 : Int32 → Int32 → Option (Int32)) (a3 : Int32) (a4 : Int32) : Option (Int32) :=
  bd (fX10_rows σ) fun r4 => (if r4 ≤ a4 then some a3 else gd (gb a4 60) <| nm (σ.1 26 a4.toNatClampNeg) fun v6 => (if v6 = 0 then if c5_1 = ((-1)) then jX10_rowsOf_39 σ c5_1 c5_2 rec5 a3 a4 else bd (fX10_pictureOf σ a4) fun r20 => (if r20 = c5_1 then jX10_rowsOf_39 σ c5_1 c5_2 rec5 a3 a4 else nm (a4 + 1 : Int32) fun x22 => rec5 a3 x22) else nm (a4 + 1 : Int32) fun x8 => rec5 a3 x8))
noncomputable def fX10_rowsOf (σ : gS) (p1 : Int32) (p2 : Int32) : Option (Int32) :=
  nm (0 : Int32) fun x1 => nm (0 : Int32) fun x2 => lpc (S := Int32 × Int32) K9 (fun rec s => bX10_rowsOf_5 σ p1 p2 (fun a3 a4 => rec (a3, a4)) s.1 s.2) (x1, x2)
noncomputable abbrev rmX10_rowsOf : Room := { frames := 1, cells := 0, slots := 0, locals := 21 }
set_option maxRecDepth 100000 in
set_option maxHeartbeats 4000000 in
theorem wjX10_rowsOf_39 {M : gM} {G : gG} {out : Int32} (X : gX M G zM cX10_rowsOf RX10 5 wsX10_rowsOf rmX10_rowsOf (some .int)) (σ : gS) (c5_1 : Int32) (c5_2 : Int32) (rec5 : Int32 → Int32 → Option (Int32)) (ih5 : ∀ (a3 : Int32) (a4 : Int32), rec5 a3 a4 = some out → WW M (gQi M G zM out σ) G zM 5 σ 5 [(0, .ref (G.2.1 0)), (1, .int c5_1), (2, .int c5_2), (3, .int a3), (4, .int a4)] []) (a3 : Int32) (a4 : Int32) (hF : jX10_rowsOf_39 σ c5_1 c5_2 rec5 a3 a4 = some out) : WW M (gQi M G zM out σ) G zM 5 σ 39 [(0, .ref (G.2.1 0)), (1, .int c5_1), (2, .int c5_2), (3, .int a3), (4, .int a4)] [] := by
  unfold jX10_rowsOf_39 at hF
  refine ww_iload_n (pc := 39) X (j := 2) dX10_rowsOf_39 rfl rfl ?_
  refine ww_iconst (pc := 40) X (v := (-1)) dX10_rowsOf_40 (by decide) ?_
  refine ww_icmp_eq (pc := 41) (tgt := 54) X dX10_rowsOf_41 (by decide) hF (fun h10 hF => ?_) (fun h10 hF => ?_)
  · refine ww_iinc (pc := 54) X (j := 3) (v := 1) (lv' := [(0, .ref (G.2.1 0)), (1, .int c5_1), (2, .int c5_2), (4, .int a4)]) dX10_rowsOf_54 rfl rfl (by decide) rfl hF (fun x11 ex11 hF => ?_)
    refine ww_iinc (pc := 57) X (j := 4) (v := 1) (lv' := [(3, .int x11), (0, .ref (G.2.1 0)), (1, .int c5_1), (2, .int c5_2)]) dX10_rowsOf_57 rfl rfl (by decide) rfl hF (fun x12 ex12 hF => ?_)
    refine ww_goto (pc := 60) X (tgt := 5) dX10_rowsOf_60 (by decide) ?_
    exact ww_sub [2, 3, 4, 1, 0] rfl (ih5 x11 x12 hF)
  · refine ww_aload_n (pc := 44) X (j := 0) dX10_rowsOf_44 rfl rfl ?_
    refine ww_iload (pc := 45) X (j := 4) dX10_rowsOf_45 rfl ?_
    obtain ⟨r14, h13, hF⟩ := bd_some hF
    refine ww_callVi (pc := 47) X (As := [.int a4]) (rest := []) dX10_rowsOf_47 (kX10_pointOf (mL M) G X.2.2.2.2.2.2.1 X.2.2.2.2.2.2.2.1 σ a4 r14 h13) rfl shzM_0 clzM_10 gX10_rowsOf_X10_pointOf hyX10_pointOf ⟨rfl, rfl⟩ ⟨Nat.le_of_ble_eq_true rfl, Nat.le_of_ble_eq_true rfl⟩ rfl rfl (Nat.le_of_ble_eq_true rfl) ?_
    refine ww_iload_n (pc := 50) X (j := 2) dX10_rowsOf_50 rfl rfl ?_
    refine ww_icmp_ne (pc := 51) (tgt := 57) X dX10_rowsOf_51 (by decide) hF (fun h15 hF => ?_) (fun h15 hF => ?_)
    · refine ww_iinc (pc := 57) X (j := 4) (v := 1) (lv' := [(0, .ref (G.2.1 0)), (1, .int c5_1), (2, .int c5_2), (3, .int a3)]) dX10_rowsOf_57 rfl rfl (by decide) rfl hF (fun x16 ex16 hF => ?_)
      refine ww_goto (pc := 60) X (tgt := 5) dX10_rowsOf_60 (by decide) ?_
      exact ww_sub [1, 2, 3, 4, 0] rfl (ih5 a3 x16 hF)
    · refine ww_iinc (pc := 54) X (j := 3) (v := 1) (lv' := [(0, .ref (G.2.1 0)), (1, .int c5_1), (2, .int c5_2), (4, .int a4)]) dX10_rowsOf_54 rfl rfl (by decide) rfl hF (fun x17 ex17 hF => ?_)
      refine ww_iinc (pc := 57) X (j := 4) (v := 1) (lv' := [(3, .int x17), (0, .ref (G.2.1 0)), (1, .int c5_1), (2, .int c5_2)]) dX10_rowsOf_57 rfl rfl (by decide) rfl hF (fun x18 ex18 hF => ?_)
      refine ww_goto (pc := 60) X (tgt := 5) dX10_rowsOf_60 (by decide) ?_
      exact ww_sub [2, 3, 4, 1, 0] rfl (ih5 x17 x18 hF)
set_option maxRecDepth 100000 in
set_option maxHeartbeats 4000000 in
theorem wbX10_rowsOf_5 {M : gM} {G : gG} {out : Int32} (X : gX M G zM cX10_rowsOf RX10 5 wsX10_rowsOf rmX10_rowsOf (some .int)) (σ : gS) (c5_1 : Int32) (c5_2 : Int32) (rec5 : Int32 → Int32 → Option (Int32)) (ih5 : ∀ (a3 : Int32) (a4 : Int32), rec5 a3 a4 = some out → WW M (gQi M G zM out σ) G zM 5 σ 5 [(0, .ref (G.2.1 0)), (1, .int c5_1), (2, .int c5_2), (3, .int a3), (4, .int a4)] []) (a3 : Int32) (a4 : Int32) (hF : bX10_rowsOf_5 σ c5_1 c5_2 rec5 a3 a4 = some out) : WW M (gQi M G zM out σ) G zM 5 σ 5 [(0, .ref (G.2.1 0)), (1, .int c5_1), (2, .int c5_2), (3, .int a3), (4, .int a4)] [] := by
  unfold bX10_rowsOf_5 at hF
  refine ww_iload (pc := 5) X (j := 4) dX10_rowsOf_5 rfl ?_
  refine ww_aload_n (pc := 7) X (j := 0) dX10_rowsOf_7 rfl rfl ?_
  obtain ⟨r4, h3, hF⟩ := bd_some hF
  refine ww_callVi (pc := 8) X (As := []) (rest := [.int a4]) dX10_rowsOf_8 (kX10_rows (mL M) G X.2.2.2.2.2.2.1 X.2.2.2.2.2.2.2.1 σ r4 h3) rfl shzM_0 clzM_10 gX10_rowsOf_X10_rows hyX10_rows ⟨rfl, rfl⟩ ⟨Nat.le_of_ble_eq_true rfl, Nat.le_of_ble_eq_true rfl⟩ rfl rfl (Nat.le_of_ble_eq_true rfl) ?_
  refine ww_icmp_ge (pc := 11) (tgt := 63) X dX10_rowsOf_11 (by decide) hF (fun h5 hF => ?_) (fun h5 hF => ?_)
  · refine ww_iload_n (pc := 63) X (j := 3) dX10_rowsOf_63 rfl rfl ?_
    exact ww_iret (pc := 64) X dX10_rowsOf_64 (Option.some.inj hF) rfl
  · refine ww_aload_n (pc := 14) X (j := 0) dX10_rowsOf_14 rfl rfl ?_
    refine ww_get (pc := 15) X (ref := "PictureBlockModel") (T := TX10) (j := 35) dX10_rowsOf_15 inX10_rowsOf_RX10 shzM_0 clzM_10 (by decide) rfl (List.mem_of_getElem? (i := 1) rfl) rfl ?_
    refine ww_iload (pc := 18) X (j := 4) dX10_rowsOf_18 rfl ?_
    refine ww_zald (pc := 20) X dX10_rowsOf_20 shzM_26 rfl hF (fun v6 ev6 bv6 hF => ?_)
    refine ww_if_ne (pc := 21) (tgt := 57) X dX10_rowsOf_21 (by decide) hF (fun h7 hF => ?_) (fun h7 hF => ?_)
    · refine ww_iinc (pc := 57) X (j := 4) (v := 1) (lv' := [(0, .ref (G.2.1 0)), (1, .int c5_1), (2, .int c5_2), (3, .int a3)]) dX10_rowsOf_57 rfl rfl (by decide) rfl hF (fun x8 ex8 hF => ?_)
      refine ww_goto (pc := 60) X (tgt := 5) dX10_rowsOf_60 (by decide) ?_
      exact ww_sub [1, 2, 3, 4, 0] rfl (ih5 a3 x8 hF)
    · refine ww_iload_n (pc := 24) X (j := 1) dX10_rowsOf_24 rfl rfl ?_
      refine ww_iconst (pc := 25) X (v := (-1)) dX10_rowsOf_25 (by decide) ?_
      refine ww_icmp_eq (pc := 26) (tgt := 39) X dX10_rowsOf_26 (by decide) hF (fun h9 hF => ?_) (fun h9 hF => ?_)
      · exact ww_sub [0, 1, 2, 3, 4] rfl (wjX10_rowsOf_39 X σ c5_1 c5_2 rec5 ih5 a3 a4 hF)
      · refine ww_aload_n (pc := 29) X (j := 0) dX10_rowsOf_29 rfl rfl ?_
        refine ww_iload (pc := 30) X (j := 4) dX10_rowsOf_30 rfl ?_
        obtain ⟨r20, h19, hF⟩ := bd_some hF
        refine ww_callVi (pc := 32) X (As := [.int a4]) (rest := []) dX10_rowsOf_32 (kX10_pictureOf (mL M) G X.2.2.2.2.2.2.1 X.2.2.2.2.2.2.2.1 σ a4 r20 h19) rfl shzM_0 clzM_10 gX10_rowsOf_X10_pictureOf hyX10_pictureOf ⟨rfl, rfl⟩ ⟨Nat.le_of_ble_eq_true rfl, Nat.le_of_ble_eq_true rfl⟩ rfl rfl (Nat.le_of_ble_eq_true rfl) ?_
        refine ww_iload_n (pc := 35) X (j := 1) dX10_rowsOf_35 rfl rfl ?_
        refine ww_icmp_ne (pc := 36) (tgt := 57) X dX10_rowsOf_36 (by decide) hF (fun h21 hF => ?_) (fun h21 hF => ?_)
        · refine ww_iinc (pc := 57) X (j := 4) (v := 1) (lv' := [(0, .ref (G.2.1 0)), (1, .int c5_1), (2, .int c5_2), (3, .int a3)]) dX10_rowsOf_57 rfl rfl (by decide) rfl hF (fun x22 ex22 hF => ?_)
          refine ww_goto (pc := 60) X (tgt := 5) dX10_rowsOf_60 (by decide) ?_
          exact ww_sub [1, 2, 3, 4, 0] rfl (ih5 a3 x22 hF)
        · exact ww_sub [0, 1, 2, 3, 4] rfl (wjX10_rowsOf_39 X σ c5_1 c5_2 rec5 ih5 a3 a4 hF)
set_option maxRecDepth 100000 in
set_option maxHeartbeats 4000000 in
theorem wX10_rowsOf {M : gM} {G : gG} {out : Int32} (X : gX M G zM cX10_rowsOf RX10 5 wsX10_rowsOf rmX10_rowsOf (some .int)) (σ : gS) (p1 : Int32) (p2 : Int32) (hF : fX10_rowsOf σ p1 p2 = some out) : WW M (gQi M G zM out σ) G zM 5 σ 0 [(0, .ref (G.2.1 0)), (1, .int p1), (2, .int p2)] [] := by
  unfold fX10_rowsOf at hF
  refine ww_iconst (pc := 0) X (v := 0) dX10_rowsOf_0 (by decide) ?_
  refine ww_istore_n (pc := 1) X (lv' := [(0, .ref (G.2.1 0)), (1, .int p1), (2, .int p2)]) dX10_rowsOf_1 rfl (by decide) rfl hF (fun x1 ex1 hF => ?_)
  refine ww_iconst (pc := 2) X (v := 0) dX10_rowsOf_2 (by decide) ?_
  refine ww_istore (pc := 3) X (lv' := [(3, .int x1), (0, .ref (G.2.1 0)), (1, .int p1), (2, .int p2)]) dX10_rowsOf_3 (by decide) rfl hF (fun x2 ex2 hF => ?_)
  exact ww_sub [2, 3, 4, 1, 0] rfl (lpc_ind (P := (fun (s : Int32 × Int32) => WW M (gQi M G zM out σ) G zM 5 σ 5 [(0, .ref (G.2.1 0)), (1, .int p1), (2, .int p2), (3, .int s.1), (4, .int s.2)] [])) (fun rec s ih hF => wbX10_rowsOf_5 X σ p1 p2 (fun a3 a4 => rec (a3, a4)) (fun a3 a4 h => ih (a3, a4) h) s.1 s.2 hF) K9 (x1, x2) hF)
set_option maxRecDepth 100000 in
set_option maxHeartbeats 4000000 in
theorem kX10_rowsOf (l : Launch) (G : gG) (hG : gOK G zM.1) (hT : G.2.2.1.map (fun q => q.2) = zM.2.1) (σ : gS) (p1 : Int32) (p2 : Int32) (out : Int32) (hF : fX10_rowsOf σ p1 p2 = some out) : gCi l yX10_rowsOf wsX10_rowsOf rmX10_rowsOf G zM [.ref (G.2.1 0), .int p1, .int p2] σ out σ :=
  gEnter (by decide) rfl ⟨rfl, rfl⟩ hG hT (Nat.le_of_ble_eq_true rfl) rfl (fun M X hl => wX10_rowsOf X σ p1 p2 hF)
noncomputable def fX10_centreOf (σ : gS) (p1 : Int32) : Option (Int32) :=
  gd (gb (12 + p1) 24) <| nm (σ.1 18 (12 + p1).toNatClampNeg) fun v1 => some v1
noncomputable abbrev rmX10_centreOf : Room := { frames := 0, cells := 0, slots := 0, locals := 0 }
set_option maxRecDepth 100000 in
set_option maxHeartbeats 4000000 in
theorem wX10_centreOf {M : gM} {G : gG} {out : Int32} (X : gX M G zM cX10_centreOf RX10 2 wsX10_centreOf rmX10_centreOf (some .int)) (σ : gS) (p1 : Int32) (hF : fX10_centreOf σ p1 = some out) : WW M (gQi M G zM out σ) G zM 2 σ 0 [(0, .ref (G.2.1 0)), (1, .int p1)] [] := by
  unfold fX10_centreOf at hF
  refine ww_aload_n (pc := 0) X (j := 0) dX10_centreOf_0 rfl rfl ?_
  refine ww_get (pc := 1) X (ref := "PictureBlockModel") (T := TX10) (j := 26) dX10_centreOf_1 inX10_centreOf_RX10 shzM_0 clzM_10 (by decide) rfl (List.mem_of_getElem? (i := 1) rfl) rfl ?_
  refine ww_bipush (pc := 4) X (v := 12) dX10_centreOf_4 (by decide) ?_
  refine ww_iload_n (pc := 6) X (j := 1) dX10_centreOf_6 rfl rfl ?_
  refine ww_iadd (pc := 7) X dX10_centreOf_7 ?_
  refine ww_iald (pc := 8) X dX10_centreOf_8 shzM_18 rfl hF (fun v1 ev1 bv1 hF => ?_)
  exact ww_iret (pc := 9) X dX10_centreOf_9 (Option.some.inj hF) rfl
set_option maxRecDepth 100000 in
set_option maxHeartbeats 4000000 in
theorem kX10_centreOf (l : Launch) (G : gG) (hG : gOK G zM.1) (hT : G.2.2.1.map (fun q => q.2) = zM.2.1) (σ : gS) (p1 : Int32) (out : Int32) (hF : fX10_centreOf σ p1 = some out) : gCi l yX10_centreOf wsX10_centreOf rmX10_centreOf G zM [.ref (G.2.1 0), .int p1] σ out σ :=
  gEnter (by decide) rfl ⟨rfl, rfl⟩ hG hT (Nat.le_of_ble_eq_true rfl) rfl (fun M X hl => wX10_centreOf X σ p1 hF)
noncomputable def bX10_joins_26 (σ : gS) (c26_3 : Int32) (c26_4 : Int32) (rec26 : Int32 → gS → Option (Int32 × gS)) (a5 : Int32) (σ1 : gS) : Option (Int32 × gS) :=
  if 32 ≤ a5 then some (1, σ1) else gd (gb a5 32) <| nm (σ1.1 32 a5.toNatClampNeg) fun v8 => (if v8 = c26_4 then gd (gb a5 32) <| nm (gsI σ1 32 a5.toNatClampNeg c26_3) fun σ11 => nm (a5 + 1 : Int32) fun x12 => rec26 x12 σ11 else nm (a5 + 1 : Int32) fun x10 => rec26 x10 σ1)
noncomputable def fX10_joins (σ : gS) (p1 : Int32) (p2 : Int32) : Option (Int32 × gS) :=
  gd (gb p1 32) <| nm (σ.1 32 p1.toNatClampNeg) fun v1 => nm (v1 : Int32) fun x2 => gd (gb p2 32) <| nm (σ.1 32 p2.toNatClampNeg) fun v3 => nm (v3 : Int32) fun x4 => (if x2 = x4 then some (0, σ) else nm (0 : Int32) fun x6 => lpc (S := Int32 × gS) K9 (fun rec s => bX10_joins_26 σ x2 x4 (fun a5 σ1 => rec (a5, σ1)) s.1 s.2) (x6, σ))
noncomputable abbrev rmX10_joins : Room := { frames := 0, cells := 0, slots := 0, locals := 0 }
set_option maxRecDepth 100000 in
set_option maxHeartbeats 4000000 in
theorem wbX10_joins_26 {M : gM} {G : gG} {out : Int32 × gS} (X : gX M G zM cX10_joins RX10 6 wsX10_joins rmX10_joins (some .boolean)) (σ : gS) (c26_3 : Int32) (c26_4 : Int32) (rec26 : Int32 → gS → Option (Int32 × gS)) (ih26 : ∀ (a5 : Int32) (σ1 : gS), rec26 a5 σ1 = some out → WW M (gQi M G zM out.1 out.2) G zM 6 σ1 26 [(0, .ref (G.2.1 0)), (3, .int c26_3), (4, .int c26_4), (5, .int a5)] []) (a5 : Int32) (σ1 : gS) (hF : bX10_joins_26 σ c26_3 c26_4 rec26 a5 σ1 = some out) : WW M (gQi M G zM out.1 out.2) G zM 6 σ1 26 [(0, .ref (G.2.1 0)), (3, .int c26_3), (4, .int c26_4), (5, .int a5)] [] := by
  unfold bX10_joins_26 at hF
  refine ww_iload (pc := 26) X (j := 3) dX10_joins_26 rfl ?_
  refine ww_bipush (pc := 28) X (v := 32) dX10_joins_28 (by decide) ?_
  refine ww_icmp_ge (pc := 30) (tgt := 59) X dX10_joins_30 (by decide) hF (fun h7 hF => ?_) (fun h7 hF => ?_)
  · refine ww_iconst (pc := 59) X (v := 1) dX10_joins_59 (by decide) ?_
    exact ww_zret (pc := 60) X dX10_joins_60 (by cases hF; rfl) (by cases hF; rfl)
  · refine ww_aload_n (pc := 33) X (j := 0) dX10_joins_33 rfl rfl ?_
    refine ww_get (pc := 34) X (ref := "PictureBlockModel") (T := TX10) (j := 45) dX10_joins_34 inX10_joins_RX10 shzM_0 clzM_10 (by decide) rfl (List.mem_of_getElem? (i := 1) rfl) rfl ?_
    refine ww_iload (pc := 37) X (j := 3) dX10_joins_37 rfl ?_
    refine ww_iald (pc := 39) X dX10_joins_39 shzM_32 rfl hF (fun v8 ev8 bv8 hF => ?_)
    refine ww_iload (pc := 40) X (j := 2) dX10_joins_40 rfl ?_
    refine ww_icmp_ne (pc := 42) (tgt := 53) X dX10_joins_42 (by decide) hF (fun h9 hF => ?_) (fun h9 hF => ?_)
    · refine ww_iinc (pc := 53) X (j := 3) (v := 1) (lv' := [(0, .ref (G.2.1 0)), (3, .int c26_3), (4, .int c26_4)]) dX10_joins_53 rfl rfl (by decide) rfl hF (fun x10 ex10 hF => ?_)
      refine ww_goto (pc := 56) X (tgt := 26) dX10_joins_56 (by decide) ?_
      exact ww_sub [1, 2, 3, 0] rfl (ih26 x10 σ1 hF)
    · refine ww_aload_n (pc := 45) X (j := 0) dX10_joins_45 rfl rfl ?_
      refine ww_get (pc := 46) X (ref := "PictureBlockModel") (T := TX10) (j := 45) dX10_joins_46 inX10_joins_RX10 shzM_0 clzM_10 (by decide) rfl (List.mem_of_getElem? (i := 1) rfl) rfl ?_
      refine ww_iload (pc := 49) X (j := 3) dX10_joins_49 rfl ?_
      refine ww_iload_n (pc := 51) X (j := 1) dX10_joins_51 rfl rfl ?_
      refine ww_iast (pc := 52) X dX10_joins_52 shzM_32 rfl hF (fun σ11 eσ11 bσ11 hF => ?_)
      refine ww_iinc (pc := 53) X (j := 3) (v := 1) (lv' := [(0, .ref (G.2.1 0)), (3, .int c26_3), (4, .int c26_4)]) dX10_joins_53 rfl rfl (by decide) rfl hF (fun x12 ex12 hF => ?_)
      refine ww_goto (pc := 56) X (tgt := 26) dX10_joins_56 (by decide) ?_
      exact ww_sub [1, 2, 3, 0] rfl (ih26 x12 σ11 hF)
set_option maxRecDepth 100000 in
set_option maxHeartbeats 4000000 in
theorem wX10_joins {M : gM} {G : gG} {out : Int32 × gS} (X : gX M G zM cX10_joins RX10 6 wsX10_joins rmX10_joins (some .boolean)) (σ : gS) (p1 : Int32) (p2 : Int32) (hF : fX10_joins σ p1 p2 = some out) : WW M (gQi M G zM out.1 out.2) G zM 6 σ 0 [(0, .ref (G.2.1 0)), (1, .int p1), (2, .int p2)] [] := by
  unfold fX10_joins at hF
  refine ww_aload_n (pc := 0) X (j := 0) dX10_joins_0 rfl rfl ?_
  refine ww_get (pc := 1) X (ref := "PictureBlockModel") (T := TX10) (j := 45) dX10_joins_1 inX10_joins_RX10 shzM_0 clzM_10 (by decide) rfl (List.mem_of_getElem? (i := 1) rfl) rfl ?_
  refine ww_iload_n (pc := 4) X (j := 1) dX10_joins_4 rfl rfl ?_
  refine ww_iald (pc := 5) X dX10_joins_5 shzM_32 rfl hF (fun v1 ev1 bv1 hF => ?_)
  refine ww_istore_n (pc := 6) X (lv' := [(0, .ref (G.2.1 0)), (1, .int p1), (2, .int p2)]) dX10_joins_6 rfl (by decide) rfl hF (fun x2 ex2 hF => ?_)
  refine ww_aload_n (pc := 7) X (j := 1) dX10_joins_7 rfl rfl ?_
  refine ww_get (pc := 8) X (ref := "PictureBlockModel") (T := TX10) (j := 45) dX10_joins_8 inX10_joins_RX10 shzM_0 clzM_10 (by decide) rfl (List.mem_of_getElem? (i := 1) rfl) rfl ?_
  refine ww_iload_n (pc := 11) X (j := 3) dX10_joins_11 rfl rfl ?_
  refine ww_iald (pc := 12) X dX10_joins_12 shzM_32 rfl hF (fun v3 ev3 bv3 hF => ?_)
  refine ww_istore (pc := 13) X (lv' := [(3, .int x2), (0, .ref (G.2.1 0)), (1, .int p1), (2, .int p2)]) dX10_joins_13 (by decide) rfl hF (fun x4 ex4 hF => ?_)
  refine ww_iload_n (pc := 15) X (j := 1) dX10_joins_15 rfl rfl ?_
  refine ww_iload (pc := 16) X (j := 0) dX10_joins_16 rfl ?_
  refine ww_icmp_ne (pc := 18) (tgt := 23) X dX10_joins_18 (by decide) hF (fun h5 hF => ?_) (fun h5 hF => ?_)
  · refine ww_iconst (pc := 23) X (v := 0) dX10_joins_23 (by decide) ?_
    refine ww_istore (pc := 24) X (lv' := [(4, .int x4), (3, .int x2), (0, .ref (G.2.1 0)), (1, .int p1), (2, .int p2)]) dX10_joins_24 (by decide) rfl hF (fun x6 ex6 hF => ?_)
    exact ww_sub [3, 2, 1, 0] rfl (lpc_ind (P := (fun (s : Int32 × gS) => WW M (gQi M G zM out.1 out.2) G zM 6 s.2 26 [(0, .ref (G.2.1 0)), (3, .int x2), (4, .int x4), (5, .int s.1)] [])) (fun rec s ih hF => wbX10_joins_26 X σ x2 x4 (fun a5 σ1 => rec (a5, σ1)) (fun a5 σ1 h => ih (a5, σ1) h) s.1 s.2 hF) K9 (x6, σ) hF)
  · refine ww_iconst (pc := 21) X (v := 0) dX10_joins_21 (by decide) ?_
    exact ww_zret (pc := 22) X dX10_joins_22 (by cases hF; rfl) (by cases hF; rfl)
set_option maxRecDepth 100000 in
set_option maxHeartbeats 4000000 in
theorem kX10_joins (l : Launch) (G : gG) (hG : gOK G zM.1) (hT : G.2.2.1.map (fun q => q.2) = zM.2.1) (σ : gS) (p1 : Int32) (p2 : Int32) (out : Int32 × gS) (hF : fX10_joins σ p1 p2 = some out) : gCi l yX10_joins wsX10_joins rmX10_joins G zM [.ref (G.2.1 0), .int p1, .int p2] σ out.1 out.2 :=
  gEnter (by decide) rfl ⟨rfl, rfl⟩ hG hT (Nat.le_of_ble_eq_true rfl) rfl (fun M X hl => wX10_joins X σ p1 p2 hF)
noncomputable def bX10_hangs_82 (σ : gS) (c82_2 : Int32) (rec72 : Int32 → gS → Option (gS)) (rec82 : Int32 → gS → Option (gS)) (a3 : Int32) (σ1 : gS) : Option (gS) :=
  if c82_2 ≤ a3 then nm (c82_2 + 1 : Int32) fun x14 => rec72 x14 σ1 else bd (fX10_centreOf σ1 c82_2) fun r16 => (if r16 ≤ 0 then nm (a3 + 1 : Int32) fun x18 => rec82 x18 σ1 else bd (fX10_centreOf σ1 a3) fun r20 => (if r20 ≤ 0 then nm (a3 + 1 : Int32) fun x22 => rec82 x22 σ1 else bd (fX10_strip σ1 c82_2) fun r24 => bd (fX10_strip σ1 a3) fun r26 => (if r24 = r26 then bd2 (fX10_joins σ1 c82_2 a3) fun r30 σ31 => (if r30 = 0 then nm (a3 + 1 : Int32) fun x33 => rec82 x33 σ31 else nm (1 : Int32) fun x34 => nm (a3 + 1 : Int32) fun x35 => rec82 x35 σ31) else nm (a3 + 1 : Int32) fun x28 => rec82 x28 σ1)))
noncomputable def bX10_hangs_72 (σ : gS) (rec72 : Int32 → gS → Option (gS)) (a2 : Int32) (σ1 : gS) : Option (gS) :=
  bd (fX10_pictures σ1) fun r10 => (if r10 ≤ a2 then some σ1 else nm (0 : Int32) fun x12 => lpc (S := Int32 × gS) K9 (fun rec s => bX10_hangs_82 σ1 a2 rec72 (fun a3 σ1 => rec (a3, σ1)) s.1 s.2) (x12, σ1))
noncomputable def bX10_hangs_25 (σ : gS) (rec25 : Int32 → gS → Option (gS)) (a2 : Int32) (σ1 : gS) : Option (gS) :=
  bd (fX10_rows σ1) fun r6 => (if r6 ≤ a2 then nm (0 : Int32) fun x8 => lpc (S := Int32 × gS) K9 (fun rec s => bX10_hangs_72 σ1 (fun a2 σ1 => rec (a2, σ1)) s.1 s.2) (x8, σ1) else gd (gb a2 60) <| nm (σ1.1 26 a2.toNatClampNeg) fun v36 => (if v36 = 0 then bd (fX10_pictureOf σ1 a2) fun r40 => bd (fX10_pointOf σ1 a2) fun r42 => bd2 (fX10_joins σ1 r40 (12 + r42)) fun r44 σ45 => (if r44 = 0 then nm (a2 + 1 : Int32) fun x47 => rec25 x47 σ45 else nm (1 : Int32) fun x48 => nm (a2 + 1 : Int32) fun x49 => rec25 x49 σ45) else nm (a2 + 1 : Int32) fun x38 => rec25 x38 σ1))
noncomputable def bX10_hangs_2 (σ : gS) (rec2 : Int32 → gS → Option (gS)) (a1 : Int32) (σ1 : gS) : Option (gS) :=
  if 32 ≤ a1 then nm (0 : Int32) fun x3 => nm (0 : Int32) fun x4 => lpc (S := Int32 × gS) K9 (fun rec s => bX10_hangs_25 σ1 (fun a2 σ1 => rec (a2, σ1)) s.1 s.2) (x4, σ1) else gd (gb a1 32) <| nm (gsI σ1 32 a1.toNatClampNeg a1) fun σ50 => nm (a1 + 1 : Int32) fun x51 => rec2 x51 σ50
noncomputable def fX10_hangs (σ : gS) : Option (gS) :=
  nm (0 : Int32) fun x1 => lpc (S := Int32 × gS) K9 (fun rec s => bX10_hangs_2 σ (fun a1 σ1 => rec (a1, σ1)) s.1 s.2) (x1, σ)
noncomputable abbrev rmX10_hangs : Room := { frames := 1, cells := 0, slots := 0, locals := 25 }
set_option maxRecDepth 100000 in
set_option maxHeartbeats 4000000 in
theorem wbX10_hangs_82 {M : gM} {G : gG} {out : gS} (X : gX M G zM cX10_hangs RX10 4 wsX10_hangs rmX10_hangs none) (σ : gS) (c82_2 : Int32) (rec72 : Int32 → gS → Option (gS)) (ih72 : ∀ (a2 : Int32) (σ1 : gS), rec72 a2 σ1 = some out → WW M (gQv M G zM out) G zM 4 σ1 72 [(0, .ref (G.2.1 0)), (2, .int a2)] []) (rec82 : Int32 → gS → Option (gS)) (ih82 : ∀ (a3 : Int32) (σ1 : gS), rec82 a3 σ1 = some out → WW M (gQv M G zM out) G zM 4 σ1 82 [(0, .ref (G.2.1 0)), (2, .int c82_2), (3, .int a3)] []) (a3 : Int32) (σ1 : gS) (hF : bX10_hangs_82 σ c82_2 rec72 rec82 a3 σ1 = some out) : WW M (gQv M G zM out) G zM 4 σ1 82 [(0, .ref (G.2.1 0)), (2, .int c82_2), (3, .int a3)] [] := by
  unfold bX10_hangs_82 at hF
  refine ww_iload_n (pc := 82) X (j := 2) dX10_hangs_82 rfl rfl ?_
  refine ww_iload_n (pc := 83) X (j := 1) dX10_hangs_83 rfl rfl ?_
  refine ww_icmp_ge (pc := 84) (tgt := 133) X dX10_hangs_84 (by decide) hF (fun h13 hF => ?_) (fun h13 hF => ?_)
  · refine ww_iinc (pc := 133) X (j := 1) (v := 1) (lv' := [(0, .ref (G.2.1 0)), (3, .int a3)]) dX10_hangs_133 rfl rfl (by decide) rfl hF (fun x14 ex14 hF => ?_)
    refine ww_goto (pc := 136) X (tgt := 72) dX10_hangs_136 (by decide) ?_
    exact ww_sub [1, 0] rfl (ih72 x14 σ1 hF)
  · refine ww_aload_n (pc := 87) X (j := 0) dX10_hangs_87 rfl rfl ?_
    refine ww_iload_n (pc := 88) X (j := 1) dX10_hangs_88 rfl rfl ?_
    obtain ⟨r16, h15, hF⟩ := bd_some hF
    refine ww_callVi (pc := 89) X (As := [.int c82_2]) (rest := []) dX10_hangs_89 (kX10_centreOf (mL M) G X.2.2.2.2.2.2.1 X.2.2.2.2.2.2.2.1 σ1 c82_2 r16 h15) rfl shzM_0 clzM_10 gX10_hangs_X10_centreOf hyX10_centreOf ⟨rfl, rfl⟩ ⟨Nat.le_of_ble_eq_true rfl, Nat.le_of_ble_eq_true rfl⟩ rfl rfl (Nat.le_of_ble_eq_true rfl) ?_
    refine ww_if_le (pc := 92) (tgt := 127) X dX10_hangs_92 (by decide) hF (fun h17 hF => ?_) (fun h17 hF => ?_)
    · refine ww_iinc (pc := 127) X (j := 2) (v := 1) (lv' := [(0, .ref (G.2.1 0)), (2, .int c82_2)]) dX10_hangs_127 rfl rfl (by decide) rfl hF (fun x18 ex18 hF => ?_)
      refine ww_goto (pc := 130) X (tgt := 82) dX10_hangs_130 (by decide) ?_
      exact ww_sub [1, 2, 0] rfl (ih82 x18 σ1 hF)
    · refine ww_aload_n (pc := 95) X (j := 0) dX10_hangs_95 rfl rfl ?_
      refine ww_iload_n (pc := 96) X (j := 2) dX10_hangs_96 rfl rfl ?_
      obtain ⟨r20, h19, hF⟩ := bd_some hF
      refine ww_callVi (pc := 97) X (As := [.int a3]) (rest := []) dX10_hangs_97 (kX10_centreOf (mL M) G X.2.2.2.2.2.2.1 X.2.2.2.2.2.2.2.1 σ1 a3 r20 h19) rfl shzM_0 clzM_10 gX10_hangs_X10_centreOf hyX10_centreOf ⟨rfl, rfl⟩ ⟨Nat.le_of_ble_eq_true rfl, Nat.le_of_ble_eq_true rfl⟩ rfl rfl (Nat.le_of_ble_eq_true rfl) ?_
      refine ww_if_le (pc := 100) (tgt := 127) X dX10_hangs_100 (by decide) hF (fun h21 hF => ?_) (fun h21 hF => ?_)
      · refine ww_iinc (pc := 127) X (j := 2) (v := 1) (lv' := [(0, .ref (G.2.1 0)), (2, .int c82_2)]) dX10_hangs_127 rfl rfl (by decide) rfl hF (fun x22 ex22 hF => ?_)
        refine ww_goto (pc := 130) X (tgt := 82) dX10_hangs_130 (by decide) ?_
        exact ww_sub [1, 2, 0] rfl (ih82 x22 σ1 hF)
      · refine ww_aload_n (pc := 103) X (j := 0) dX10_hangs_103 rfl rfl ?_
        refine ww_iload_n (pc := 104) X (j := 1) dX10_hangs_104 rfl rfl ?_
        obtain ⟨r24, h23, hF⟩ := bd_some hF
        refine ww_callVi (pc := 105) X (As := [.int c82_2]) (rest := []) dX10_hangs_105 (kX10_strip (mL M) G X.2.2.2.2.2.2.1 X.2.2.2.2.2.2.2.1 σ1 c82_2 r24 h23) rfl shzM_0 clzM_10 gX10_hangs_X10_strip hyX10_strip ⟨rfl, rfl⟩ ⟨Nat.le_of_ble_eq_true rfl, Nat.le_of_ble_eq_true rfl⟩ rfl rfl (Nat.le_of_ble_eq_true rfl) ?_
        refine ww_aload_n (pc := 108) X (j := 0) dX10_hangs_108 rfl rfl ?_
        refine ww_iload_n (pc := 109) X (j := 2) dX10_hangs_109 rfl rfl ?_
        obtain ⟨r26, h25, hF⟩ := bd_some hF
        refine ww_callVi (pc := 110) X (As := [.int a3]) (rest := [.int r24]) dX10_hangs_110 (kX10_strip (mL M) G X.2.2.2.2.2.2.1 X.2.2.2.2.2.2.2.1 σ1 a3 r26 h25) rfl shzM_0 clzM_10 gX10_hangs_X10_strip hyX10_strip ⟨rfl, rfl⟩ ⟨Nat.le_of_ble_eq_true rfl, Nat.le_of_ble_eq_true rfl⟩ rfl rfl (Nat.le_of_ble_eq_true rfl) ?_
        refine ww_icmp_ne (pc := 113) (tgt := 127) X dX10_hangs_113 (by decide) hF (fun h27 hF => ?_) (fun h27 hF => ?_)
        · refine ww_iinc (pc := 127) X (j := 2) (v := 1) (lv' := [(0, .ref (G.2.1 0)), (2, .int c82_2)]) dX10_hangs_127 rfl rfl (by decide) rfl hF (fun x28 ex28 hF => ?_)
          refine ww_goto (pc := 130) X (tgt := 82) dX10_hangs_130 (by decide) ?_
          exact ww_sub [1, 2, 0] rfl (ih82 x28 σ1 hF)
        · refine ww_aload_n (pc := 116) X (j := 0) dX10_hangs_116 rfl rfl ?_
          refine ww_iload_n (pc := 117) X (j := 1) dX10_hangs_117 rfl rfl ?_
          refine ww_iload_n (pc := 118) X (j := 2) dX10_hangs_118 rfl rfl ?_
          obtain ⟨r30, σ31, h29, hF⟩ := bd2_some hF
          refine ww_callVi (pc := 119) X (As := [.int c82_2, .int a3]) (rest := []) dX10_hangs_119 (kX10_joins (mL M) G X.2.2.2.2.2.2.1 X.2.2.2.2.2.2.2.1 σ1 c82_2 a3 (r30, σ31) h29) rfl shzM_0 clzM_10 gX10_hangs_X10_joins hyX10_joins ⟨rfl, rfl⟩ ⟨Nat.le_of_ble_eq_true rfl, Nat.le_of_ble_eq_true rfl⟩ rfl rfl (Nat.le_of_ble_eq_true rfl) ?_
          refine ww_if_eq (pc := 122) (tgt := 127) X dX10_hangs_122 (by decide) hF (fun h32 hF => ?_) (fun h32 hF => ?_)
          · refine ww_iinc (pc := 127) X (j := 2) (v := 1) (lv' := [(0, .ref (G.2.1 0)), (2, .int c82_2)]) dX10_hangs_127 rfl rfl (by decide) rfl hF (fun x33 ex33 hF => ?_)
            refine ww_goto (pc := 130) X (tgt := 82) dX10_hangs_130 (by decide) ?_
            exact ww_sub [1, 2, 0] rfl (ih82 x33 σ31 hF)
          · refine ww_iconst (pc := 125) X (v := 1) dX10_hangs_125 (by decide) ?_
            refine ww_istore_n (pc := 126) X (lv' := [(0, .ref (G.2.1 0)), (2, .int c82_2), (3, .int a3)]) dX10_hangs_126 rfl (by decide) rfl hF (fun x34 ex34 hF => ?_)
            refine ww_iinc (pc := 127) X (j := 3) (v := 1) (lv' := [(1, .int x34), (0, .ref (G.2.1 0)), (2, .int c82_2)]) dX10_hangs_127 rfl rfl (by decide) rfl hF (fun x35 ex35 hF => ?_)
            refine ww_goto (pc := 130) X (tgt := 82) dX10_hangs_130 (by decide) ?_
            exact ww_sub [2, 3, 0] rfl (ih82 x35 σ31 hF)
set_option maxRecDepth 100000 in
set_option maxHeartbeats 4000000 in
theorem wbX10_hangs_72 {M : gM} {G : gG} {out : gS} (X : gX M G zM cX10_hangs RX10 4 wsX10_hangs rmX10_hangs none) (σ : gS) (rec72 : Int32 → gS → Option (gS)) (ih72 : ∀ (a2 : Int32) (σ1 : gS), rec72 a2 σ1 = some out → WW M (gQv M G zM out) G zM 4 σ1 72 [(0, .ref (G.2.1 0)), (2, .int a2)] []) (a2 : Int32) (σ1 : gS) (hF : bX10_hangs_72 σ rec72 a2 σ1 = some out) : WW M (gQv M G zM out) G zM 4 σ1 72 [(0, .ref (G.2.1 0)), (2, .int a2)] [] := by
  unfold bX10_hangs_72 at hF
  refine ww_iload_n (pc := 72) X (j := 1) dX10_hangs_72 rfl rfl ?_
  refine ww_aload_n (pc := 73) X (j := 0) dX10_hangs_73 rfl rfl ?_
  obtain ⟨r10, h9, hF⟩ := bd_some hF
  refine ww_callVi (pc := 74) X (As := []) (rest := [.int a2]) dX10_hangs_74 (kX10_pictures (mL M) G X.2.2.2.2.2.2.1 X.2.2.2.2.2.2.2.1 σ1 r10 h9) rfl shzM_0 clzM_10 gX10_hangs_X10_pictures hyX10_pictures ⟨rfl, rfl⟩ ⟨Nat.le_of_ble_eq_true rfl, Nat.le_of_ble_eq_true rfl⟩ rfl rfl (Nat.le_of_ble_eq_true rfl) ?_
  refine ww_icmp_ge (pc := 77) (tgt := 139) X dX10_hangs_77 (by decide) hF (fun h11 hF => ?_) (fun h11 hF => ?_)
  · exact ww_vret (pc := 139) X dX10_hangs_139 (by cases hF; rfl)
  · refine ww_iconst (pc := 80) X (v := 0) dX10_hangs_80 (by decide) ?_
    refine ww_istore_n (pc := 81) X (lv' := [(0, .ref (G.2.1 0)), (2, .int a2)]) dX10_hangs_81 rfl (by decide) rfl hF (fun x12 ex12 hF => ?_)
    exact ww_sub [1, 2, 0] rfl (lpc_ind (P := (fun (s : Int32 × gS) => WW M (gQv M G zM out) G zM 4 s.2 82 [(0, .ref (G.2.1 0)), (2, .int a2), (3, .int s.1)] [])) (fun rec s ih hF => wbX10_hangs_82 X σ1 a2 rec72  ih72 (fun a3 σ1 => rec (a3, σ1)) (fun a3 σ1 h => ih (a3, σ1) h) s.1 s.2 hF) K9 (x12, σ1) hF)
set_option maxRecDepth 100000 in
set_option maxHeartbeats 4000000 in
theorem wbX10_hangs_25 {M : gM} {G : gG} {out : gS} (X : gX M G zM cX10_hangs RX10 4 wsX10_hangs rmX10_hangs none) (σ : gS) (rec25 : Int32 → gS → Option (gS)) (ih25 : ∀ (a2 : Int32) (σ1 : gS), rec25 a2 σ1 = some out → WW M (gQv M G zM out) G zM 4 σ1 25 [(0, .ref (G.2.1 0)), (2, .int a2)] []) (a2 : Int32) (σ1 : gS) (hF : bX10_hangs_25 σ rec25 a2 σ1 = some out) : WW M (gQv M G zM out) G zM 4 σ1 25 [(0, .ref (G.2.1 0)), (2, .int a2)] [] := by
  unfold bX10_hangs_25 at hF
  refine ww_iload_n (pc := 25) X (j := 1) dX10_hangs_25 rfl rfl ?_
  refine ww_aload_n (pc := 26) X (j := 0) dX10_hangs_26 rfl rfl ?_
  obtain ⟨r6, h5, hF⟩ := bd_some hF
  refine ww_callVi (pc := 27) X (As := []) (rest := [.int a2]) dX10_hangs_27 (kX10_rows (mL M) G X.2.2.2.2.2.2.1 X.2.2.2.2.2.2.2.1 σ1 r6 h5) rfl shzM_0 clzM_10 gX10_hangs_X10_rows hyX10_rows ⟨rfl, rfl⟩ ⟨Nat.le_of_ble_eq_true rfl, Nat.le_of_ble_eq_true rfl⟩ rfl rfl (Nat.le_of_ble_eq_true rfl) ?_
  refine ww_icmp_ge (pc := 30) (tgt := 70) X dX10_hangs_30 (by decide) hF (fun h7 hF => ?_) (fun h7 hF => ?_)
  · refine ww_iconst (pc := 70) X (v := 0) dX10_hangs_70 (by decide) ?_
    refine ww_istore_n (pc := 71) X (lv' := [(0, .ref (G.2.1 0))]) dX10_hangs_71 rfl (by decide) rfl hF (fun x8 ex8 hF => ?_)
    exact ww_sub [1, 0] rfl (lpc_ind (P := (fun (s : Int32 × gS) => WW M (gQv M G zM out) G zM 4 s.2 72 [(0, .ref (G.2.1 0)), (2, .int s.1)] [])) (fun rec s ih hF => wbX10_hangs_72 X σ1 (fun a2 σ1 => rec (a2, σ1)) (fun a2 σ1 h => ih (a2, σ1) h) s.1 s.2 hF) K9 (x8, σ1) hF)
  · refine ww_aload_n (pc := 33) X (j := 0) dX10_hangs_33 rfl rfl ?_
    refine ww_get (pc := 34) X (ref := "PictureBlockModel") (T := TX10) (j := 35) dX10_hangs_34 inX10_hangs_RX10 shzM_0 clzM_10 (by decide) rfl (List.mem_of_getElem? (i := 2) rfl) rfl ?_
    refine ww_iload_n (pc := 37) X (j := 1) dX10_hangs_37 rfl rfl ?_
    refine ww_zald (pc := 38) X dX10_hangs_38 shzM_26 rfl hF (fun v36 ev36 bv36 hF => ?_)
    refine ww_if_ne (pc := 39) (tgt := 64) X dX10_hangs_39 (by decide) hF (fun h37 hF => ?_) (fun h37 hF => ?_)
    · refine ww_iinc (pc := 64) X (j := 1) (v := 1) (lv' := [(0, .ref (G.2.1 0))]) dX10_hangs_64 rfl rfl (by decide) rfl hF (fun x38 ex38 hF => ?_)
      refine ww_goto (pc := 67) X (tgt := 25) dX10_hangs_67 (by decide) ?_
      exact ww_sub [1, 0] rfl (ih25 x38 σ1 hF)
    · refine ww_aload_n (pc := 42) X (j := 0) dX10_hangs_42 rfl rfl ?_
      refine ww_aload_n (pc := 43) X (j := 0) dX10_hangs_43 rfl rfl ?_
      refine ww_iload_n (pc := 44) X (j := 1) dX10_hangs_44 rfl rfl ?_
      obtain ⟨r40, h39, hF⟩ := bd_some hF
      refine ww_callVi (pc := 45) X (As := [.int a2]) (rest := [.ref (G.2.1 0)]) dX10_hangs_45 (kX10_pictureOf (mL M) G X.2.2.2.2.2.2.1 X.2.2.2.2.2.2.2.1 σ1 a2 r40 h39) rfl shzM_0 clzM_10 gX10_hangs_X10_pictureOf hyX10_pictureOf ⟨rfl, rfl⟩ ⟨Nat.le_of_ble_eq_true rfl, Nat.le_of_ble_eq_true rfl⟩ rfl rfl (Nat.le_of_ble_eq_true rfl) ?_
      refine ww_bipush (pc := 48) X (v := 12) dX10_hangs_48 (by decide) ?_
      refine ww_aload_n (pc := 50) X (j := 0) dX10_hangs_50 rfl rfl ?_
      refine ww_iload_n (pc := 51) X (j := 1) dX10_hangs_51 rfl rfl ?_
      obtain ⟨r42, h41, hF⟩ := bd_some hF
      refine ww_callVi (pc := 52) X (As := [.int a2]) (rest := [.int 12, .int r40, .ref (G.2.1 0)]) dX10_hangs_52 (kX10_pointOf (mL M) G X.2.2.2.2.2.2.1 X.2.2.2.2.2.2.2.1 σ1 a2 r42 h41) rfl shzM_0 clzM_10 gX10_hangs_X10_pointOf hyX10_pointOf ⟨rfl, rfl⟩ ⟨Nat.le_of_ble_eq_true rfl, Nat.le_of_ble_eq_true rfl⟩ rfl rfl (Nat.le_of_ble_eq_true rfl) ?_
      refine ww_iadd (pc := 55) X dX10_hangs_55 ?_
      obtain ⟨r44, σ45, h43, hF⟩ := bd2_some hF
      refine ww_callVi (pc := 56) X (As := [.int r40, .int (12 + r42)]) (rest := []) dX10_hangs_56 (kX10_joins (mL M) G X.2.2.2.2.2.2.1 X.2.2.2.2.2.2.2.1 σ1 r40 (12 + r42) (r44, σ45) h43) rfl shzM_0 clzM_10 gX10_hangs_X10_joins hyX10_joins ⟨rfl, rfl⟩ ⟨Nat.le_of_ble_eq_true rfl, Nat.le_of_ble_eq_true rfl⟩ rfl rfl (Nat.le_of_ble_eq_true rfl) ?_
      refine ww_if_eq (pc := 59) (tgt := 64) X dX10_hangs_59 (by decide) hF (fun h46 hF => ?_) (fun h46 hF => ?_)
      · refine ww_iinc (pc := 64) X (j := 1) (v := 1) (lv' := [(0, .ref (G.2.1 0))]) dX10_hangs_64 rfl rfl (by decide) rfl hF (fun x47 ex47 hF => ?_)
        refine ww_goto (pc := 67) X (tgt := 25) dX10_hangs_67 (by decide) ?_
        exact ww_sub [1, 0] rfl (ih25 x47 σ45 hF)
      · refine ww_iconst (pc := 62) X (v := 1) dX10_hangs_62 (by decide) ?_
        refine ww_istore_n (pc := 63) X (lv' := [(0, .ref (G.2.1 0)), (2, .int a2)]) dX10_hangs_63 rfl (by decide) rfl hF (fun x48 ex48 hF => ?_)
        refine ww_iinc (pc := 64) X (j := 2) (v := 1) (lv' := [(1, .int x48), (0, .ref (G.2.1 0))]) dX10_hangs_64 rfl rfl (by decide) rfl hF (fun x49 ex49 hF => ?_)
        refine ww_goto (pc := 67) X (tgt := 25) dX10_hangs_67 (by decide) ?_
        exact ww_sub [2, 0] rfl (ih25 x49 σ45 hF)
set_option maxRecDepth 100000 in
set_option maxHeartbeats 4000000 in
theorem wbX10_hangs_2 {M : gM} {G : gG} {out : gS} (X : gX M G zM cX10_hangs RX10 4 wsX10_hangs rmX10_hangs none) (σ : gS) (rec2 : Int32 → gS → Option (gS)) (ih2 : ∀ (a1 : Int32) (σ1 : gS), rec2 a1 σ1 = some out → WW M (gQv M G zM out) G zM 4 σ1 2 [(0, .ref (G.2.1 0)), (1, .int a1)] []) (a1 : Int32) (σ1 : gS) (hF : bX10_hangs_2 σ rec2 a1 σ1 = some out) : WW M (gQv M G zM out) G zM 4 σ1 2 [(0, .ref (G.2.1 0)), (1, .int a1)] [] := by
  unfold bX10_hangs_2 at hF
  refine ww_iload_n (pc := 2) X (j := 1) dX10_hangs_2 rfl rfl ?_
  refine ww_bipush (pc := 3) X (v := 32) dX10_hangs_3 (by decide) ?_
  refine ww_icmp_ge (pc := 5) (tgt := 21) X dX10_hangs_5 (by decide) hF (fun h2 hF => ?_) (fun h2 hF => ?_)
  · refine ww_iconst (pc := 21) X (v := 0) dX10_hangs_21 (by decide) ?_
    refine ww_istore_n (pc := 22) X (lv' := [(0, .ref (G.2.1 0))]) dX10_hangs_22 rfl (by decide) rfl hF (fun x3 ex3 hF => ?_)
    refine ww_iconst (pc := 23) X (v := 0) dX10_hangs_23 (by decide) ?_
    refine ww_istore_n (pc := 24) X (lv' := [(1, .int x3), (0, .ref (G.2.1 0))]) dX10_hangs_24 rfl (by decide) rfl hF (fun x4 ex4 hF => ?_)
    exact ww_sub [2, 0] rfl (lpc_ind (P := (fun (s : Int32 × gS) => WW M (gQv M G zM out) G zM 4 s.2 25 [(0, .ref (G.2.1 0)), (2, .int s.1)] [])) (fun rec s ih hF => wbX10_hangs_25 X σ1 (fun a2 σ1 => rec (a2, σ1)) (fun a2 σ1 h => ih (a2, σ1) h) s.1 s.2 hF) K9 (x4, σ1) hF)
  · refine ww_aload_n (pc := 8) X (j := 0) dX10_hangs_8 rfl rfl ?_
    refine ww_get (pc := 9) X (ref := "PictureBlockModel") (T := TX10) (j := 45) dX10_hangs_9 inX10_hangs_RX10 shzM_0 clzM_10 (by decide) rfl (List.mem_of_getElem? (i := 1) rfl) rfl ?_
    refine ww_iload_n (pc := 12) X (j := 1) dX10_hangs_12 rfl rfl ?_
    refine ww_iload_n (pc := 13) X (j := 1) dX10_hangs_13 rfl rfl ?_
    refine ww_iast (pc := 14) X dX10_hangs_14 shzM_32 rfl hF (fun σ50 eσ50 bσ50 hF => ?_)
    refine ww_iinc (pc := 15) X (j := 1) (v := 1) (lv' := [(0, .ref (G.2.1 0))]) dX10_hangs_15 rfl rfl (by decide) rfl hF (fun x51 ex51 hF => ?_)
    refine ww_goto (pc := 18) X (tgt := 2) dX10_hangs_18 (by decide) ?_
    exact ww_sub [1, 0] rfl (ih2 x51 σ50 hF)
set_option maxRecDepth 100000 in
set_option maxHeartbeats 4000000 in
theorem wX10_hangs {M : gM} {G : gG} {out : gS} (X : gX M G zM cX10_hangs RX10 4 wsX10_hangs rmX10_hangs none) (σ : gS) (hF : fX10_hangs σ = some out) : WW M (gQv M G zM out) G zM 4 σ 0 [(0, .ref (G.2.1 0))] [] := by
  unfold fX10_hangs at hF
  refine ww_iconst (pc := 0) X (v := 0) dX10_hangs_0 (by decide) ?_
  refine ww_istore_n (pc := 1) X (lv' := [(0, .ref (G.2.1 0))]) dX10_hangs_1 rfl (by decide) rfl hF (fun x1 ex1 hF => ?_)
  exact ww_sub [1, 0] rfl (lpc_ind (P := (fun (s : Int32 × gS) => WW M (gQv M G zM out) G zM 4 s.2 2 [(0, .ref (G.2.1 0)), (1, .int s.1)] [])) (fun rec s ih hF => wbX10_hangs_2 X σ (fun a1 σ1 => rec (a1, σ1)) (fun a1 σ1 h => ih (a1, σ1) h) s.1 s.2 hF) K9 (x1, σ) hF)
set_option maxRecDepth 100000 in
set_option maxHeartbeats 4000000 in
theorem kX10_hangs (l : Launch) (G : gG) (hG : gOK G zM.1) (hT : G.2.2.1.map (fun q => q.2) = zM.2.1) (σ : gS) (out : gS) (hF : fX10_hangs σ = some out) : gCv l yX10_hangs wsX10_hangs rmX10_hangs G zM [.ref (G.2.1 0)] σ out :=
  gEnter (by decide) rfl ⟨rfl, rfl⟩ hG hT (Nat.le_of_ble_eq_true rfl) rfl (fun M X hl => wX10_hangs X σ hF)
noncomputable def bX10_isLoose_2 (σ : gS) (c2_1 : Int32) (rec2 : Int32 → Option (Int32)) (a2 : Int32) : Option (Int32) :=
  bd (fX10_points σ) fun r3 => (if r3 ≤ a2 then some 1 else bd (fX10_isControl σ a2) fun r6 => (if r6 = 0 then nm (a2 + 1 : Int32) fun x8 => rec2 x8 else gd (gb (12 + a2) 32) <| nm (σ.1 32 (12 + a2).toNatClampNeg) fun v9 => gd (gb c2_1 32) <| nm (σ.1 32 c2_1.toNatClampNeg) fun v10 => (if v9 = v10 then some 0 else nm (a2 + 1 : Int32) fun x12 => rec2 x12)))
noncomputable def fX10_isLoose (σ : gS) (p1 : Int32) : Option (Int32) :=
  nm (0 : Int32) fun x1 => lpc (S := Int32) K9 (fun rec s => bX10_isLoose_2 σ p1 (fun a2 => rec (a2)) s) (x1)
noncomputable abbrev rmX10_isLoose : Room := { frames := 1, cells := 0, slots := 0, locals := 22 }
set_option maxRecDepth 100000 in
set_option maxHeartbeats 4000000 in
theorem wbX10_isLoose_2 {M : gM} {G : gG} {out : Int32} (X : gX M G zM cX10_isLoose RX10 3 wsX10_isLoose rmX10_isLoose (some .boolean)) (σ : gS) (c2_1 : Int32) (rec2 : Int32 → Option (Int32)) (ih2 : ∀ (a2 : Int32), rec2 a2 = some out → WW M (gQi M G zM out σ) G zM 3 σ 2 [(0, .ref (G.2.1 0)), (1, .int c2_1), (2, .int a2)] []) (a2 : Int32) (hF : bX10_isLoose_2 σ c2_1 rec2 a2 = some out) : WW M (gQi M G zM out σ) G zM 3 σ 2 [(0, .ref (G.2.1 0)), (1, .int c2_1), (2, .int a2)] [] := by
  unfold bX10_isLoose_2 at hF
  refine ww_iload_n (pc := 2) X (j := 2) dX10_isLoose_2 rfl rfl ?_
  refine ww_aload_n (pc := 3) X (j := 0) dX10_isLoose_3 rfl rfl ?_
  obtain ⟨r3, h2, hF⟩ := bd_some hF
  refine ww_callVi (pc := 4) X (As := []) (rest := [.int a2]) dX10_isLoose_4 (kX10_points (mL M) G X.2.2.2.2.2.2.1 X.2.2.2.2.2.2.2.1 σ r3 h2) rfl shzM_0 clzM_10 gX10_isLoose_X10_points hyX10_points ⟨rfl, rfl⟩ ⟨Nat.le_of_ble_eq_true rfl, Nat.le_of_ble_eq_true rfl⟩ rfl rfl (Nat.le_of_ble_eq_true rfl) ?_
  refine ww_icmp_ge (pc := 7) (tgt := 44) X dX10_isLoose_7 (by decide) hF (fun h4 hF => ?_) (fun h4 hF => ?_)
  · refine ww_iconst (pc := 44) X (v := 1) dX10_isLoose_44 (by decide) ?_
    exact ww_zret (pc := 45) X dX10_isLoose_45 (by cases hF; rfl) rfl
  · refine ww_aload_n (pc := 10) X (j := 0) dX10_isLoose_10 rfl rfl ?_
    refine ww_iload_n (pc := 11) X (j := 2) dX10_isLoose_11 rfl rfl ?_
    obtain ⟨r6, h5, hF⟩ := bd_some hF
    refine ww_callVi (pc := 12) X (As := [.int a2]) (rest := []) dX10_isLoose_12 (kX10_isControl (mL M) G X.2.2.2.2.2.2.1 X.2.2.2.2.2.2.2.1 σ a2 r6 h5) rfl shzM_0 clzM_10 gX10_isLoose_X10_isControl hyX10_isControl ⟨rfl, rfl⟩ ⟨Nat.le_of_ble_eq_true rfl, Nat.le_of_ble_eq_true rfl⟩ rfl rfl (Nat.le_of_ble_eq_true rfl) ?_
    refine ww_if_eq (pc := 15) (tgt := 38) X dX10_isLoose_15 (by decide) hF (fun h7 hF => ?_) (fun h7 hF => ?_)
    · refine ww_iinc (pc := 38) X (j := 2) (v := 1) (lv' := [(0, .ref (G.2.1 0)), (1, .int c2_1)]) dX10_isLoose_38 rfl rfl (by decide) rfl hF (fun x8 ex8 hF => ?_)
      refine ww_goto (pc := 41) X (tgt := 2) dX10_isLoose_41 (by decide) ?_
      exact ww_sub [1, 2, 0] rfl (ih2 x8 hF)
    · refine ww_aload_n (pc := 18) X (j := 0) dX10_isLoose_18 rfl rfl ?_
      refine ww_get (pc := 19) X (ref := "PictureBlockModel") (T := TX10) (j := 45) dX10_isLoose_19 inX10_isLoose_RX10 shzM_0 clzM_10 (by decide) rfl (List.mem_of_getElem? (i := 1) rfl) rfl ?_
      refine ww_bipush (pc := 22) X (v := 12) dX10_isLoose_22 (by decide) ?_
      refine ww_iload_n (pc := 24) X (j := 2) dX10_isLoose_24 rfl rfl ?_
      refine ww_iadd (pc := 25) X dX10_isLoose_25 ?_
      refine ww_iald (pc := 26) X dX10_isLoose_26 shzM_32 rfl hF (fun v9 ev9 bv9 hF => ?_)
      refine ww_aload_n (pc := 27) X (j := 0) dX10_isLoose_27 rfl rfl ?_
      refine ww_get (pc := 28) X (ref := "PictureBlockModel") (T := TX10) (j := 45) dX10_isLoose_28 inX10_isLoose_RX10 shzM_0 clzM_10 (by decide) rfl (List.mem_of_getElem? (i := 1) rfl) rfl ?_
      refine ww_iload_n (pc := 31) X (j := 1) dX10_isLoose_31 rfl rfl ?_
      refine ww_iald (pc := 32) X dX10_isLoose_32 shzM_32 rfl hF (fun v10 ev10 bv10 hF => ?_)
      refine ww_icmp_ne (pc := 33) (tgt := 38) X dX10_isLoose_33 (by decide) hF (fun h11 hF => ?_) (fun h11 hF => ?_)
      · refine ww_iinc (pc := 38) X (j := 2) (v := 1) (lv' := [(0, .ref (G.2.1 0)), (1, .int c2_1)]) dX10_isLoose_38 rfl rfl (by decide) rfl hF (fun x12 ex12 hF => ?_)
        refine ww_goto (pc := 41) X (tgt := 2) dX10_isLoose_41 (by decide) ?_
        exact ww_sub [1, 2, 0] rfl (ih2 x12 hF)
      · refine ww_iconst (pc := 36) X (v := 0) dX10_isLoose_36 (by decide) ?_
        exact ww_zret (pc := 37) X dX10_isLoose_37 (by cases hF; rfl) rfl
set_option maxRecDepth 100000 in
set_option maxHeartbeats 4000000 in
theorem wX10_isLoose {M : gM} {G : gG} {out : Int32} (X : gX M G zM cX10_isLoose RX10 3 wsX10_isLoose rmX10_isLoose (some .boolean)) (σ : gS) (p1 : Int32) (hF : fX10_isLoose σ p1 = some out) : WW M (gQi M G zM out σ) G zM 3 σ 0 [(0, .ref (G.2.1 0)), (1, .int p1)] [] := by
  unfold fX10_isLoose at hF
  refine ww_iconst (pc := 0) X (v := 0) dX10_isLoose_0 (by decide) ?_
  refine ww_istore_n (pc := 1) X (lv' := [(0, .ref (G.2.1 0)), (1, .int p1)]) dX10_isLoose_1 rfl (by decide) rfl hF (fun x1 ex1 hF => ?_)
  exact ww_sub [1, 2, 0] rfl (lpc_ind (P := (fun (s : Int32) => WW M (gQi M G zM out σ) G zM 3 σ 2 [(0, .ref (G.2.1 0)), (1, .int p1), (2, .int s)] [])) (fun rec s ih hF => wbX10_isLoose_2 X σ p1 (fun a2 => rec (a2)) (fun a2 h => ih (a2) h) s hF) K9 (x1) hF)
set_option maxRecDepth 100000 in
set_option maxHeartbeats 4000000 in
theorem kX10_isLoose (l : Launch) (G : gG) (hG : gOK G zM.1) (hT : G.2.2.1.map (fun q => q.2) = zM.2.1) (σ : gS) (p1 : Int32) (out : Int32) (hF : fX10_isLoose σ p1 = some out) : gCi l yX10_isLoose wsX10_isLoose rmX10_isLoose G zM [.ref (G.2.1 0), .int p1] σ out σ :=
  gEnter (by decide) rfl ⟨rfl, rfl⟩ hG hT (Nat.le_of_ble_eq_true rfl) rfl (fun M X hl => wX10_isLoose X σ p1 hF)
noncomputable def fX10_picture (σ : gS) (p1 : Int32) (p2 : Int32) : Option (Int32 × gS) :=
  bd (fX10_isPicture σ p1) fun r2 => (if r2 = 0 then some ((-1000000000), σ) else if p2 = 0 then bd (fX10_strip σ p1) fun r5 => some (r5, σ) else if p2 = 1 then gd (gb p1 12) <| nm (σ.1 27 p1.toNatClampNeg) fun v7 => some (v7, σ) else if p2 = 2 then gd (gb (12 + p1) 24) <| nm (σ.1 17 (12 + p1).toNatClampNeg) fun v9 => (if v9 = 4 then some (1, σ) else some (0, σ)) else if p2 = 3 then gd (gb p1 76) <| nm (σ.1 28 p1.toNatClampNeg) fun v12 => some (v12, σ) else if p2 = 4 then gd (gb (38 + p1) 76) <| nm (σ.1 28 (38 + p1).toNatClampNeg) fun v14 => some (v14, σ) else if p2 = 5 then bd (fX10_rowsOf σ p1 ((-1))) fun r17 => some (r17, σ) else if p2 = 6 then bd (fX10_hangs σ) fun σ20 => bd (fX10_isLoose σ20 p1) fun r22 => (if r22 = 0 then some (0, σ20) else some (1, σ20)) else if p2 = 7 then bd (fX10_centreOf σ p1) fun r26 => (if r26 ≤ 0 then some (0, σ) else some (1, σ)) else some ((-1000000000), σ))
noncomputable abbrev rmX10_picture : Room := { frames := 2, cells := 0, slots := 0, locals := 48 }
set_option maxRecDepth 100000 in
set_option maxHeartbeats 4000000 in
theorem wX10_picture {M : gM} {G : gG} {out : Int32 × gS} (X : gX M G zM cX10_picture RX10 3 wsX10_picture rmX10_picture (some .int)) (σ : gS) (p1 : Int32) (p2 : Int32) (hF : fX10_picture σ p1 p2 = some out) : WW M (gQi M G zM out.1 out.2) G zM 3 σ 0 [(0, .ref (G.2.1 0)), (1, .int p1), (2, .int p2)] [] := by
  unfold fX10_picture at hF
  refine ww_aload_n (pc := 0) X (j := 0) dX10_picture_0 rfl rfl ?_
  refine ww_iload_n (pc := 1) X (j := 1) dX10_picture_1 rfl rfl ?_
  obtain ⟨r2, h1, hF⟩ := bd_some hF
  refine ww_callVi (pc := 2) X (As := [.int p1]) (rest := []) dX10_picture_2 (kX10_isPicture (mL M) G X.2.2.2.2.2.2.1 X.2.2.2.2.2.2.2.1 σ p1 r2 h1) rfl shzM_0 clzM_10 gX10_picture_X10_isPicture hyX10_isPicture ⟨rfl, rfl⟩ ⟨Nat.le_of_ble_eq_true rfl, Nat.le_of_ble_eq_true rfl⟩ rfl rfl (Nat.le_of_ble_eq_true rfl) ?_
  refine ww_if_ne (pc := 5) (tgt := 12) X dX10_picture_5 (by decide) hF (fun h3 hF => ?_) (fun h3 hF => ?_)
  · refine ww_iload_n (pc := 12) X (j := 2) dX10_picture_12 rfl rfl ?_
    refine ww_case (v := 0) hF (fun h6 hF => ?_) (fun h6 hF => ?_)
    · refine ww_tin (pc := 13) X (off := 47) (tgt := 60) dX10_picture_13 (by decide) (by decide) (by decide) (by decide) ?_
      refine ww_aload_n (pc := 60) X (j := 0) dX10_picture_60 rfl rfl ?_
      refine ww_iload_n (pc := 61) X (j := 1) dX10_picture_61 rfl rfl ?_
      obtain ⟨r5, h4, hF⟩ := bd_some hF
      refine ww_callVi (pc := 62) X (As := [.int p1]) (rest := []) dX10_picture_62 (kX10_strip (mL M) G X.2.2.2.2.2.2.1 X.2.2.2.2.2.2.2.1 σ p1 r5 h4) rfl shzM_0 clzM_10 gX10_picture_X10_strip hyX10_strip ⟨rfl, rfl⟩ ⟨Nat.le_of_ble_eq_true rfl, Nat.le_of_ble_eq_true rfl⟩ rfl rfl (Nat.le_of_ble_eq_true rfl) ?_
      exact ww_iret (pc := 65) X dX10_picture_65 (fst_of hF) (snd_of hF)
    refine ww_case (v := 1) hF (fun h8 hF => ?_) (fun h8 hF => ?_)
    · refine ww_tin (pc := 13) X (off := 53) (tgt := 66) dX10_picture_13 (by decide) (by decide) (by decide) (by decide) ?_
      refine ww_aload_n (pc := 66) X (j := 0) dX10_picture_66 rfl rfl ?_
      refine ww_get (pc := 67) X (ref := "PictureBlockModel") (T := TX10) (j := 37) dX10_picture_67 inX10_picture_RX10 shzM_0 clzM_10 (by decide) rfl (List.mem_of_getElem? (i := 2) rfl) rfl ?_
      refine ww_iload_n (pc := 70) X (j := 1) dX10_picture_70 rfl rfl ?_
      refine ww_iald (pc := 71) X dX10_picture_71 shzM_27 rfl hF (fun v7 ev7 bv7 hF => ?_)
      exact ww_iret (pc := 72) X dX10_picture_72 (fst_of hF) (snd_of hF)
    refine ww_case (v := 2) hF (fun h11 hF => ?_) (fun h11 hF => ?_)
    · refine ww_tin (pc := 13) X (off := 60) (tgt := 73) dX10_picture_13 (by decide) (by decide) (by decide) (by decide) ?_
      refine ww_aload_n (pc := 73) X (j := 0) dX10_picture_73 rfl rfl ?_
      refine ww_get (pc := 74) X (ref := "PictureBlockModel") (T := TX10) (j := 25) dX10_picture_74 inX10_picture_RX10 shzM_0 clzM_10 (by decide) rfl (List.mem_of_getElem? (i := 3) rfl) rfl ?_
      refine ww_bipush (pc := 77) X (v := 12) dX10_picture_77 (by decide) ?_
      refine ww_iload_n (pc := 79) X (j := 1) dX10_picture_79 rfl rfl ?_
      refine ww_iadd (pc := 80) X dX10_picture_80 ?_
      refine ww_iald (pc := 81) X dX10_picture_81 shzM_17 rfl hF (fun v9 ev9 bv9 hF => ?_)
      refine ww_iconst (pc := 82) X (v := 4) dX10_picture_82 (by decide) ?_
      refine ww_icmp_ne (pc := 83) (tgt := 90) X dX10_picture_83 (by decide) hF (fun h10 hF => ?_) (fun h10 hF => ?_)
      · refine ww_iconst (pc := 90) X (v := 0) dX10_picture_90 (by decide) ?_
        exact ww_iret (pc := 91) X dX10_picture_91 (fst_of hF) (snd_of hF)
      · refine ww_iconst (pc := 86) X (v := 1) dX10_picture_86 (by decide) ?_
        refine ww_goto (pc := 87) X (tgt := 91) dX10_picture_87 (by decide) ?_
        exact ww_iret (pc := 91) X dX10_picture_91 (fst_of hF) (snd_of hF)
    refine ww_case (v := 3) hF (fun h13 hF => ?_) (fun h13 hF => ?_)
    · refine ww_tin (pc := 13) X (off := 79) (tgt := 92) dX10_picture_13 (by decide) (by decide) (by decide) (by decide) ?_
      refine ww_aload_n (pc := 92) X (j := 0) dX10_picture_92 rfl rfl ?_
      refine ww_get (pc := 93) X (ref := "PictureBlockModel") (T := TX10) (j := 38) dX10_picture_93 inX10_picture_RX10 shzM_0 clzM_10 (by decide) rfl (List.mem_of_getElem? (i := 4) rfl) rfl ?_
      refine ww_iload_n (pc := 96) X (j := 1) dX10_picture_96 rfl rfl ?_
      refine ww_iald (pc := 97) X dX10_picture_97 shzM_28 rfl hF (fun v12 ev12 bv12 hF => ?_)
      exact ww_iret (pc := 98) X dX10_picture_98 (fst_of hF) (snd_of hF)
    refine ww_case (v := 4) hF (fun h15 hF => ?_) (fun h15 hF => ?_)
    · refine ww_tin (pc := 13) X (off := 86) (tgt := 99) dX10_picture_13 (by decide) (by decide) (by decide) (by decide) ?_
      refine ww_aload_n (pc := 99) X (j := 0) dX10_picture_99 rfl rfl ?_
      refine ww_get (pc := 100) X (ref := "PictureBlockModel") (T := TX10) (j := 38) dX10_picture_100 inX10_picture_RX10 shzM_0 clzM_10 (by decide) rfl (List.mem_of_getElem? (i := 4) rfl) rfl ?_
      refine ww_bipush (pc := 103) X (v := 38) dX10_picture_103 (by decide) ?_
      refine ww_iload_n (pc := 105) X (j := 1) dX10_picture_105 rfl rfl ?_
      refine ww_iadd (pc := 106) X dX10_picture_106 ?_
      refine ww_iald (pc := 107) X dX10_picture_107 shzM_28 rfl hF (fun v14 ev14 bv14 hF => ?_)
      exact ww_iret (pc := 108) X dX10_picture_108 (fst_of hF) (snd_of hF)
    refine ww_case (v := 5) hF (fun h18 hF => ?_) (fun h18 hF => ?_)
    · refine ww_tin (pc := 13) X (off := 96) (tgt := 109) dX10_picture_13 (by decide) (by decide) (by decide) (by decide) ?_
      refine ww_aload_n (pc := 109) X (j := 0) dX10_picture_109 rfl rfl ?_
      refine ww_iload_n (pc := 110) X (j := 1) dX10_picture_110 rfl rfl ?_
      refine ww_iconst (pc := 111) X (v := (-1)) dX10_picture_111 (by decide) ?_
      obtain ⟨r17, h16, hF⟩ := bd_some hF
      refine ww_callVi (pc := 112) X (As := [.int p1, .int ((-1))]) (rest := []) dX10_picture_112 (kX10_rowsOf (mL M) G X.2.2.2.2.2.2.1 X.2.2.2.2.2.2.2.1 σ p1 ((-1)) r17 h16) rfl shzM_0 clzM_10 gX10_picture_X10_rowsOf hyX10_rowsOf ⟨rfl, rfl⟩ ⟨Nat.le_of_ble_eq_true rfl, Nat.le_of_ble_eq_true rfl⟩ rfl rfl (Nat.le_of_ble_eq_true rfl) ?_
      exact ww_iret (pc := 115) X dX10_picture_115 (fst_of hF) (snd_of hF)
    refine ww_case (v := 6) hF (fun h24 hF => ?_) (fun h24 hF => ?_)
    · refine ww_tin (pc := 13) X (off := 103) (tgt := 116) dX10_picture_13 (by decide) (by decide) (by decide) (by decide) ?_
      refine ww_aload_n (pc := 116) X (j := 0) dX10_picture_116 rfl rfl ?_
      obtain ⟨σ20, h19, hF⟩ := bd_some hF
      refine ww_callVv (pc := 117) X (As := []) (rest := []) dX10_picture_117 (kX10_hangs (mL M) G X.2.2.2.2.2.2.1 X.2.2.2.2.2.2.2.1 σ σ20 h19) rfl shzM_0 clzM_10 gX10_picture_X10_hangs hyX10_hangs ⟨rfl, rfl⟩ ⟨Nat.le_of_ble_eq_true rfl, Nat.le_of_ble_eq_true rfl⟩ rfl rfl (Nat.le_of_ble_eq_true rfl) ?_
      refine ww_aload_n (pc := 120) X (j := 0) dX10_picture_120 rfl rfl ?_
      refine ww_iload_n (pc := 121) X (j := 1) dX10_picture_121 rfl rfl ?_
      obtain ⟨r22, h21, hF⟩ := bd_some hF
      refine ww_callVi (pc := 122) X (As := [.int p1]) (rest := []) dX10_picture_122 (kX10_isLoose (mL M) G X.2.2.2.2.2.2.1 X.2.2.2.2.2.2.2.1 σ20 p1 r22 h21) rfl shzM_0 clzM_10 gX10_picture_X10_isLoose hyX10_isLoose ⟨rfl, rfl⟩ ⟨Nat.le_of_ble_eq_true rfl, Nat.le_of_ble_eq_true rfl⟩ rfl rfl (Nat.le_of_ble_eq_true rfl) ?_
      refine ww_if_eq (pc := 125) (tgt := 132) X dX10_picture_125 (by decide) hF (fun h23 hF => ?_) (fun h23 hF => ?_)
      · refine ww_iconst (pc := 132) X (v := 0) dX10_picture_132 (by decide) ?_
        exact ww_iret (pc := 133) X dX10_picture_133 (fst_of hF) (snd_of hF)
      · refine ww_iconst (pc := 128) X (v := 1) dX10_picture_128 (by decide) ?_
        refine ww_goto (pc := 129) X (tgt := 133) dX10_picture_129 (by decide) ?_
        exact ww_iret (pc := 133) X dX10_picture_133 (fst_of hF) (snd_of hF)
    refine ww_case (v := 7) hF (fun h28 hF => ?_) (fun h28 hF => ?_)
    · refine ww_tin (pc := 13) X (off := 121) (tgt := 134) dX10_picture_13 (by decide) (by decide) (by decide) (by decide) ?_
      refine ww_aload_n (pc := 134) X (j := 0) dX10_picture_134 rfl rfl ?_
      refine ww_iload_n (pc := 135) X (j := 1) dX10_picture_135 rfl rfl ?_
      obtain ⟨r26, h25, hF⟩ := bd_some hF
      refine ww_callVi (pc := 136) X (As := [.int p1]) (rest := []) dX10_picture_136 (kX10_centreOf (mL M) G X.2.2.2.2.2.2.1 X.2.2.2.2.2.2.2.1 σ p1 r26 h25) rfl shzM_0 clzM_10 gX10_picture_X10_centreOf hyX10_centreOf ⟨rfl, rfl⟩ ⟨Nat.le_of_ble_eq_true rfl, Nat.le_of_ble_eq_true rfl⟩ rfl rfl (Nat.le_of_ble_eq_true rfl) ?_
      refine ww_if_le (pc := 139) (tgt := 146) X dX10_picture_139 (by decide) hF (fun h27 hF => ?_) (fun h27 hF => ?_)
      · refine ww_iconst (pc := 146) X (v := 0) dX10_picture_146 (by decide) ?_
        exact ww_iret (pc := 147) X dX10_picture_147 (fst_of hF) (snd_of hF)
      · refine ww_iconst (pc := 142) X (v := 1) dX10_picture_142 (by decide) ?_
        refine ww_goto (pc := 143) X (tgt := 147) dX10_picture_143 (by decide) ?_
        exact ww_iret (pc := 147) X dX10_picture_147 (fst_of hF) (snd_of hF)
    refine ww_tout (pc := 13) X (tgt := 148) dX10_picture_13 (sw_out 0 7 (fun i q1 q2 => by rcases (show i = 0 ∨ i = 1 ∨ i = 2 ∨ i = 3 ∨ i = 4 ∨ i = 5 ∨ i = 6 ∨ i = 7 by omega) with rfl | rfl | rfl | rfl | rfl | rfl | rfl | rfl <;> first | exact lv_neT h6 (by decide) | exact lv_neT h8 (by decide) | exact lv_neT h11 (by decide) | exact lv_neT h13 (by decide) | exact lv_neT h15 (by decide) | exact lv_neT h18 (by decide) | exact lv_neT h24 (by decide) | exact lv_neT h28 (by decide))) (by decide) ?_
    refine ww_ldcw (pc := 148) X (v := (-1000000000)) (List.mem_of_getElem? (i := 1) rfl) dX10_picture_148 ?_
    exact ww_iret (pc := 151) X dX10_picture_151 (fst_of hF) (snd_of hF)
  · refine ww_ldcw (pc := 8) X (v := (-1000000000)) (List.mem_of_getElem? (i := 1) rfl) dX10_picture_8 ?_
    exact ww_iret (pc := 11) X dX10_picture_11 (fst_of hF) (snd_of hF)
set_option maxRecDepth 100000 in
set_option maxHeartbeats 4000000 in
theorem kX10_picture (l : Launch) (G : gG) (hG : gOK G zM.1) (hT : G.2.2.1.map (fun q => q.2) = zM.2.1) (σ : gS) (p1 : Int32) (p2 : Int32) (out : Int32 × gS) (hF : fX10_picture σ p1 p2 = some out) : gCi l yX10_picture wsX10_picture rmX10_picture G zM [.ref (G.2.1 0), .int p1, .int p2] σ out.1 out.2 :=
  gEnter (by decide) rfl ⟨rfl, rfl⟩ hG hT (Nat.le_of_ble_eq_true rfl) rfl (fun M X hl => wX10_picture X σ p1 p2 hF)
noncomputable def fX10_isPoint (σ : gS) (p1 : Int32) : Option (Int32) :=
  bd (fX10_points σ) fun r2 => bd (fX10_isIn σ p1.toInt64 0 ((r2 - 1).toInt64)) fun r4 => some (vp_nar .boolean r4)
noncomputable abbrev rmX10_isPoint : Room := { frames := 1, cells := 0, slots := 0, locals := 25 }
set_option maxRecDepth 100000 in
set_option maxHeartbeats 4000000 in
theorem wX10_isPoint {M : gM} {G : gG} {out : Int32} (X : gX M G zM cX10_isPoint RX10 2 wsX10_isPoint rmX10_isPoint (some .boolean)) (σ : gS) (p1 : Int32) (hF : fX10_isPoint σ p1 = some out) : WW M (gQi M G zM out σ) G zM 2 σ 0 [(0, .ref (G.2.1 0)), (1, .int p1)] [] := by
  unfold fX10_isPoint at hF
  refine ww_iload_n (pc := 0) X (j := 1) dX10_isPoint_0 rfl rfl ?_
  refine ww_i2l (pc := 1) X dX10_isPoint_1 ?_
  refine ww_lconst (pc := 2) X (v := 0) dX10_isPoint_2 (by decide) ?_
  refine ww_aload_n (pc := 3) X (j := 0) dX10_isPoint_3 rfl rfl ?_
  obtain ⟨r2, h1, hF⟩ := bd_some hF
  refine ww_callVi (pc := 4) X (As := []) (rest := [.long 0, .long p1.toInt64]) dX10_isPoint_4 (kX10_points (mL M) G X.2.2.2.2.2.2.1 X.2.2.2.2.2.2.2.1 σ r2 h1) rfl shzM_0 clzM_10 gX10_isPoint_X10_points hyX10_points ⟨rfl, rfl⟩ ⟨Nat.le_of_ble_eq_true rfl, Nat.le_of_ble_eq_true rfl⟩ rfl rfl (Nat.le_of_ble_eq_true rfl) ?_
  refine ww_iconst (pc := 7) X (v := 1) dX10_isPoint_7 (by decide) ?_
  refine ww_isub (pc := 8) X dX10_isPoint_8 ?_
  refine ww_i2l (pc := 9) X dX10_isPoint_9 ?_
  obtain ⟨r4, h3, hF⟩ := bd_some hF
  refine ww_callSi (pc := 10) X (As := [.long p1.toInt64, .long 0, .long ((r2 - 1).toInt64)]) (rest := []) dX10_isPoint_10 (kX10_isIn (mL M) G X.2.2.2.2.2.2.1 X.2.2.2.2.2.2.2.1 σ p1.toInt64 0 ((r2 - 1).toInt64) r4 h3) rfl gX10_isPoint_X10_isIn hyX10_isIn ⟨rfl, rfl⟩ ⟨Nat.le_of_ble_eq_true rfl, Nat.le_of_ble_eq_true rfl⟩ rfl rfl (Nat.le_of_ble_eq_true rfl) ?_
  exact ww_zret (pc := 13) X dX10_isPoint_13 (by cases hF; rfl) rfl
set_option maxRecDepth 100000 in
set_option maxHeartbeats 4000000 in
theorem kX10_isPoint (l : Launch) (G : gG) (hG : gOK G zM.1) (hT : G.2.2.1.map (fun q => q.2) = zM.2.1) (σ : gS) (p1 : Int32) (out : Int32) (hF : fX10_isPoint σ p1 = some out) : gCi l yX10_isPoint wsX10_isPoint rmX10_isPoint G zM [.ref (G.2.1 0), .int p1] σ out σ :=
  gEnter (by decide) rfl ⟨rfl, rfl⟩ hG hT (Nat.le_of_ble_eq_true rfl) rfl (fun M X hl => wX10_isPoint X σ p1 hF)
noncomputable def fX10_point (σ : gS) (p1 : Int32) (p2 : Int32) : Option (Int32 × gS) :=
  bd (fX10_isPoint σ p1) fun r2 => (if r2 = 0 then some ((-1000000000), σ) else if p2 = 0 then gd (gb (12 + p1) 76) <| nm (σ.1 28 (12 + p1).toNatClampNeg) fun v4 => some (v4, σ) else if p2 = 1 then gd (gb (50 + p1) 76) <| nm (σ.1 28 (50 + p1).toNatClampNeg) fun v6 => some (v6, σ) else if p2 = 2 then bd (fX10_rowsOf σ ((-1)) p1) fun r9 => some (r9, σ) else if p2 = 3 then gd (gb (20 + p1) 40) <| nm (σ.1 20 (20 + p1).toNatClampNeg) fun v11 => (if v11 = 0 then some (0, σ) else some (1, σ)) else if p2 = 4 then bd (fX10_isControl σ p1) fun r15 => (if r15 = 0 then some (0, σ) else some (1, σ)) else if p2 = 5 then bd (fX10_hangs σ) fun σ19 => bd (fX10_isLoose σ19 (12 + p1)) fun r21 => (if r21 = 0 then some (0, σ19) else some (1, σ19)) else some ((-1000000000), σ))
noncomputable abbrev rmX10_point : Room := { frames := 2, cells := 0, slots := 0, locals := 48 }
set_option maxRecDepth 100000 in
set_option maxHeartbeats 4000000 in
theorem wX10_point {M : gM} {G : gG} {out : Int32 × gS} (X : gX M G zM cX10_point RX10 3 wsX10_point rmX10_point (some .int)) (σ : gS) (p1 : Int32) (p2 : Int32) (hF : fX10_point σ p1 p2 = some out) : WW M (gQi M G zM out.1 out.2) G zM 3 σ 0 [(0, .ref (G.2.1 0)), (1, .int p1), (2, .int p2)] [] := by
  unfold fX10_point at hF
  refine ww_aload_n (pc := 0) X (j := 0) dX10_point_0 rfl rfl ?_
  refine ww_iload_n (pc := 1) X (j := 1) dX10_point_1 rfl rfl ?_
  obtain ⟨r2, h1, hF⟩ := bd_some hF
  refine ww_callVi (pc := 2) X (As := [.int p1]) (rest := []) dX10_point_2 (kX10_isPoint (mL M) G X.2.2.2.2.2.2.1 X.2.2.2.2.2.2.2.1 σ p1 r2 h1) rfl shzM_0 clzM_10 gX10_point_X10_isPoint hyX10_isPoint ⟨rfl, rfl⟩ ⟨Nat.le_of_ble_eq_true rfl, Nat.le_of_ble_eq_true rfl⟩ rfl rfl (Nat.le_of_ble_eq_true rfl) ?_
  refine ww_if_ne (pc := 5) (tgt := 12) X dX10_point_5 (by decide) hF (fun h3 hF => ?_) (fun h3 hF => ?_)
  · refine ww_iload_n (pc := 12) X (j := 2) dX10_point_12 rfl rfl ?_
    refine ww_case (v := 0) hF (fun h5 hF => ?_) (fun h5 hF => ?_)
    · refine ww_tin (pc := 13) X (off := 39) (tgt := 52) dX10_point_13 (by decide) (by decide) (by decide) (by decide) ?_
      refine ww_aload_n (pc := 52) X (j := 0) dX10_point_52 rfl rfl ?_
      refine ww_get (pc := 53) X (ref := "PictureBlockModel") (T := TX10) (j := 38) dX10_point_53 inX10_point_RX10 shzM_0 clzM_10 (by decide) rfl (List.mem_of_getElem? (i := 2) rfl) rfl ?_
      refine ww_bipush (pc := 56) X (v := 12) dX10_point_56 (by decide) ?_
      refine ww_iload_n (pc := 58) X (j := 1) dX10_point_58 rfl rfl ?_
      refine ww_iadd (pc := 59) X dX10_point_59 ?_
      refine ww_iald (pc := 60) X dX10_point_60 shzM_28 rfl hF (fun v4 ev4 bv4 hF => ?_)
      exact ww_iret (pc := 61) X dX10_point_61 (fst_of hF) (snd_of hF)
    refine ww_case (v := 1) hF (fun h7 hF => ?_) (fun h7 hF => ?_)
    · refine ww_tin (pc := 13) X (off := 49) (tgt := 62) dX10_point_13 (by decide) (by decide) (by decide) (by decide) ?_
      refine ww_aload_n (pc := 62) X (j := 0) dX10_point_62 rfl rfl ?_
      refine ww_get (pc := 63) X (ref := "PictureBlockModel") (T := TX10) (j := 38) dX10_point_63 inX10_point_RX10 shzM_0 clzM_10 (by decide) rfl (List.mem_of_getElem? (i := 2) rfl) rfl ?_
      refine ww_bipush (pc := 66) X (v := 50) dX10_point_66 (by decide) ?_
      refine ww_iload_n (pc := 68) X (j := 1) dX10_point_68 rfl rfl ?_
      refine ww_iadd (pc := 69) X dX10_point_69 ?_
      refine ww_iald (pc := 70) X dX10_point_70 shzM_28 rfl hF (fun v6 ev6 bv6 hF => ?_)
      exact ww_iret (pc := 71) X dX10_point_71 (fst_of hF) (snd_of hF)
    refine ww_case (v := 2) hF (fun h10 hF => ?_) (fun h10 hF => ?_)
    · refine ww_tin (pc := 13) X (off := 59) (tgt := 72) dX10_point_13 (by decide) (by decide) (by decide) (by decide) ?_
      refine ww_aload_n (pc := 72) X (j := 0) dX10_point_72 rfl rfl ?_
      refine ww_iconst (pc := 73) X (v := (-1)) dX10_point_73 (by decide) ?_
      refine ww_iload_n (pc := 74) X (j := 1) dX10_point_74 rfl rfl ?_
      obtain ⟨r9, h8, hF⟩ := bd_some hF
      refine ww_callVi (pc := 75) X (As := [.int ((-1)), .int p1]) (rest := []) dX10_point_75 (kX10_rowsOf (mL M) G X.2.2.2.2.2.2.1 X.2.2.2.2.2.2.2.1 σ ((-1)) p1 r9 h8) rfl shzM_0 clzM_10 gX10_point_X10_rowsOf hyX10_rowsOf ⟨rfl, rfl⟩ ⟨Nat.le_of_ble_eq_true rfl, Nat.le_of_ble_eq_true rfl⟩ rfl rfl (Nat.le_of_ble_eq_true rfl) ?_
      exact ww_iret (pc := 78) X dX10_point_78 (fst_of hF) (snd_of hF)
    refine ww_case (v := 3) hF (fun h13 hF => ?_) (fun h13 hF => ?_)
    · refine ww_tin (pc := 13) X (off := 66) (tgt := 79) dX10_point_13 (by decide) (by decide) (by decide) (by decide) ?_
      refine ww_aload_n (pc := 79) X (j := 0) dX10_point_79 rfl rfl ?_
      refine ww_get (pc := 80) X (ref := "PictureBlockModel") (T := TX10) (j := 28) dX10_point_80 inX10_point_RX10 shzM_0 clzM_10 (by decide) rfl (List.mem_of_getElem? (i := 3) rfl) rfl ?_
      refine ww_bipush (pc := 83) X (v := 20) dX10_point_83 (by decide) ?_
      refine ww_iload_n (pc := 85) X (j := 1) dX10_point_85 rfl rfl ?_
      refine ww_iadd (pc := 86) X dX10_point_86 ?_
      refine ww_iald (pc := 87) X dX10_point_87 shzM_20 rfl hF (fun v11 ev11 bv11 hF => ?_)
      refine ww_if_eq (pc := 88) (tgt := 95) X dX10_point_88 (by decide) hF (fun h12 hF => ?_) (fun h12 hF => ?_)
      · refine ww_iconst (pc := 95) X (v := 0) dX10_point_95 (by decide) ?_
        exact ww_iret (pc := 96) X dX10_point_96 (fst_of hF) (snd_of hF)
      · refine ww_iconst (pc := 91) X (v := 1) dX10_point_91 (by decide) ?_
        refine ww_goto (pc := 92) X (tgt := 96) dX10_point_92 (by decide) ?_
        exact ww_iret (pc := 96) X dX10_point_96 (fst_of hF) (snd_of hF)
    refine ww_case (v := 4) hF (fun h17 hF => ?_) (fun h17 hF => ?_)
    · refine ww_tin (pc := 13) X (off := 84) (tgt := 97) dX10_point_13 (by decide) (by decide) (by decide) (by decide) ?_
      refine ww_aload_n (pc := 97) X (j := 0) dX10_point_97 rfl rfl ?_
      refine ww_iload_n (pc := 98) X (j := 1) dX10_point_98 rfl rfl ?_
      obtain ⟨r15, h14, hF⟩ := bd_some hF
      refine ww_callVi (pc := 99) X (As := [.int p1]) (rest := []) dX10_point_99 (kX10_isControl (mL M) G X.2.2.2.2.2.2.1 X.2.2.2.2.2.2.2.1 σ p1 r15 h14) rfl shzM_0 clzM_10 gX10_point_X10_isControl hyX10_isControl ⟨rfl, rfl⟩ ⟨Nat.le_of_ble_eq_true rfl, Nat.le_of_ble_eq_true rfl⟩ rfl rfl (Nat.le_of_ble_eq_true rfl) ?_
      refine ww_if_eq (pc := 102) (tgt := 109) X dX10_point_102 (by decide) hF (fun h16 hF => ?_) (fun h16 hF => ?_)
      · refine ww_iconst (pc := 109) X (v := 0) dX10_point_109 (by decide) ?_
        exact ww_iret (pc := 110) X dX10_point_110 (fst_of hF) (snd_of hF)
      · refine ww_iconst (pc := 105) X (v := 1) dX10_point_105 (by decide) ?_
        refine ww_goto (pc := 106) X (tgt := 110) dX10_point_106 (by decide) ?_
        exact ww_iret (pc := 110) X dX10_point_110 (fst_of hF) (snd_of hF)
    refine ww_case (v := 5) hF (fun h23 hF => ?_) (fun h23 hF => ?_)
    · refine ww_tin (pc := 13) X (off := 98) (tgt := 111) dX10_point_13 (by decide) (by decide) (by decide) (by decide) ?_
      refine ww_aload_n (pc := 111) X (j := 0) dX10_point_111 rfl rfl ?_
      obtain ⟨σ19, h18, hF⟩ := bd_some hF
      refine ww_callVv (pc := 112) X (As := []) (rest := []) dX10_point_112 (kX10_hangs (mL M) G X.2.2.2.2.2.2.1 X.2.2.2.2.2.2.2.1 σ σ19 h18) rfl shzM_0 clzM_10 gX10_point_X10_hangs hyX10_hangs ⟨rfl, rfl⟩ ⟨Nat.le_of_ble_eq_true rfl, Nat.le_of_ble_eq_true rfl⟩ rfl rfl (Nat.le_of_ble_eq_true rfl) ?_
      refine ww_aload_n (pc := 115) X (j := 0) dX10_point_115 rfl rfl ?_
      refine ww_bipush (pc := 116) X (v := 12) dX10_point_116 (by decide) ?_
      refine ww_iload_n (pc := 118) X (j := 1) dX10_point_118 rfl rfl ?_
      refine ww_iadd (pc := 119) X dX10_point_119 ?_
      obtain ⟨r21, h20, hF⟩ := bd_some hF
      refine ww_callVi (pc := 120) X (As := [.int (12 + p1)]) (rest := []) dX10_point_120 (kX10_isLoose (mL M) G X.2.2.2.2.2.2.1 X.2.2.2.2.2.2.2.1 σ19 (12 + p1) r21 h20) rfl shzM_0 clzM_10 gX10_point_X10_isLoose hyX10_isLoose ⟨rfl, rfl⟩ ⟨Nat.le_of_ble_eq_true rfl, Nat.le_of_ble_eq_true rfl⟩ rfl rfl (Nat.le_of_ble_eq_true rfl) ?_
      refine ww_if_eq (pc := 123) (tgt := 130) X dX10_point_123 (by decide) hF (fun h22 hF => ?_) (fun h22 hF => ?_)
      · refine ww_iconst (pc := 130) X (v := 0) dX10_point_130 (by decide) ?_
        exact ww_iret (pc := 131) X dX10_point_131 (fst_of hF) (snd_of hF)
      · refine ww_iconst (pc := 126) X (v := 1) dX10_point_126 (by decide) ?_
        refine ww_goto (pc := 127) X (tgt := 131) dX10_point_127 (by decide) ?_
        exact ww_iret (pc := 131) X dX10_point_131 (fst_of hF) (snd_of hF)
    refine ww_tout (pc := 13) X (tgt := 132) dX10_point_13 (sw_out 0 5 (fun i q1 q2 => by rcases (show i = 0 ∨ i = 1 ∨ i = 2 ∨ i = 3 ∨ i = 4 ∨ i = 5 by omega) with rfl | rfl | rfl | rfl | rfl | rfl <;> first | exact lv_neT h5 (by decide) | exact lv_neT h7 (by decide) | exact lv_neT h10 (by decide) | exact lv_neT h13 (by decide) | exact lv_neT h17 (by decide) | exact lv_neT h23 (by decide))) (by decide) ?_
    refine ww_ldcw (pc := 132) X (v := (-1000000000)) (List.mem_of_getElem? (i := 1) rfl) dX10_point_132 ?_
    exact ww_iret (pc := 135) X dX10_point_135 (fst_of hF) (snd_of hF)
  · refine ww_ldcw (pc := 8) X (v := (-1000000000)) (List.mem_of_getElem? (i := 1) rfl) dX10_point_8 ?_
    exact ww_iret (pc := 11) X dX10_point_11 (fst_of hF) (snd_of hF)
set_option maxRecDepth 100000 in
set_option maxHeartbeats 4000000 in
theorem kX10_point (l : Launch) (G : gG) (hG : gOK G zM.1) (hT : G.2.2.1.map (fun q => q.2) = zM.2.1) (σ : gS) (p1 : Int32) (p2 : Int32) (out : Int32 × gS) (hF : fX10_point σ p1 p2 = some out) : gCi l yX10_point wsX10_point rmX10_point G zM [.ref (G.2.1 0), .int p1, .int p2] σ out.1 out.2 :=
  gEnter (by decide) rfl ⟨rfl, rfl⟩ hG hT (Nat.le_of_ble_eq_true rfl) rfl (fun M X hl => wX10_point X σ p1 p2 hF)
