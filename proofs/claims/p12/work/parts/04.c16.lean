noncomputable def fX0_isNear_73 (σ : gS) (p1 : Int32) : Option (Int32) :=
  gd (gb 0 2) <| gd (gb p1 12) <| nm (σ.1 74 p1.toNatClampNeg) fun v2 => (if v2 < ((-100000000)) then some 0 else gd (gb 0 2) <| gd (gb p1 12) <| nm (σ.1 74 p1.toNatClampNeg) fun v5 => (if 100000000 < v5 then some 0 else gd (gb 1 2) <| gd (gb p1 12) <| nm (σ.1 75 p1.toNatClampNeg) fun v8 => (if v8 < ((-100000000)) then some 0 else gd (gb 1 2) <| gd (gb p1 12) <| nm (σ.1 75 p1.toNatClampNeg) fun v11 => (if 100000000 < v11 then some 0 else some 1))))
noncomputable abbrev rmX0_isNear : Room := { frames := 0, cells := 0, slots := 0, locals := 0 }
set_option maxRecDepth 100000 in
set_option maxHeartbeats 4000000 in
theorem wX0_isNear_73 {M : gM} {G : gG} {out : Int32} (X : gX M G zC cX0_isNear RX0 2 wsX0_isNear rmX0_isNear (some .boolean)) {ex : gEx} (hZ : ∀ s : State, G.2.2.2 s → kC ex (gA G zC.1) s) (σ : gS) (p1 : Int32) (hF : fX0_isNear_73 σ p1 = some out) : WW M (gQi M G zC out σ) G zC 2 σ 0 [(0, .ref (G.2.1 73)), (1, .int p1)] [] := by
  unfold fX0_isNear_73 at hF
  refine ww_aload_n (pc := 0) X (j := 0) dX0_isNear_0 rfl rfl ?_
  refine ww_iconst (pc := 1) X (v := 0) dX0_isNear_1 (by decide) ?_
  refine ww_aald (pc := 2) X dX0_isNear_2 shzC_73 rfl hF (fun h1 hF => ?_)
  show WW M _ G zC _ _ _ _ (.ref (G.2.1 74) :: _)
  refine ww_iload_n (pc := 3) X (j := 1) dX0_isNear_3 rfl rfl ?_
  refine ww_iald (pc := 4) X dX0_isNear_4 shzC_74 rfl hF (fun v2 ev2 bv2 hF => ?_)
  refine ww_ldc (pc := 5) X (v := (-100000000)) (List.mem_of_getElem? (i := 1) rfl) dX0_isNear_5 ?_
  refine ww_icmp_lt (pc := 7) (tgt := 44) X dX0_isNear_7 (by decide) hF (fun h3 hF => ?_) (fun h3 hF => ?_)
  · refine ww_iconst (pc := 44) X (v := 0) dX0_isNear_44 (by decide) ?_
    exact ww_zret (pc := 45) X dX0_isNear_45 (by cases hF; rfl) rfl
  · refine ww_aload_n (pc := 10) X (j := 0) dX0_isNear_10 rfl rfl ?_
    refine ww_iconst (pc := 11) X (v := 0) dX0_isNear_11 (by decide) ?_
    refine ww_aald (pc := 12) X dX0_isNear_12 shzC_73 rfl hF (fun h4 hF => ?_)
    show WW M _ G zC _ _ _ _ (.ref (G.2.1 74) :: _)
    refine ww_iload_n (pc := 13) X (j := 1) dX0_isNear_13 rfl rfl ?_
    refine ww_iald (pc := 14) X dX0_isNear_14 shzC_74 rfl hF (fun v5 ev5 bv5 hF => ?_)
    refine ww_ldc (pc := 15) X (v := 100000000) (List.mem_of_getElem? (i := 2) rfl) dX0_isNear_15 ?_
    refine ww_icmp_gt (pc := 17) (tgt := 44) X dX0_isNear_17 (by decide) hF (fun h6 hF => ?_) (fun h6 hF => ?_)
    · refine ww_iconst (pc := 44) X (v := 0) dX0_isNear_44 (by decide) ?_
      exact ww_zret (pc := 45) X dX0_isNear_45 (by cases hF; rfl) rfl
    · refine ww_aload_n (pc := 20) X (j := 0) dX0_isNear_20 rfl rfl ?_
      refine ww_iconst (pc := 21) X (v := 1) dX0_isNear_21 (by decide) ?_
      refine ww_aald (pc := 22) X dX0_isNear_22 shzC_73 rfl hF (fun h7 hF => ?_)
      show WW M _ G zC _ _ _ _ (.ref (G.2.1 75) :: _)
      refine ww_iload_n (pc := 23) X (j := 1) dX0_isNear_23 rfl rfl ?_
      refine ww_iald (pc := 24) X dX0_isNear_24 shzC_75 rfl hF (fun v8 ev8 bv8 hF => ?_)
      refine ww_ldc (pc := 25) X (v := (-100000000)) (List.mem_of_getElem? (i := 1) rfl) dX0_isNear_25 ?_
      refine ww_icmp_lt (pc := 27) (tgt := 44) X dX0_isNear_27 (by decide) hF (fun h9 hF => ?_) (fun h9 hF => ?_)
      · refine ww_iconst (pc := 44) X (v := 0) dX0_isNear_44 (by decide) ?_
        exact ww_zret (pc := 45) X dX0_isNear_45 (by cases hF; rfl) rfl
      · refine ww_aload_n (pc := 30) X (j := 0) dX0_isNear_30 rfl rfl ?_
        refine ww_iconst (pc := 31) X (v := 1) dX0_isNear_31 (by decide) ?_
        refine ww_aald (pc := 32) X dX0_isNear_32 shzC_73 rfl hF (fun h10 hF => ?_)
        show WW M _ G zC _ _ _ _ (.ref (G.2.1 75) :: _)
        refine ww_iload_n (pc := 33) X (j := 1) dX0_isNear_33 rfl rfl ?_
        refine ww_iald (pc := 34) X dX0_isNear_34 shzC_75 rfl hF (fun v11 ev11 bv11 hF => ?_)
        refine ww_ldc (pc := 35) X (v := 100000000) (List.mem_of_getElem? (i := 2) rfl) dX0_isNear_35 ?_
        refine ww_icmp_gt (pc := 37) (tgt := 44) X dX0_isNear_37 (by decide) hF (fun h12 hF => ?_) (fun h12 hF => ?_)
        · refine ww_iconst (pc := 44) X (v := 0) dX0_isNear_44 (by decide) ?_
          exact ww_zret (pc := 45) X dX0_isNear_45 (by cases hF; rfl) rfl
        · refine ww_iconst (pc := 40) X (v := 1) dX0_isNear_40 (by decide) ?_
          refine ww_goto (pc := 41) X (tgt := 45) dX0_isNear_41 (by decide) ?_
          exact ww_zret (pc := 45) X dX0_isNear_45 (by cases hF; rfl) rfl
set_option maxRecDepth 100000 in
set_option maxHeartbeats 4000000 in
theorem kX0_isNear_73 (l : Launch) (G : gG) {ex : gEx} (hZ : ∀ s : State, G.2.2.2 s → kC ex (gA G zC.1) s) (hG : gOK G zC.1) (hT : G.2.2.1.map (fun q => q.2) = zC.2.1) (σ : gS) (p1 : Int32) (out : Int32) (hF : fX0_isNear_73 σ p1 = some out) : gCi l yX0_isNear wsX0_isNear rmX0_isNear G zC [.ref (G.2.1 73), .int p1] σ out σ :=
  gEnter (by decide) rfl ⟨rfl, rfl⟩ hG hT (Nat.le_of_ble_eq_true rfl) rfl (fun M X hl => wX0_isNear_73 X hZ σ p1 hF)
noncomputable def jX0_arePicturesRight_71_58 (σ : gS) (rec2 : Int32 → Option (Int32)) (a2 : Int32) : Option (Int32) :=
  bd (fX0_isNear_73 σ a2) fun r11 => (if r11 = 0 then some 0 else nm (a2 + 1 : Int32) fun x13 => rec2 x13)
noncomputable def bX0_arePicturesRight_71_2 (σ : gS) (rec2 : Int32 → Option (Int32)) (a2 : Int32) : Option (Int32) :=
  gd (gb 1 6) <| nm (σ.1 3 ((1 : Int32).toNatClampNeg)) fun v2 => (if v2 ≤ a2 then some 1 else gd (gb a2 12) <| nm (σ.1 72 a2.toNatClampNeg) fun v4 => nm (v4 : Int32) fun x5 => gd (gb a2 12) <| nm (σ.1 9 a2.toNatClampNeg) fun v6 => (if v6 = 4 then if x5 ≤ 3 then jX0_arePicturesRight_71_58 σ rec2 a2 else some 0 else gd (gb a2 12) <| nm (σ.1 9 a2.toNatClampNeg) fun v8 => (if x5 = v8 then jX0_arePicturesRight_71_58 σ rec2 a2 else some 0)))
noncomputable def fX0_arePicturesRight_71 (σ : gS) : Option (Int32) :=
  nm (0 : Int32) fun x1 => lpc (S := Int32) K9 (fun rec s => bX0_arePicturesRight_71_2 σ (fun a2 => rec (a2)) s) (x1)
noncomputable abbrev rmX0_arePicturesRight : Room := { frames := 1, cells := 0, slots := 0, locals := 21 }
set_option maxRecDepth 100000 in
set_option maxHeartbeats 4000000 in
theorem wjX0_arePicturesRight_71_58 {M : gM} {G : gG} {out : Int32} (X : gX M G zC cX0_arePicturesRight RX0 4 wsX0_arePicturesRight rmX0_arePicturesRight (some .boolean)) {ex : gEx} (hZ : ∀ s : State, G.2.2.2 s → kC ex (gA G zC.1) s) (σ : gS) (rec2 : Int32 → Option (Int32)) (ih2 : ∀ (a2 : Int32), rec2 a2 = some out → WW M (gQi M G zC out σ) G zC 4 σ 2 [(0, .ref (G.2.1 197)), (1, .ref (G.2.1 71)), (2, .int a2)] []) (a2 : Int32) (hF : jX0_arePicturesRight_71_58 σ rec2 a2 = some out) : WW M (gQi M G zC out σ) G zC 4 σ 58 [(0, .ref (G.2.1 197)), (1, .ref (G.2.1 71)), (2, .int a2)] [] := by
  unfold jX0_arePicturesRight_71_58 at hF
  refine ww_aload_n (pc := 58) X (j := 1) dX0_arePicturesRight_58 rfl rfl ?_
  refine ww_get (pc := 59) X (ref := "PictureBlock$Stand") (T := TX5) (j := 3) dX0_arePicturesRight_59 inX0_arePicturesRight_RX5 shzC_71 clzC_5 (by decide) rfl (List.mem_of_getElem? (i := 5) rfl) rfl ?_
  refine ww_iload_n (pc := 62) X (j := 2) dX0_arePicturesRight_62 rfl rfl ?_
  obtain ⟨r11, h10, hF⟩ := bd_some hF
  refine ww_callSi (pc := 63) X (As := [.ref (G.2.1 73), .int a2]) (rest := []) dX0_arePicturesRight_63 (kX0_isNear_73 (mL M) G hZ X.2.2.2.2.2.2.1 X.2.2.2.2.2.2.2.1 σ a2 r11 h10) rfl gX0_arePicturesRight_X0_isNear hyX0_isNear ⟨rfl, rfl⟩ ⟨Nat.le_of_ble_eq_true rfl, Nat.le_of_ble_eq_true rfl⟩ rfl rfl (Nat.le_of_ble_eq_true rfl) ?_
  refine ww_if_ne (pc := 66) (tgt := 71) X dX0_arePicturesRight_66 (by decide) hF (fun h12 hF => ?_) (fun h12 hF => ?_)
  · refine ww_iinc (pc := 71) X (j := 2) (v := 1) (lv' := [(0, .ref (G.2.1 197)), (1, .ref (G.2.1 71))]) dX0_arePicturesRight_71 rfl rfl (by decide) rfl hF (fun x13 ex13 hF => ?_)
    refine ww_goto (pc := 74) X (tgt := 2) dX0_arePicturesRight_74 (by decide) ?_
    exact ww_sub [1, 2, 0] rfl (ih2 x13 hF)
  · refine ww_iconst (pc := 69) X (v := 0) dX0_arePicturesRight_69 (by decide) ?_
    exact ww_zret (pc := 70) X dX0_arePicturesRight_70 (by cases hF; rfl) rfl
set_option maxRecDepth 100000 in
set_option maxHeartbeats 4000000 in
theorem wbX0_arePicturesRight_71_2 {M : gM} {G : gG} {out : Int32} (X : gX M G zC cX0_arePicturesRight RX0 4 wsX0_arePicturesRight rmX0_arePicturesRight (some .boolean)) {ex : gEx} (hZ : ∀ s : State, G.2.2.2 s → kC ex (gA G zC.1) s) (σ : gS) (rec2 : Int32 → Option (Int32)) (ih2 : ∀ (a2 : Int32), rec2 a2 = some out → WW M (gQi M G zC out σ) G zC 4 σ 2 [(0, .ref (G.2.1 197)), (1, .ref (G.2.1 71)), (2, .int a2)] []) (a2 : Int32) (hF : bX0_arePicturesRight_71_2 σ rec2 a2 = some out) : WW M (gQi M G zC out σ) G zC 4 σ 2 [(0, .ref (G.2.1 197)), (1, .ref (G.2.1 71)), (2, .int a2)] [] := by
  unfold bX0_arePicturesRight_71_2 at hF
  refine ww_iload_n (pc := 2) X (j := 2) dX0_arePicturesRight_2 rfl rfl ?_
  refine ww_aload_n (pc := 3) X (j := 0) dX0_arePicturesRight_3 rfl rfl ?_
  refine ww_get (pc := 4) X (ref := "PictureBlock$Imager") (T := TX0) (j := 0) dX0_arePicturesRight_4 inX0_arePicturesRight_RX0 shzC_197 clzC_0 (by decide) rfl (List.mem_of_getElem? (i := 1) rfl) rfl ?_
  refine ww_get (pc := 7) X (ref := "PictureBlock$Told") (T := TX8) (j := 0) dX0_arePicturesRight_7 inX0_arePicturesRight_RX8 shzC_2 clzC_8 (by decide) rfl (List.mem_of_getElem? (i := 2) rfl) rfl ?_
  refine ww_iconst (pc := 10) X (v := 1) dX0_arePicturesRight_10 (by decide) ?_
  refine ww_iald (pc := 11) X dX0_arePicturesRight_11 shzC_3 rfl hF (fun v2 ev2 bv2 hF => ?_)
  refine ww_icmp_ge (pc := 12) (tgt := 77) X dX0_arePicturesRight_12 (by decide) hF (fun h3 hF => ?_) (fun h3 hF => ?_)
  · refine ww_iconst (pc := 77) X (v := 1) dX0_arePicturesRight_77 (by decide) ?_
    exact ww_zret (pc := 78) X dX0_arePicturesRight_78 (by cases hF; rfl) rfl
  · refine ww_aload_n (pc := 15) X (j := 1) dX0_arePicturesRight_15 rfl rfl ?_
    refine ww_get (pc := 16) X (ref := "PictureBlock$Stand") (T := TX5) (j := 2) dX0_arePicturesRight_16 inX0_arePicturesRight_RX5 shzC_71 clzC_5 (by decide) rfl (List.mem_of_getElem? (i := 3) rfl) rfl ?_
    refine ww_iload_n (pc := 19) X (j := 2) dX0_arePicturesRight_19 rfl rfl ?_
    refine ww_iald (pc := 20) X dX0_arePicturesRight_20 shzC_72 rfl hF (fun v4 ev4 bv4 hF => ?_)
    refine ww_istore_n (pc := 21) X (lv' := [(0, .ref (G.2.1 197)), (1, .ref (G.2.1 71)), (2, .int a2)]) dX0_arePicturesRight_21 rfl (by decide) rfl hF (fun x5 ex5 hF => ?_)
    refine ww_aload_n (pc := 22) X (j := 1) dX0_arePicturesRight_22 rfl rfl ?_
    refine ww_get (pc := 23) X (ref := "PictureBlock$Imager") (T := TX0) (j := 0) dX0_arePicturesRight_23 inX0_arePicturesRight_RX0 shzC_197 clzC_0 (by decide) rfl (List.mem_of_getElem? (i := 1) rfl) rfl ?_
    refine ww_get (pc := 26) X (ref := "PictureBlock$Told") (T := TX8) (j := 3) dX0_arePicturesRight_26 inX0_arePicturesRight_RX8 shzC_2 clzC_8 (by decide) rfl (List.mem_of_getElem? (i := 4) rfl) rfl ?_
    refine ww_iload_n (pc := 29) X (j := 3) dX0_arePicturesRight_29 rfl rfl ?_
    refine ww_iald (pc := 30) X dX0_arePicturesRight_30 shzC_9 rfl hF (fun v6 ev6 bv6 hF => ?_)
    refine ww_iconst (pc := 31) X (v := 4) dX0_arePicturesRight_31 (by decide) ?_
    refine ww_icmp_ne (pc := 32) (tgt := 43) X dX0_arePicturesRight_32 (by decide) hF (fun h7 hF => ?_) (fun h7 hF => ?_)
    · refine ww_iload_n (pc := 43) X (j := 0) dX0_arePicturesRight_43 rfl rfl ?_
      refine ww_aload_n (pc := 44) X (j := 1) dX0_arePicturesRight_44 rfl rfl ?_
      refine ww_get (pc := 45) X (ref := "PictureBlock$Imager") (T := TX0) (j := 0) dX0_arePicturesRight_45 inX0_arePicturesRight_RX0 shzC_197 clzC_0 (by decide) rfl (List.mem_of_getElem? (i := 1) rfl) rfl ?_
      refine ww_get (pc := 48) X (ref := "PictureBlock$Told") (T := TX8) (j := 3) dX0_arePicturesRight_48 inX0_arePicturesRight_RX8 shzC_2 clzC_8 (by decide) rfl (List.mem_of_getElem? (i := 4) rfl) rfl ?_
      refine ww_iload_n (pc := 51) X (j := 3) dX0_arePicturesRight_51 rfl rfl ?_
      refine ww_iald (pc := 52) X dX0_arePicturesRight_52 shzC_9 rfl hF (fun v8 ev8 bv8 hF => ?_)
      refine ww_icmp_eq (pc := 53) (tgt := 58) X dX0_arePicturesRight_53 (by decide) hF (fun h9 hF => ?_) (fun h9 hF => ?_)
      · exact ww_sub [1, 2, 3] rfl (wjX0_arePicturesRight_71_58 X hZ σ rec2 ih2 a2 hF)
      · refine ww_iconst (pc := 56) X (v := 0) dX0_arePicturesRight_56 (by decide) ?_
        exact ww_zret (pc := 57) X dX0_arePicturesRight_57 (by cases hF; rfl) rfl
    · refine ww_iload_n (pc := 35) X (j := 0) dX0_arePicturesRight_35 rfl rfl ?_
      refine ww_iconst (pc := 36) X (v := 3) dX0_arePicturesRight_36 (by decide) ?_
      refine ww_icmp_le (pc := 37) (tgt := 58) X dX0_arePicturesRight_37 (by decide) hF (fun h14 hF => ?_) (fun h14 hF => ?_)
      · exact ww_sub [1, 2, 3] rfl (wjX0_arePicturesRight_71_58 X hZ σ rec2 ih2 a2 hF)
      · refine ww_goto (pc := 40) X (tgt := 56) dX0_arePicturesRight_40 (by decide) ?_
        refine ww_iconst (pc := 56) X (v := 0) dX0_arePicturesRight_56 (by decide) ?_
        exact ww_zret (pc := 57) X dX0_arePicturesRight_57 (by cases hF; rfl) rfl
set_option maxRecDepth 100000 in
set_option maxHeartbeats 4000000 in
theorem wX0_arePicturesRight_71 {M : gM} {G : gG} {out : Int32} (X : gX M G zC cX0_arePicturesRight RX0 4 wsX0_arePicturesRight rmX0_arePicturesRight (some .boolean)) {ex : gEx} (hZ : ∀ s : State, G.2.2.2 s → kC ex (gA G zC.1) s) (σ : gS) (hF : fX0_arePicturesRight_71 σ = some out) : WW M (gQi M G zC out σ) G zC 4 σ 0 [(0, .ref (G.2.1 197)), (1, .ref (G.2.1 71))] [] := by
  unfold fX0_arePicturesRight_71 at hF
  refine ww_iconst (pc := 0) X (v := 0) dX0_arePicturesRight_0 (by decide) ?_
  refine ww_istore_n (pc := 1) X (lv' := [(0, .ref (G.2.1 197)), (1, .ref (G.2.1 71))]) dX0_arePicturesRight_1 rfl (by decide) rfl hF (fun x1 ex1 hF => ?_)
  exact ww_sub [1, 2, 0] rfl (lpc_ind (P := (fun (s : Int32) => WW M (gQi M G zC out σ) G zC 4 σ 2 [(0, .ref (G.2.1 197)), (1, .ref (G.2.1 71)), (2, .int s)] [])) (fun rec s ih hF => wbX0_arePicturesRight_71_2 X hZ σ (fun a2 => rec (a2)) (fun a2 h => ih (a2) h) s hF) K9 (x1) hF)
set_option maxRecDepth 100000 in
set_option maxHeartbeats 4000000 in
theorem kX0_arePicturesRight_71 (l : Launch) (G : gG) {ex : gEx} (hZ : ∀ s : State, G.2.2.2 s → kC ex (gA G zC.1) s) (hG : gOK G zC.1) (hT : G.2.2.1.map (fun q => q.2) = zC.2.1) (σ : gS) (out : Int32) (hF : fX0_arePicturesRight_71 σ = some out) : gCi l yX0_arePicturesRight wsX0_arePicturesRight rmX0_arePicturesRight G zC [.ref (G.2.1 197), .ref (G.2.1 71)] σ out σ :=
  gEnter (by decide) rfl ⟨rfl, rfl⟩ hG hT (Nat.le_of_ble_eq_true rfl) rfl (fun M X hl => wX0_arePicturesRight_71 X hZ σ hF)
noncomputable def fX0_isNear_76 (σ : gS) (p1 : Int32) : Option (Int32) :=
  gd (gb 0 2) <| gd (gb p1 20) <| nm (σ.1 77 p1.toNatClampNeg) fun v2 => (if v2 < ((-100000000)) then some 0 else gd (gb 0 2) <| gd (gb p1 20) <| nm (σ.1 77 p1.toNatClampNeg) fun v5 => (if 100000000 < v5 then some 0 else gd (gb 1 2) <| gd (gb p1 20) <| nm (σ.1 78 p1.toNatClampNeg) fun v8 => (if v8 < ((-100000000)) then some 0 else gd (gb 1 2) <| gd (gb p1 20) <| nm (σ.1 78 p1.toNatClampNeg) fun v11 => (if 100000000 < v11 then some 0 else some 1))))
set_option maxRecDepth 100000 in
set_option maxHeartbeats 4000000 in
theorem wX0_isNear_76 {M : gM} {G : gG} {out : Int32} (X : gX M G zC cX0_isNear RX0 2 wsX0_isNear rmX0_isNear (some .boolean)) {ex : gEx} (hZ : ∀ s : State, G.2.2.2 s → kC ex (gA G zC.1) s) (σ : gS) (p1 : Int32) (hF : fX0_isNear_76 σ p1 = some out) : WW M (gQi M G zC out σ) G zC 2 σ 0 [(0, .ref (G.2.1 76)), (1, .int p1)] [] := by
  unfold fX0_isNear_76 at hF
  refine ww_aload_n (pc := 0) X (j := 0) dX0_isNear_0 rfl rfl ?_
  refine ww_iconst (pc := 1) X (v := 0) dX0_isNear_1 (by decide) ?_
  refine ww_aald (pc := 2) X dX0_isNear_2 shzC_76 rfl hF (fun h1 hF => ?_)
  show WW M _ G zC _ _ _ _ (.ref (G.2.1 77) :: _)
  refine ww_iload_n (pc := 3) X (j := 1) dX0_isNear_3 rfl rfl ?_
  refine ww_iald (pc := 4) X dX0_isNear_4 shzC_77 rfl hF (fun v2 ev2 bv2 hF => ?_)
  refine ww_ldc (pc := 5) X (v := (-100000000)) (List.mem_of_getElem? (i := 1) rfl) dX0_isNear_5 ?_
  refine ww_icmp_lt (pc := 7) (tgt := 44) X dX0_isNear_7 (by decide) hF (fun h3 hF => ?_) (fun h3 hF => ?_)
  · refine ww_iconst (pc := 44) X (v := 0) dX0_isNear_44 (by decide) ?_
    exact ww_zret (pc := 45) X dX0_isNear_45 (by cases hF; rfl) rfl
  · refine ww_aload_n (pc := 10) X (j := 0) dX0_isNear_10 rfl rfl ?_
    refine ww_iconst (pc := 11) X (v := 0) dX0_isNear_11 (by decide) ?_
    refine ww_aald (pc := 12) X dX0_isNear_12 shzC_76 rfl hF (fun h4 hF => ?_)
    show WW M _ G zC _ _ _ _ (.ref (G.2.1 77) :: _)
    refine ww_iload_n (pc := 13) X (j := 1) dX0_isNear_13 rfl rfl ?_
    refine ww_iald (pc := 14) X dX0_isNear_14 shzC_77 rfl hF (fun v5 ev5 bv5 hF => ?_)
    refine ww_ldc (pc := 15) X (v := 100000000) (List.mem_of_getElem? (i := 2) rfl) dX0_isNear_15 ?_
    refine ww_icmp_gt (pc := 17) (tgt := 44) X dX0_isNear_17 (by decide) hF (fun h6 hF => ?_) (fun h6 hF => ?_)
    · refine ww_iconst (pc := 44) X (v := 0) dX0_isNear_44 (by decide) ?_
      exact ww_zret (pc := 45) X dX0_isNear_45 (by cases hF; rfl) rfl
    · refine ww_aload_n (pc := 20) X (j := 0) dX0_isNear_20 rfl rfl ?_
      refine ww_iconst (pc := 21) X (v := 1) dX0_isNear_21 (by decide) ?_
      refine ww_aald (pc := 22) X dX0_isNear_22 shzC_76 rfl hF (fun h7 hF => ?_)
      show WW M _ G zC _ _ _ _ (.ref (G.2.1 78) :: _)
      refine ww_iload_n (pc := 23) X (j := 1) dX0_isNear_23 rfl rfl ?_
      refine ww_iald (pc := 24) X dX0_isNear_24 shzC_78 rfl hF (fun v8 ev8 bv8 hF => ?_)
      refine ww_ldc (pc := 25) X (v := (-100000000)) (List.mem_of_getElem? (i := 1) rfl) dX0_isNear_25 ?_
      refine ww_icmp_lt (pc := 27) (tgt := 44) X dX0_isNear_27 (by decide) hF (fun h9 hF => ?_) (fun h9 hF => ?_)
      · refine ww_iconst (pc := 44) X (v := 0) dX0_isNear_44 (by decide) ?_
        exact ww_zret (pc := 45) X dX0_isNear_45 (by cases hF; rfl) rfl
      · refine ww_aload_n (pc := 30) X (j := 0) dX0_isNear_30 rfl rfl ?_
        refine ww_iconst (pc := 31) X (v := 1) dX0_isNear_31 (by decide) ?_
        refine ww_aald (pc := 32) X dX0_isNear_32 shzC_76 rfl hF (fun h10 hF => ?_)
        show WW M _ G zC _ _ _ _ (.ref (G.2.1 78) :: _)
        refine ww_iload_n (pc := 33) X (j := 1) dX0_isNear_33 rfl rfl ?_
        refine ww_iald (pc := 34) X dX0_isNear_34 shzC_78 rfl hF (fun v11 ev11 bv11 hF => ?_)
        refine ww_ldc (pc := 35) X (v := 100000000) (List.mem_of_getElem? (i := 2) rfl) dX0_isNear_35 ?_
        refine ww_icmp_gt (pc := 37) (tgt := 44) X dX0_isNear_37 (by decide) hF (fun h12 hF => ?_) (fun h12 hF => ?_)
        · refine ww_iconst (pc := 44) X (v := 0) dX0_isNear_44 (by decide) ?_
          exact ww_zret (pc := 45) X dX0_isNear_45 (by cases hF; rfl) rfl
        · refine ww_iconst (pc := 40) X (v := 1) dX0_isNear_40 (by decide) ?_
          refine ww_goto (pc := 41) X (tgt := 45) dX0_isNear_41 (by decide) ?_
          exact ww_zret (pc := 45) X dX0_isNear_45 (by cases hF; rfl) rfl
set_option maxRecDepth 100000 in
set_option maxHeartbeats 4000000 in
theorem kX0_isNear_76 (l : Launch) (G : gG) {ex : gEx} (hZ : ∀ s : State, G.2.2.2 s → kC ex (gA G zC.1) s) (hG : gOK G zC.1) (hT : G.2.2.1.map (fun q => q.2) = zC.2.1) (σ : gS) (p1 : Int32) (out : Int32) (hF : fX0_isNear_76 σ p1 = some out) : gCi l yX0_isNear wsX0_isNear rmX0_isNear G zC [.ref (G.2.1 76), .int p1] σ out σ :=
  gEnter (by decide) rfl ⟨rfl, rfl⟩ hG hT (Nat.le_of_ble_eq_true rfl) rfl (fun M X hl => wX0_isNear_76 X hZ σ p1 hF)
noncomputable def fX5_isFixed_71 (σ : gS) (p1 : Int32) : Option (Int32) :=
  gd (gb p1 20) <| nm (σ.1 16 p1.toNatClampNeg) fun v1 => (if (v1 &&& (σ.1 71 1)) = 0 then some 0 else some 1)
set_option maxRecDepth 100000 in
set_option maxHeartbeats 4000000 in
theorem wX5_isFixed_71 {M : gM} {G : gG} {out : Int32} (X : gX M G zC cX5_isFixed RX5 2 wsX5_isFixed rmX5_isFixed (some .boolean)) {ex : gEx} (hZ : ∀ s : State, G.2.2.2 s → kC ex (gA G zC.1) s) (σ : gS) (p1 : Int32) (hF : fX5_isFixed_71 σ p1 = some out) : WW M (gQi M G zC out σ) G zC 2 σ 0 [(0, .ref (G.2.1 71)), (1, .int p1)] [] := by
  unfold fX5_isFixed_71 at hF
  refine ww_aload_n (pc := 0) X (j := 0) dX5_isFixed_0 rfl rfl ?_
  refine ww_get (pc := 1) X (ref := "PictureBlock$Stand") (T := TX5) (j := 0) dX5_isFixed_1 inX5_isFixed_RX5 shzC_71 clzC_5 (by decide) rfl (List.mem_of_getElem? (i := 1) rfl) rfl ?_
  refine ww_get (pc := 4) X (ref := "PictureBlock$Told") (T := TX8) (j := 8) dX5_isFixed_4 inX5_isFixed_RX8 shzC_2 clzC_8 (by decide) rfl (List.mem_of_getElem? (i := 2) rfl) rfl ?_
  refine ww_iload_n (pc := 7) X (j := 1) dX5_isFixed_7 rfl rfl ?_
  refine ww_iald (pc := 8) X dX5_isFixed_8 shzC_16 rfl hF (fun v1 ev1 bv1 hF => ?_)
  refine ww_aload_n (pc := 9) X (j := 0) dX5_isFixed_9 rfl rfl ?_
  refine ww_get (pc := 10) X (ref := "PictureBlock$Stand") (T := TX5) (j := 1) dX5_isFixed_10 inX5_isFixed_RX5 shzC_71 clzC_5 (by decide) rfl (List.mem_of_getElem? (i := 3) rfl) rfl ?_
  refine ww_iand (pc := 13) X dX5_isFixed_13 ?_
  refine ww_if_eq (pc := 14) (tgt := 21) X dX5_isFixed_14 (by decide) hF (fun h2 hF => ?_) (fun h2 hF => ?_)
  · refine ww_iconst (pc := 21) X (v := 0) dX5_isFixed_21 (by decide) ?_
    exact ww_zret (pc := 22) X dX5_isFixed_22 (by cases hF; rfl) rfl
  · refine ww_iconst (pc := 17) X (v := 1) dX5_isFixed_17 (by decide) ?_
    refine ww_goto (pc := 18) X (tgt := 22) dX5_isFixed_18 (by decide) ?_
    exact ww_zret (pc := 22) X dX5_isFixed_22 (by cases hF; rfl) rfl
set_option maxRecDepth 100000 in
set_option maxHeartbeats 4000000 in
theorem kX5_isFixed_71 (l : Launch) (G : gG) {ex : gEx} (hZ : ∀ s : State, G.2.2.2 s → kC ex (gA G zC.1) s) (hG : gOK G zC.1) (hT : G.2.2.1.map (fun q => q.2) = zC.2.1) (σ : gS) (p1 : Int32) (out : Int32) (hF : fX5_isFixed_71 σ p1 = some out) : gCi l yX5_isFixed wsX5_isFixed rmX5_isFixed G zC [.ref (G.2.1 71), .int p1] σ out σ :=
  gEnter (by decide) rfl ⟨rfl, rfl⟩ hG hT (Nat.le_of_ble_eq_true rfl) rfl (fun M X hl => wX5_isFixed_71 X hZ σ p1 hF)
noncomputable def fX5_fixedAt_71 (σ : gS) (p1 : Int32) (p2 : Int32) : Option (Int32) :=
  gd (gb p2 2) <| gd (gb p1 20) <| nm (σ.1 (18 + p2.toNatClampNeg) p1.toNatClampNeg) fun v2 => some (100 * v2)
set_option maxRecDepth 100000 in
set_option maxHeartbeats 4000000 in
theorem wX5_fixedAt_71 {M : gM} {G : gG} {out : Int32} (X : gX M G zC cX5_fixedAt RX5 3 wsX5_fixedAt rmX5_fixedAt (some .int)) {ex : gEx} (hZ : ∀ s : State, G.2.2.2 s → kC ex (gA G zC.1) s) (σ : gS) (p1 : Int32) (p2 : Int32) (hF : fX5_fixedAt_71 σ p1 p2 = some out) : WW M (gQi M G zC out σ) G zC 3 σ 0 [(0, .ref (G.2.1 71)), (1, .int p1), (2, .int p2)] [] := by
  unfold fX5_fixedAt_71 at hF
  refine ww_bipush (pc := 0) X (v := 100) dX5_fixedAt_0 (by decide) ?_
  refine ww_aload_n (pc := 2) X (j := 0) dX5_fixedAt_2 rfl rfl ?_
  refine ww_get (pc := 3) X (ref := "PictureBlock$Stand") (T := TX5) (j := 0) dX5_fixedAt_3 inX5_fixedAt_RX5 shzC_71 clzC_5 (by decide) rfl (List.mem_of_getElem? (i := 1) rfl) rfl ?_
  refine ww_get (pc := 6) X (ref := "PictureBlock$Told") (T := TX8) (j := 9) dX5_fixedAt_6 inX5_fixedAt_RX8 shzC_2 clzC_8 (by decide) rfl (List.mem_of_getElem? (i := 2) rfl) rfl ?_
  refine ww_iload_n (pc := 9) X (j := 2) dX5_fixedAt_9 rfl rfl ?_
  refine ww_aald (pc := 10) X dX5_fixedAt_10 shzC_17 rfl hF (fun h1 hF => ?_)
  refine ww_iload_n (pc := 11) X (j := 1) dX5_fixedAt_11 rfl rfl ?_
  refine ww_iald (pc := 12) X dX5_fixedAt_12 (rwzC_17 _ (gb_lt h1)) rfl hF (fun v2 ev2 bv2 hF => ?_)
  refine ww_imul (pc := 13) X dX5_fixedAt_13 ?_
  exact ww_iret (pc := 14) X dX5_fixedAt_14 (Option.some.inj hF) rfl
set_option maxRecDepth 100000 in
set_option maxHeartbeats 4000000 in
theorem kX5_fixedAt_71 (l : Launch) (G : gG) {ex : gEx} (hZ : ∀ s : State, G.2.2.2 s → kC ex (gA G zC.1) s) (hG : gOK G zC.1) (hT : G.2.2.1.map (fun q => q.2) = zC.2.1) (σ : gS) (p1 : Int32) (p2 : Int32) (out : Int32) (hF : fX5_fixedAt_71 σ p1 p2 = some out) : gCi l yX5_fixedAt wsX5_fixedAt rmX5_fixedAt G zC [.ref (G.2.1 71), .int p1, .int p2] σ out σ :=
  gEnter (by decide) rfl ⟨rfl, rfl⟩ hG hT (Nat.le_of_ble_eq_true rfl) rfl (fun M X hl => wX5_fixedAt_71 X hZ σ p1 p2 hF)
noncomputable def fX0_isAt_76 (σ : gS) (p1 : Int32) (p2 : Int32) (p3 : Int32) : Option (Int32) :=
  gd (gb 0 2) <| gd (gb p1 20) <| nm (σ.1 77 p1.toNatClampNeg) fun v2 => (if v2 = p2 then gd (gb 1 2) <| gd (gb p1 20) <| nm (σ.1 78 p1.toNatClampNeg) fun v5 => (if v5 = p3 then some 1 else some 0) else some 0)
noncomputable abbrev rmX0_isAt : Room := { frames := 0, cells := 0, slots := 0, locals := 0 }
set_option maxRecDepth 100000 in
set_option maxHeartbeats 4000000 in
theorem wX0_isAt_76 {M : gM} {G : gG} {out : Int32} (X : gX M G zC cX0_isAt RX0 4 wsX0_isAt rmX0_isAt (some .boolean)) {ex : gEx} (hZ : ∀ s : State, G.2.2.2 s → kC ex (gA G zC.1) s) (σ : gS) (p1 : Int32) (p2 : Int32) (p3 : Int32) (hF : fX0_isAt_76 σ p1 p2 p3 = some out) : WW M (gQi M G zC out σ) G zC 4 σ 0 [(0, .ref (G.2.1 76)), (1, .int p1), (2, .int p2), (3, .int p3)] [] := by
  unfold fX0_isAt_76 at hF
  refine ww_aload_n (pc := 0) X (j := 0) dX0_isAt_0 rfl rfl ?_
  refine ww_iconst (pc := 1) X (v := 0) dX0_isAt_1 (by decide) ?_
  refine ww_aald (pc := 2) X dX0_isAt_2 shzC_76 rfl hF (fun h1 hF => ?_)
  show WW M _ G zC _ _ _ _ (.ref (G.2.1 77) :: _)
  refine ww_iload_n (pc := 3) X (j := 1) dX0_isAt_3 rfl rfl ?_
  refine ww_iald (pc := 4) X dX0_isAt_4 shzC_77 rfl hF (fun v2 ev2 bv2 hF => ?_)
  refine ww_iload_n (pc := 5) X (j := 2) dX0_isAt_5 rfl rfl ?_
  refine ww_icmp_ne (pc := 6) (tgt := 22) X dX0_isAt_6 (by decide) hF (fun h3 hF => ?_) (fun h3 hF => ?_)
  · refine ww_iconst (pc := 22) X (v := 0) dX0_isAt_22 (by decide) ?_
    exact ww_zret (pc := 23) X dX0_isAt_23 (by cases hF; rfl) rfl
  · refine ww_aload_n (pc := 9) X (j := 0) dX0_isAt_9 rfl rfl ?_
    refine ww_iconst (pc := 10) X (v := 1) dX0_isAt_10 (by decide) ?_
    refine ww_aald (pc := 11) X dX0_isAt_11 shzC_76 rfl hF (fun h4 hF => ?_)
    show WW M _ G zC _ _ _ _ (.ref (G.2.1 78) :: _)
    refine ww_iload_n (pc := 12) X (j := 1) dX0_isAt_12 rfl rfl ?_
    refine ww_iald (pc := 13) X dX0_isAt_13 shzC_78 rfl hF (fun v5 ev5 bv5 hF => ?_)
    refine ww_iload_n (pc := 14) X (j := 3) dX0_isAt_14 rfl rfl ?_
    refine ww_icmp_ne (pc := 15) (tgt := 22) X dX0_isAt_15 (by decide) hF (fun h6 hF => ?_) (fun h6 hF => ?_)
    · refine ww_iconst (pc := 22) X (v := 0) dX0_isAt_22 (by decide) ?_
      exact ww_zret (pc := 23) X dX0_isAt_23 (by cases hF; rfl) rfl
    · refine ww_iconst (pc := 18) X (v := 1) dX0_isAt_18 (by decide) ?_
      refine ww_goto (pc := 19) X (tgt := 23) dX0_isAt_19 (by decide) ?_
      exact ww_zret (pc := 23) X dX0_isAt_23 (by cases hF; rfl) rfl
set_option maxRecDepth 100000 in
set_option maxHeartbeats 4000000 in
theorem kX0_isAt_76 (l : Launch) (G : gG) {ex : gEx} (hZ : ∀ s : State, G.2.2.2 s → kC ex (gA G zC.1) s) (hG : gOK G zC.1) (hT : G.2.2.1.map (fun q => q.2) = zC.2.1) (σ : gS) (p1 : Int32) (p2 : Int32) (p3 : Int32) (out : Int32) (hF : fX0_isAt_76 σ p1 p2 p3 = some out) : gCi l yX0_isAt wsX0_isAt rmX0_isAt G zC [.ref (G.2.1 76), .int p1, .int p2, .int p3] σ out σ :=
  gEnter (by decide) rfl ⟨rfl, rfl⟩ hG hT (Nat.le_of_ble_eq_true rfl) rfl (fun M X hl => wX0_isAt_76 X hZ σ p1 p2 p3 hF)
noncomputable def bX0_arePointsRight_71_2 (σ : gS) (rec2 : Int32 → Option (Int32)) (a2 : Int32) : Option (Int32) :=
  gd (gb 2 6) <| nm (σ.1 3 ((2 : Int32).toNatClampNeg)) fun v2 => (if v2 ≤ a2 then some 1 else bd (fX0_isNear_76 σ a2) fun r5 => (if r5 = 0 then some 0 else bd (fX5_isFixed_71 σ a2) fun r8 => (if r8 = 0 then nm (a2 + 1 : Int32) fun x10 => rec2 x10 else bd (fX5_fixedAt_71 σ a2 0) fun r12 => bd (fX5_fixedAt_71 σ a2 1) fun r14 => bd (fX0_isAt_76 σ a2 r12 r14) fun r16 => (if r16 = 0 then some 0 else nm (a2 + 1 : Int32) fun x18 => rec2 x18))))
noncomputable def fX0_arePointsRight_71 (σ : gS) : Option (Int32) :=
  nm (0 : Int32) fun x1 => lpc (S := Int32) K9 (fun rec s => bX0_arePointsRight_71_2 σ (fun a2 => rec (a2)) s) (x1)
noncomputable abbrev rmX0_arePointsRight : Room := { frames := 1, cells := 0, slots := 0, locals := 23 }
set_option maxRecDepth 100000 in
set_option maxHeartbeats 4000000 in
theorem wbX0_arePointsRight_71_2 {M : gM} {G : gG} {out : Int32} (X : gX M G zC cX0_arePointsRight RX0 3 wsX0_arePointsRight rmX0_arePointsRight (some .boolean)) {ex : gEx} (hZ : ∀ s : State, G.2.2.2 s → kC ex (gA G zC.1) s) (σ : gS) (rec2 : Int32 → Option (Int32)) (ih2 : ∀ (a2 : Int32), rec2 a2 = some out → WW M (gQi M G zC out σ) G zC 3 σ 2 [(0, .ref (G.2.1 197)), (1, .ref (G.2.1 71)), (2, .int a2)] []) (a2 : Int32) (hF : bX0_arePointsRight_71_2 σ rec2 a2 = some out) : WW M (gQi M G zC out σ) G zC 3 σ 2 [(0, .ref (G.2.1 197)), (1, .ref (G.2.1 71)), (2, .int a2)] [] := by
  unfold bX0_arePointsRight_71_2 at hF
  refine ww_iload_n (pc := 2) X (j := 2) dX0_arePointsRight_2 rfl rfl ?_
  refine ww_aload_n (pc := 3) X (j := 0) dX0_arePointsRight_3 rfl rfl ?_
  refine ww_get (pc := 4) X (ref := "PictureBlock$Imager") (T := TX0) (j := 0) dX0_arePointsRight_4 inX0_arePointsRight_RX0 shzC_197 clzC_0 (by decide) rfl (List.mem_of_getElem? (i := 1) rfl) rfl ?_
  refine ww_get (pc := 7) X (ref := "PictureBlock$Told") (T := TX8) (j := 0) dX0_arePointsRight_7 inX0_arePointsRight_RX8 shzC_2 clzC_8 (by decide) rfl (List.mem_of_getElem? (i := 2) rfl) rfl ?_
  refine ww_iconst (pc := 10) X (v := 2) dX0_arePointsRight_10 (by decide) ?_
  refine ww_iald (pc := 11) X dX0_arePointsRight_11 shzC_3 rfl hF (fun v2 ev2 bv2 hF => ?_)
  refine ww_icmp_ge (pc := 12) (tgt := 67) X dX0_arePointsRight_12 (by decide) hF (fun h3 hF => ?_) (fun h3 hF => ?_)
  · refine ww_iconst (pc := 67) X (v := 1) dX0_arePointsRight_67 (by decide) ?_
    exact ww_zret (pc := 68) X dX0_arePointsRight_68 (by cases hF; rfl) rfl
  · refine ww_aload_n (pc := 15) X (j := 1) dX0_arePointsRight_15 rfl rfl ?_
    refine ww_get (pc := 16) X (ref := "PictureBlock$Stand") (T := TX5) (j := 4) dX0_arePointsRight_16 inX0_arePointsRight_RX5 shzC_71 clzC_5 (by decide) rfl (List.mem_of_getElem? (i := 3) rfl) rfl ?_
    refine ww_iload_n (pc := 19) X (j := 2) dX0_arePointsRight_19 rfl rfl ?_
    obtain ⟨r5, h4, hF⟩ := bd_some hF
    refine ww_callSi (pc := 20) X (As := [.ref (G.2.1 76), .int a2]) (rest := []) dX0_arePointsRight_20 (kX0_isNear_76 (mL M) G hZ X.2.2.2.2.2.2.1 X.2.2.2.2.2.2.2.1 σ a2 r5 h4) rfl gX0_arePointsRight_X0_isNear hyX0_isNear ⟨rfl, rfl⟩ ⟨Nat.le_of_ble_eq_true rfl, Nat.le_of_ble_eq_true rfl⟩ rfl rfl (Nat.le_of_ble_eq_true rfl) ?_
    refine ww_if_ne (pc := 23) (tgt := 28) X dX0_arePointsRight_23 (by decide) hF (fun h6 hF => ?_) (fun h6 hF => ?_)
    · refine ww_aload_n (pc := 28) X (j := 1) dX0_arePointsRight_28 rfl rfl ?_
      refine ww_iload_n (pc := 29) X (j := 2) dX0_arePointsRight_29 rfl rfl ?_
      obtain ⟨r8, h7, hF⟩ := bd_some hF
      refine ww_callVi (pc := 30) X (As := [.int a2]) (rest := []) dX0_arePointsRight_30 (kX5_isFixed_71 (mL M) G hZ X.2.2.2.2.2.2.1 X.2.2.2.2.2.2.2.1 σ a2 r8 h7) rfl shzC_71 clzC_5 gX0_arePointsRight_X5_isFixed hyX5_isFixed ⟨rfl, rfl⟩ ⟨Nat.le_of_ble_eq_true rfl, Nat.le_of_ble_eq_true rfl⟩ rfl rfl (Nat.le_of_ble_eq_true rfl) ?_
      refine ww_if_eq (pc := 33) (tgt := 61) X dX0_arePointsRight_33 (by decide) hF (fun h9 hF => ?_) (fun h9 hF => ?_)
      · refine ww_iinc (pc := 61) X (j := 2) (v := 1) (lv' := [(0, .ref (G.2.1 197)), (1, .ref (G.2.1 71))]) dX0_arePointsRight_61 rfl rfl (by decide) rfl hF (fun x10 ex10 hF => ?_)
        refine ww_goto (pc := 64) X (tgt := 2) dX0_arePointsRight_64 (by decide) ?_
        exact ww_sub [1, 2, 0] rfl (ih2 x10 hF)
      · refine ww_aload_n (pc := 36) X (j := 1) dX0_arePointsRight_36 rfl rfl ?_
        refine ww_get (pc := 37) X (ref := "PictureBlock$Stand") (T := TX5) (j := 4) dX0_arePointsRight_37 inX0_arePointsRight_RX5 shzC_71 clzC_5 (by decide) rfl (List.mem_of_getElem? (i := 3) rfl) rfl ?_
        refine ww_iload_n (pc := 40) X (j := 2) dX0_arePointsRight_40 rfl rfl ?_
        refine ww_aload_n (pc := 41) X (j := 1) dX0_arePointsRight_41 rfl rfl ?_
        refine ww_iload_n (pc := 42) X (j := 2) dX0_arePointsRight_42 rfl rfl ?_
        refine ww_iconst (pc := 43) X (v := 0) dX0_arePointsRight_43 (by decide) ?_
        obtain ⟨r12, h11, hF⟩ := bd_some hF
        refine ww_callVi (pc := 44) X (As := [.int a2, .int 0]) (rest := [.int a2, .ref (G.2.1 76)]) dX0_arePointsRight_44 (kX5_fixedAt_71 (mL M) G hZ X.2.2.2.2.2.2.1 X.2.2.2.2.2.2.2.1 σ a2 0 r12 h11) rfl shzC_71 clzC_5 gX0_arePointsRight_X5_fixedAt hyX5_fixedAt ⟨rfl, rfl⟩ ⟨Nat.le_of_ble_eq_true rfl, Nat.le_of_ble_eq_true rfl⟩ rfl rfl (Nat.le_of_ble_eq_true rfl) ?_
        refine ww_aload_n (pc := 47) X (j := 1) dX0_arePointsRight_47 rfl rfl ?_
        refine ww_iload_n (pc := 48) X (j := 2) dX0_arePointsRight_48 rfl rfl ?_
        refine ww_iconst (pc := 49) X (v := 1) dX0_arePointsRight_49 (by decide) ?_
        obtain ⟨r14, h13, hF⟩ := bd_some hF
        refine ww_callVi (pc := 50) X (As := [.int a2, .int 1]) (rest := [.int r12, .int a2, .ref (G.2.1 76)]) dX0_arePointsRight_50 (kX5_fixedAt_71 (mL M) G hZ X.2.2.2.2.2.2.1 X.2.2.2.2.2.2.2.1 σ a2 1 r14 h13) rfl shzC_71 clzC_5 gX0_arePointsRight_X5_fixedAt hyX5_fixedAt ⟨rfl, rfl⟩ ⟨Nat.le_of_ble_eq_true rfl, Nat.le_of_ble_eq_true rfl⟩ rfl rfl (Nat.le_of_ble_eq_true rfl) ?_
        obtain ⟨r16, h15, hF⟩ := bd_some hF
        refine ww_callSi (pc := 53) X (As := [.ref (G.2.1 76), .int a2, .int r12, .int r14]) (rest := []) dX0_arePointsRight_53 (kX0_isAt_76 (mL M) G hZ X.2.2.2.2.2.2.1 X.2.2.2.2.2.2.2.1 σ a2 r12 r14 r16 h15) rfl gX0_arePointsRight_X0_isAt hyX0_isAt ⟨rfl, rfl⟩ ⟨Nat.le_of_ble_eq_true rfl, Nat.le_of_ble_eq_true rfl⟩ rfl rfl (Nat.le_of_ble_eq_true rfl) ?_
        refine ww_if_ne (pc := 56) (tgt := 61) X dX0_arePointsRight_56 (by decide) hF (fun h17 hF => ?_) (fun h17 hF => ?_)
        · refine ww_iinc (pc := 61) X (j := 2) (v := 1) (lv' := [(0, .ref (G.2.1 197)), (1, .ref (G.2.1 71))]) dX0_arePointsRight_61 rfl rfl (by decide) rfl hF (fun x18 ex18 hF => ?_)
          refine ww_goto (pc := 64) X (tgt := 2) dX0_arePointsRight_64 (by decide) ?_
          exact ww_sub [1, 2, 0] rfl (ih2 x18 hF)
        · refine ww_iconst (pc := 59) X (v := 0) dX0_arePointsRight_59 (by decide) ?_
          exact ww_zret (pc := 60) X dX0_arePointsRight_60 (by cases hF; rfl) rfl
    · refine ww_iconst (pc := 26) X (v := 0) dX0_arePointsRight_26 (by decide) ?_
      exact ww_zret (pc := 27) X dX0_arePointsRight_27 (by cases hF; rfl) rfl
set_option maxRecDepth 100000 in
set_option maxHeartbeats 4000000 in
theorem wX0_arePointsRight_71 {M : gM} {G : gG} {out : Int32} (X : gX M G zC cX0_arePointsRight RX0 3 wsX0_arePointsRight rmX0_arePointsRight (some .boolean)) {ex : gEx} (hZ : ∀ s : State, G.2.2.2 s → kC ex (gA G zC.1) s) (σ : gS) (hF : fX0_arePointsRight_71 σ = some out) : WW M (gQi M G zC out σ) G zC 3 σ 0 [(0, .ref (G.2.1 197)), (1, .ref (G.2.1 71))] [] := by
  unfold fX0_arePointsRight_71 at hF
  refine ww_iconst (pc := 0) X (v := 0) dX0_arePointsRight_0 (by decide) ?_
  refine ww_istore_n (pc := 1) X (lv' := [(0, .ref (G.2.1 197)), (1, .ref (G.2.1 71))]) dX0_arePointsRight_1 rfl (by decide) rfl hF (fun x1 ex1 hF => ?_)
  exact ww_sub [1, 2, 0] rfl (lpc_ind (P := (fun (s : Int32) => WW M (gQi M G zC out σ) G zC 3 σ 2 [(0, .ref (G.2.1 197)), (1, .ref (G.2.1 71)), (2, .int s)] [])) (fun rec s ih hF => wbX0_arePointsRight_71_2 X hZ σ (fun a2 => rec (a2)) (fun a2 h => ih (a2) h) s hF) K9 (x1) hF)
set_option maxRecDepth 100000 in
set_option maxHeartbeats 4000000 in
theorem kX0_arePointsRight_71 (l : Launch) (G : gG) {ex : gEx} (hZ : ∀ s : State, G.2.2.2 s → kC ex (gA G zC.1) s) (hG : gOK G zC.1) (hT : G.2.2.1.map (fun q => q.2) = zC.2.1) (σ : gS) (out : Int32) (hF : fX0_arePointsRight_71 σ = some out) : gCi l yX0_arePointsRight wsX0_arePointsRight rmX0_arePointsRight G zC [.ref (G.2.1 197), .ref (G.2.1 71)] σ out σ :=
  gEnter (by decide) rfl ⟨rfl, rfl⟩ hG hT (Nat.le_of_ble_eq_true rfl) rfl (fun M X hl => wX0_arePointsRight_71 X hZ σ hF)
noncomputable def fX0_isNear_79 (σ : gS) (p1 : Int32) : Option (Int32) :=
  gd (gb 0 2) <| gd (gb p1 6) <| nm (σ.1 80 p1.toNatClampNeg) fun v2 => (if v2 < ((-100000000)) then some 0 else gd (gb 0 2) <| gd (gb p1 6) <| nm (σ.1 80 p1.toNatClampNeg) fun v5 => (if 100000000 < v5 then some 0 else gd (gb 1 2) <| gd (gb p1 6) <| nm (σ.1 81 p1.toNatClampNeg) fun v8 => (if v8 < ((-100000000)) then some 0 else gd (gb 1 2) <| gd (gb p1 6) <| nm (σ.1 81 p1.toNatClampNeg) fun v11 => (if 100000000 < v11 then some 0 else some 1))))
set_option maxRecDepth 100000 in
set_option maxHeartbeats 4000000 in
theorem wX0_isNear_79 {M : gM} {G : gG} {out : Int32} (X : gX M G zC cX0_isNear RX0 2 wsX0_isNear rmX0_isNear (some .boolean)) {ex : gEx} (hZ : ∀ s : State, G.2.2.2 s → kC ex (gA G zC.1) s) (σ : gS) (p1 : Int32) (hF : fX0_isNear_79 σ p1 = some out) : WW M (gQi M G zC out σ) G zC 2 σ 0 [(0, .ref (G.2.1 79)), (1, .int p1)] [] := by
  unfold fX0_isNear_79 at hF
  refine ww_aload_n (pc := 0) X (j := 0) dX0_isNear_0 rfl rfl ?_
  refine ww_iconst (pc := 1) X (v := 0) dX0_isNear_1 (by decide) ?_
  refine ww_aald (pc := 2) X dX0_isNear_2 shzC_79 rfl hF (fun h1 hF => ?_)
  show WW M _ G zC _ _ _ _ (.ref (G.2.1 80) :: _)
  refine ww_iload_n (pc := 3) X (j := 1) dX0_isNear_3 rfl rfl ?_
  refine ww_iald (pc := 4) X dX0_isNear_4 shzC_80 rfl hF (fun v2 ev2 bv2 hF => ?_)
  refine ww_ldc (pc := 5) X (v := (-100000000)) (List.mem_of_getElem? (i := 1) rfl) dX0_isNear_5 ?_
  refine ww_icmp_lt (pc := 7) (tgt := 44) X dX0_isNear_7 (by decide) hF (fun h3 hF => ?_) (fun h3 hF => ?_)
  · refine ww_iconst (pc := 44) X (v := 0) dX0_isNear_44 (by decide) ?_
    exact ww_zret (pc := 45) X dX0_isNear_45 (by cases hF; rfl) rfl
  · refine ww_aload_n (pc := 10) X (j := 0) dX0_isNear_10 rfl rfl ?_
    refine ww_iconst (pc := 11) X (v := 0) dX0_isNear_11 (by decide) ?_
    refine ww_aald (pc := 12) X dX0_isNear_12 shzC_79 rfl hF (fun h4 hF => ?_)
    show WW M _ G zC _ _ _ _ (.ref (G.2.1 80) :: _)
    refine ww_iload_n (pc := 13) X (j := 1) dX0_isNear_13 rfl rfl ?_
    refine ww_iald (pc := 14) X dX0_isNear_14 shzC_80 rfl hF (fun v5 ev5 bv5 hF => ?_)
    refine ww_ldc (pc := 15) X (v := 100000000) (List.mem_of_getElem? (i := 2) rfl) dX0_isNear_15 ?_
    refine ww_icmp_gt (pc := 17) (tgt := 44) X dX0_isNear_17 (by decide) hF (fun h6 hF => ?_) (fun h6 hF => ?_)
    · refine ww_iconst (pc := 44) X (v := 0) dX0_isNear_44 (by decide) ?_
      exact ww_zret (pc := 45) X dX0_isNear_45 (by cases hF; rfl) rfl
    · refine ww_aload_n (pc := 20) X (j := 0) dX0_isNear_20 rfl rfl ?_
      refine ww_iconst (pc := 21) X (v := 1) dX0_isNear_21 (by decide) ?_
      refine ww_aald (pc := 22) X dX0_isNear_22 shzC_79 rfl hF (fun h7 hF => ?_)
      show WW M _ G zC _ _ _ _ (.ref (G.2.1 81) :: _)
      refine ww_iload_n (pc := 23) X (j := 1) dX0_isNear_23 rfl rfl ?_
      refine ww_iald (pc := 24) X dX0_isNear_24 shzC_81 rfl hF (fun v8 ev8 bv8 hF => ?_)
      refine ww_ldc (pc := 25) X (v := (-100000000)) (List.mem_of_getElem? (i := 1) rfl) dX0_isNear_25 ?_
      refine ww_icmp_lt (pc := 27) (tgt := 44) X dX0_isNear_27 (by decide) hF (fun h9 hF => ?_) (fun h9 hF => ?_)
      · refine ww_iconst (pc := 44) X (v := 0) dX0_isNear_44 (by decide) ?_
        exact ww_zret (pc := 45) X dX0_isNear_45 (by cases hF; rfl) rfl
      · refine ww_aload_n (pc := 30) X (j := 0) dX0_isNear_30 rfl rfl ?_
        refine ww_iconst (pc := 31) X (v := 1) dX0_isNear_31 (by decide) ?_
        refine ww_aald (pc := 32) X dX0_isNear_32 shzC_79 rfl hF (fun h10 hF => ?_)
        show WW M _ G zC _ _ _ _ (.ref (G.2.1 81) :: _)
        refine ww_iload_n (pc := 33) X (j := 1) dX0_isNear_33 rfl rfl ?_
        refine ww_iald (pc := 34) X dX0_isNear_34 shzC_81 rfl hF (fun v11 ev11 bv11 hF => ?_)
        refine ww_ldc (pc := 35) X (v := 100000000) (List.mem_of_getElem? (i := 2) rfl) dX0_isNear_35 ?_
        refine ww_icmp_gt (pc := 37) (tgt := 44) X dX0_isNear_37 (by decide) hF (fun h12 hF => ?_) (fun h12 hF => ?_)
        · refine ww_iconst (pc := 44) X (v := 0) dX0_isNear_44 (by decide) ?_
          exact ww_zret (pc := 45) X dX0_isNear_45 (by cases hF; rfl) rfl
        · refine ww_iconst (pc := 40) X (v := 1) dX0_isNear_40 (by decide) ?_
          refine ww_goto (pc := 41) X (tgt := 45) dX0_isNear_41 (by decide) ?_
          exact ww_zret (pc := 45) X dX0_isNear_45 (by cases hF; rfl) rfl
set_option maxRecDepth 100000 in
set_option maxHeartbeats 4000000 in
theorem kX0_isNear_79 (l : Launch) (G : gG) {ex : gEx} (hZ : ∀ s : State, G.2.2.2 s → kC ex (gA G zC.1) s) (hG : gOK G zC.1) (hT : G.2.2.1.map (fun q => q.2) = zC.2.1) (σ : gS) (p1 : Int32) (out : Int32) (hF : fX0_isNear_79 σ p1 = some out) : gCi l yX0_isNear wsX0_isNear rmX0_isNear G zC [.ref (G.2.1 79), .int p1] σ out σ :=
  gEnter (by decide) rfl ⟨rfl, rfl⟩ hG hT (Nat.le_of_ble_eq_true rfl) rfl (fun M X hl => wX0_isNear_79 X hZ σ p1 hF)
noncomputable def fX0_isAt_79 (σ : gS) (p1 : Int32) (p2 : Int32) (p3 : Int32) : Option (Int32) :=
  gd (gb 0 2) <| gd (gb p1 6) <| nm (σ.1 80 p1.toNatClampNeg) fun v2 => (if v2 = p2 then gd (gb 1 2) <| gd (gb p1 6) <| nm (σ.1 81 p1.toNatClampNeg) fun v5 => (if v5 = p3 then some 1 else some 0) else some 0)
set_option maxRecDepth 100000 in
set_option maxHeartbeats 4000000 in
theorem wX0_isAt_79 {M : gM} {G : gG} {out : Int32} (X : gX M G zC cX0_isAt RX0 4 wsX0_isAt rmX0_isAt (some .boolean)) {ex : gEx} (hZ : ∀ s : State, G.2.2.2 s → kC ex (gA G zC.1) s) (σ : gS) (p1 : Int32) (p2 : Int32) (p3 : Int32) (hF : fX0_isAt_79 σ p1 p2 p3 = some out) : WW M (gQi M G zC out σ) G zC 4 σ 0 [(0, .ref (G.2.1 79)), (1, .int p1), (2, .int p2), (3, .int p3)] [] := by
  unfold fX0_isAt_79 at hF
  refine ww_aload_n (pc := 0) X (j := 0) dX0_isAt_0 rfl rfl ?_
  refine ww_iconst (pc := 1) X (v := 0) dX0_isAt_1 (by decide) ?_
  refine ww_aald (pc := 2) X dX0_isAt_2 shzC_79 rfl hF (fun h1 hF => ?_)
  show WW M _ G zC _ _ _ _ (.ref (G.2.1 80) :: _)
  refine ww_iload_n (pc := 3) X (j := 1) dX0_isAt_3 rfl rfl ?_
  refine ww_iald (pc := 4) X dX0_isAt_4 shzC_80 rfl hF (fun v2 ev2 bv2 hF => ?_)
  refine ww_iload_n (pc := 5) X (j := 2) dX0_isAt_5 rfl rfl ?_
  refine ww_icmp_ne (pc := 6) (tgt := 22) X dX0_isAt_6 (by decide) hF (fun h3 hF => ?_) (fun h3 hF => ?_)
  · refine ww_iconst (pc := 22) X (v := 0) dX0_isAt_22 (by decide) ?_
    exact ww_zret (pc := 23) X dX0_isAt_23 (by cases hF; rfl) rfl
  · refine ww_aload_n (pc := 9) X (j := 0) dX0_isAt_9 rfl rfl ?_
    refine ww_iconst (pc := 10) X (v := 1) dX0_isAt_10 (by decide) ?_
    refine ww_aald (pc := 11) X dX0_isAt_11 shzC_79 rfl hF (fun h4 hF => ?_)
    show WW M _ G zC _ _ _ _ (.ref (G.2.1 81) :: _)
    refine ww_iload_n (pc := 12) X (j := 1) dX0_isAt_12 rfl rfl ?_
    refine ww_iald (pc := 13) X dX0_isAt_13 shzC_81 rfl hF (fun v5 ev5 bv5 hF => ?_)
    refine ww_iload_n (pc := 14) X (j := 3) dX0_isAt_14 rfl rfl ?_
    refine ww_icmp_ne (pc := 15) (tgt := 22) X dX0_isAt_15 (by decide) hF (fun h6 hF => ?_) (fun h6 hF => ?_)
    · refine ww_iconst (pc := 22) X (v := 0) dX0_isAt_22 (by decide) ?_
      exact ww_zret (pc := 23) X dX0_isAt_23 (by cases hF; rfl) rfl
    · refine ww_iconst (pc := 18) X (v := 1) dX0_isAt_18 (by decide) ?_
      refine ww_goto (pc := 19) X (tgt := 23) dX0_isAt_19 (by decide) ?_
      exact ww_zret (pc := 23) X dX0_isAt_23 (by cases hF; rfl) rfl
set_option maxRecDepth 100000 in
set_option maxHeartbeats 4000000 in
theorem kX0_isAt_79 (l : Launch) (G : gG) {ex : gEx} (hZ : ∀ s : State, G.2.2.2 s → kC ex (gA G zC.1) s) (hG : gOK G zC.1) (hT : G.2.2.1.map (fun q => q.2) = zC.2.1) (σ : gS) (p1 : Int32) (p2 : Int32) (p3 : Int32) (out : Int32) (hF : fX0_isAt_79 σ p1 p2 p3 = some out) : gCi l yX0_isAt wsX0_isAt rmX0_isAt G zC [.ref (G.2.1 79), .int p1, .int p2, .int p3] σ out σ :=
  gEnter (by decide) rfl ⟨rfl, rfl⟩ hG hT (Nat.le_of_ble_eq_true rfl) rfl (fun M X hl => wX0_isAt_79 X hZ σ p1 p2 p3 hF)
noncomputable def bX0_areDriftsRight_71_2 (σ : gS) (rec2 : Int32 → Option (Int32)) (a2 : Int32) : Option (Int32) :=
  gd (gb 0 6) <| nm (σ.1 3 ((0 : Int32).toNatClampNeg)) fun v2 => (if v2 ≤ a2 then some 1 else bd (fX0_isNear_79 σ a2) fun r5 => (if r5 = 0 then some 0 else bd (fX8_drifts_2 σ a2) fun r8 => (if r8 = 0 then bd (fX0_isAt_79 σ a2 0 0) fun r12 => (if r12 = 0 then some 0 else nm (a2 + 1 : Int32) fun x14 => rec2 x14) else nm (a2 + 1 : Int32) fun x10 => rec2 x10)))
noncomputable def fX0_areDriftsRight_71 (σ : gS) : Option (Int32) :=
  nm (0 : Int32) fun x1 => lpc (S := Int32) K9 (fun rec s => bX0_areDriftsRight_71_2 σ (fun a2 => rec (a2)) s) (x1)
noncomputable abbrev rmX0_areDriftsRight : Room := { frames := 1, cells := 0, slots := 0, locals := 23 }
set_option maxRecDepth 100000 in
set_option maxHeartbeats 4000000 in
theorem wbX0_areDriftsRight_71_2 {M : gM} {G : gG} {out : Int32} (X : gX M G zC cX0_areDriftsRight RX0 3 wsX0_areDriftsRight rmX0_areDriftsRight (some .boolean)) {ex : gEx} (hZ : ∀ s : State, G.2.2.2 s → kC ex (gA G zC.1) s) (σ : gS) (rec2 : Int32 → Option (Int32)) (ih2 : ∀ (a2 : Int32), rec2 a2 = some out → WW M (gQi M G zC out σ) G zC 3 σ 2 [(0, .ref (G.2.1 197)), (1, .ref (G.2.1 71)), (2, .int a2)] []) (a2 : Int32) (hF : bX0_areDriftsRight_71_2 σ rec2 a2 = some out) : WW M (gQi M G zC out σ) G zC 3 σ 2 [(0, .ref (G.2.1 197)), (1, .ref (G.2.1 71)), (2, .int a2)] [] := by
  unfold bX0_areDriftsRight_71_2 at hF
  refine ww_iload_n (pc := 2) X (j := 2) dX0_areDriftsRight_2 rfl rfl ?_
  refine ww_aload_n (pc := 3) X (j := 0) dX0_areDriftsRight_3 rfl rfl ?_
  refine ww_get (pc := 4) X (ref := "PictureBlock$Imager") (T := TX0) (j := 0) dX0_areDriftsRight_4 inX0_areDriftsRight_RX0 shzC_197 clzC_0 (by decide) rfl (List.mem_of_getElem? (i := 1) rfl) rfl ?_
  refine ww_get (pc := 7) X (ref := "PictureBlock$Told") (T := TX8) (j := 0) dX0_areDriftsRight_7 inX0_areDriftsRight_RX8 shzC_2 clzC_8 (by decide) rfl (List.mem_of_getElem? (i := 2) rfl) rfl ?_
  refine ww_iconst (pc := 10) X (v := 0) dX0_areDriftsRight_10 (by decide) ?_
  refine ww_iald (pc := 11) X dX0_areDriftsRight_11 shzC_3 rfl hF (fun v2 ev2 bv2 hF => ?_)
  refine ww_icmp_ge (pc := 12) (tgt := 60) X dX0_areDriftsRight_12 (by decide) hF (fun h3 hF => ?_) (fun h3 hF => ?_)
  · refine ww_iconst (pc := 60) X (v := 1) dX0_areDriftsRight_60 (by decide) ?_
    exact ww_zret (pc := 61) X dX0_areDriftsRight_61 (by cases hF; rfl) rfl
  · refine ww_aload_n (pc := 15) X (j := 1) dX0_areDriftsRight_15 rfl rfl ?_
    refine ww_get (pc := 16) X (ref := "PictureBlock$Stand") (T := TX5) (j := 5) dX0_areDriftsRight_16 inX0_areDriftsRight_RX5 shzC_71 clzC_5 (by decide) rfl (List.mem_of_getElem? (i := 3) rfl) rfl ?_
    refine ww_iload_n (pc := 19) X (j := 2) dX0_areDriftsRight_19 rfl rfl ?_
    obtain ⟨r5, h4, hF⟩ := bd_some hF
    refine ww_callSi (pc := 20) X (As := [.ref (G.2.1 79), .int a2]) (rest := []) dX0_areDriftsRight_20 (kX0_isNear_79 (mL M) G hZ X.2.2.2.2.2.2.1 X.2.2.2.2.2.2.2.1 σ a2 r5 h4) rfl gX0_areDriftsRight_X0_isNear hyX0_isNear ⟨rfl, rfl⟩ ⟨Nat.le_of_ble_eq_true rfl, Nat.le_of_ble_eq_true rfl⟩ rfl rfl (Nat.le_of_ble_eq_true rfl) ?_
    refine ww_if_ne (pc := 23) (tgt := 28) X dX0_areDriftsRight_23 (by decide) hF (fun h6 hF => ?_) (fun h6 hF => ?_)
    · refine ww_aload_n (pc := 28) X (j := 0) dX0_areDriftsRight_28 rfl rfl ?_
      refine ww_get (pc := 29) X (ref := "PictureBlock$Imager") (T := TX0) (j := 0) dX0_areDriftsRight_29 inX0_areDriftsRight_RX0 shzC_197 clzC_0 (by decide) rfl (List.mem_of_getElem? (i := 1) rfl) rfl ?_
      refine ww_iload_n (pc := 32) X (j := 2) dX0_areDriftsRight_32 rfl rfl ?_
      obtain ⟨r8, h7, hF⟩ := bd_some hF
      refine ww_callVi (pc := 33) X (As := [.int a2]) (rest := []) dX0_areDriftsRight_33 (kX8_drifts_2 (mL M) G hZ X.2.2.2.2.2.2.1 X.2.2.2.2.2.2.2.1 σ a2 r8 h7) rfl shzC_2 clzC_8 gX0_areDriftsRight_X8_drifts hyX8_drifts ⟨rfl, rfl⟩ ⟨Nat.le_of_ble_eq_true rfl, Nat.le_of_ble_eq_true rfl⟩ rfl rfl (Nat.le_of_ble_eq_true rfl) ?_
      refine ww_if_ne (pc := 36) (tgt := 54) X dX0_areDriftsRight_36 (by decide) hF (fun h9 hF => ?_) (fun h9 hF => ?_)
      · refine ww_iinc (pc := 54) X (j := 2) (v := 1) (lv' := [(0, .ref (G.2.1 197)), (1, .ref (G.2.1 71))]) dX0_areDriftsRight_54 rfl rfl (by decide) rfl hF (fun x10 ex10 hF => ?_)
        refine ww_goto (pc := 57) X (tgt := 2) dX0_areDriftsRight_57 (by decide) ?_
        exact ww_sub [1, 2, 0] rfl (ih2 x10 hF)
      · refine ww_aload_n (pc := 39) X (j := 1) dX0_areDriftsRight_39 rfl rfl ?_
        refine ww_get (pc := 40) X (ref := "PictureBlock$Stand") (T := TX5) (j := 5) dX0_areDriftsRight_40 inX0_areDriftsRight_RX5 shzC_71 clzC_5 (by decide) rfl (List.mem_of_getElem? (i := 3) rfl) rfl ?_
        refine ww_iload_n (pc := 43) X (j := 2) dX0_areDriftsRight_43 rfl rfl ?_
        refine ww_iconst (pc := 44) X (v := 0) dX0_areDriftsRight_44 (by decide) ?_
        refine ww_iconst (pc := 45) X (v := 0) dX0_areDriftsRight_45 (by decide) ?_
        obtain ⟨r12, h11, hF⟩ := bd_some hF
        refine ww_callSi (pc := 46) X (As := [.ref (G.2.1 79), .int a2, .int 0, .int 0]) (rest := []) dX0_areDriftsRight_46 (kX0_isAt_79 (mL M) G hZ X.2.2.2.2.2.2.1 X.2.2.2.2.2.2.2.1 σ a2 0 0 r12 h11) rfl gX0_areDriftsRight_X0_isAt hyX0_isAt ⟨rfl, rfl⟩ ⟨Nat.le_of_ble_eq_true rfl, Nat.le_of_ble_eq_true rfl⟩ rfl rfl (Nat.le_of_ble_eq_true rfl) ?_
        refine ww_if_ne (pc := 49) (tgt := 54) X dX0_areDriftsRight_49 (by decide) hF (fun h13 hF => ?_) (fun h13 hF => ?_)
        · refine ww_iinc (pc := 54) X (j := 2) (v := 1) (lv' := [(0, .ref (G.2.1 197)), (1, .ref (G.2.1 71))]) dX0_areDriftsRight_54 rfl rfl (by decide) rfl hF (fun x14 ex14 hF => ?_)
          refine ww_goto (pc := 57) X (tgt := 2) dX0_areDriftsRight_57 (by decide) ?_
          exact ww_sub [1, 2, 0] rfl (ih2 x14 hF)
        · refine ww_iconst (pc := 52) X (v := 0) dX0_areDriftsRight_52 (by decide) ?_
          exact ww_zret (pc := 53) X dX0_areDriftsRight_53 (by cases hF; rfl) rfl
    · refine ww_iconst (pc := 26) X (v := 0) dX0_areDriftsRight_26 (by decide) ?_
      exact ww_zret (pc := 27) X dX0_areDriftsRight_27 (by cases hF; rfl) rfl
set_option maxRecDepth 100000 in
set_option maxHeartbeats 4000000 in
theorem wX0_areDriftsRight_71 {M : gM} {G : gG} {out : Int32} (X : gX M G zC cX0_areDriftsRight RX0 3 wsX0_areDriftsRight rmX0_areDriftsRight (some .boolean)) {ex : gEx} (hZ : ∀ s : State, G.2.2.2 s → kC ex (gA G zC.1) s) (σ : gS) (hF : fX0_areDriftsRight_71 σ = some out) : WW M (gQi M G zC out σ) G zC 3 σ 0 [(0, .ref (G.2.1 197)), (1, .ref (G.2.1 71))] [] := by
  unfold fX0_areDriftsRight_71 at hF
  refine ww_iconst (pc := 0) X (v := 0) dX0_areDriftsRight_0 (by decide) ?_
  refine ww_istore_n (pc := 1) X (lv' := [(0, .ref (G.2.1 197)), (1, .ref (G.2.1 71))]) dX0_areDriftsRight_1 rfl (by decide) rfl hF (fun x1 ex1 hF => ?_)
  exact ww_sub [1, 2, 0] rfl (lpc_ind (P := (fun (s : Int32) => WW M (gQi M G zC out σ) G zC 3 σ 2 [(0, .ref (G.2.1 197)), (1, .ref (G.2.1 71)), (2, .int s)] [])) (fun rec s ih hF => wbX0_areDriftsRight_71_2 X hZ σ (fun a2 => rec (a2)) (fun a2 h => ih (a2) h) s hF) K9 (x1) hF)
set_option maxRecDepth 100000 in
set_option maxHeartbeats 4000000 in
theorem kX0_areDriftsRight_71 (l : Launch) (G : gG) {ex : gEx} (hZ : ∀ s : State, G.2.2.2 s → kC ex (gA G zC.1) s) (hG : gOK G zC.1) (hT : G.2.2.1.map (fun q => q.2) = zC.2.1) (σ : gS) (out : Int32) (hF : fX0_areDriftsRight_71 σ = some out) : gCi l yX0_areDriftsRight wsX0_areDriftsRight rmX0_areDriftsRight G zC [.ref (G.2.1 197), .ref (G.2.1 71)] σ out σ :=
  gEnter (by decide) rfl ⟨rfl, rfl⟩ hG hT (Nat.le_of_ble_eq_true rfl) rfl (fun M X hl => wX0_areDriftsRight_71 X hZ σ hF)
noncomputable def bX0_areRowsRight_71_2 (σ : gS) (rec2 : Int32 → Option (Int32)) (a2 : Int32) : Option (Int32) :=
  gd (gb 3 6) <| nm (σ.1 3 ((3 : Int32).toNatClampNeg)) fun v2 => (if v2 ≤ a2 then some 1 else gd (gb a2 60) <| nm (σ.1 82 a2.toNatClampNeg) fun v4 => (if v4 ≤ 1 then nm (a2 + 1 : Int32) fun x6 => rec2 x6 else some 0))
noncomputable def fX0_areRowsRight_71 (σ : gS) : Option (Int32) :=
  nm (0 : Int32) fun x1 => lpc (S := Int32) K9 (fun rec s => bX0_areRowsRight_71_2 σ (fun a2 => rec (a2)) s) (x1)
noncomputable abbrev rmX0_areRowsRight : Room := { frames := 0, cells := 0, slots := 0, locals := 0 }
set_option maxRecDepth 100000 in
set_option maxHeartbeats 4000000 in
theorem wbX0_areRowsRight_71_2 {M : gM} {G : gG} {out : Int32} (X : gX M G zC cX0_areRowsRight RX0 3 wsX0_areRowsRight rmX0_areRowsRight (some .boolean)) {ex : gEx} (hZ : ∀ s : State, G.2.2.2 s → kC ex (gA G zC.1) s) (σ : gS) (rec2 : Int32 → Option (Int32)) (ih2 : ∀ (a2 : Int32), rec2 a2 = some out → WW M (gQi M G zC out σ) G zC 3 σ 2 [(0, .ref (G.2.1 197)), (1, .ref (G.2.1 71)), (2, .int a2)] []) (a2 : Int32) (hF : bX0_areRowsRight_71_2 σ rec2 a2 = some out) : WW M (gQi M G zC out σ) G zC 3 σ 2 [(0, .ref (G.2.1 197)), (1, .ref (G.2.1 71)), (2, .int a2)] [] := by
  unfold bX0_areRowsRight_71_2 at hF
  refine ww_iload_n (pc := 2) X (j := 2) dX0_areRowsRight_2 rfl rfl ?_
  refine ww_aload_n (pc := 3) X (j := 0) dX0_areRowsRight_3 rfl rfl ?_
  refine ww_get (pc := 4) X (ref := "PictureBlock$Imager") (T := TX0) (j := 0) dX0_areRowsRight_4 inX0_areRowsRight_RX0 shzC_197 clzC_0 (by decide) rfl (List.mem_of_getElem? (i := 1) rfl) rfl ?_
  refine ww_get (pc := 7) X (ref := "PictureBlock$Told") (T := TX8) (j := 0) dX0_areRowsRight_7 inX0_areRowsRight_RX8 shzC_2 clzC_8 (by decide) rfl (List.mem_of_getElem? (i := 2) rfl) rfl ?_
  refine ww_iconst (pc := 10) X (v := 3) dX0_areRowsRight_10 (by decide) ?_
  refine ww_iald (pc := 11) X dX0_areRowsRight_11 shzC_3 rfl hF (fun v2 ev2 bv2 hF => ?_)
  refine ww_icmp_ge (pc := 12) (tgt := 33) X dX0_areRowsRight_12 (by decide) hF (fun h3 hF => ?_) (fun h3 hF => ?_)
  · refine ww_iconst (pc := 33) X (v := 1) dX0_areRowsRight_33 (by decide) ?_
    exact ww_zret (pc := 34) X dX0_areRowsRight_34 (by cases hF; rfl) rfl
  · refine ww_aload_n (pc := 15) X (j := 1) dX0_areRowsRight_15 rfl rfl ?_
    refine ww_get (pc := 16) X (ref := "PictureBlock$Stand") (T := TX5) (j := 6) dX0_areRowsRight_16 inX0_areRowsRight_RX5 shzC_71 clzC_5 (by decide) rfl (List.mem_of_getElem? (i := 3) rfl) rfl ?_
    refine ww_iload_n (pc := 19) X (j := 2) dX0_areRowsRight_19 rfl rfl ?_
    refine ww_iald (pc := 20) X dX0_areRowsRight_20 shzC_82 rfl hF (fun v4 ev4 bv4 hF => ?_)
    refine ww_iconst (pc := 21) X (v := 1) dX0_areRowsRight_21 (by decide) ?_
    refine ww_icmp_le (pc := 22) (tgt := 27) X dX0_areRowsRight_22 (by decide) hF (fun h5 hF => ?_) (fun h5 hF => ?_)
    · refine ww_iinc (pc := 27) X (j := 2) (v := 1) (lv' := [(0, .ref (G.2.1 197)), (1, .ref (G.2.1 71))]) dX0_areRowsRight_27 rfl rfl (by decide) rfl hF (fun x6 ex6 hF => ?_)
      refine ww_goto (pc := 30) X (tgt := 2) dX0_areRowsRight_30 (by decide) ?_
      exact ww_sub [1, 2, 0] rfl (ih2 x6 hF)
    · refine ww_iconst (pc := 25) X (v := 0) dX0_areRowsRight_25 (by decide) ?_
      exact ww_zret (pc := 26) X dX0_areRowsRight_26 (by cases hF; rfl) rfl
set_option maxRecDepth 100000 in
set_option maxHeartbeats 4000000 in
theorem wX0_areRowsRight_71 {M : gM} {G : gG} {out : Int32} (X : gX M G zC cX0_areRowsRight RX0 3 wsX0_areRowsRight rmX0_areRowsRight (some .boolean)) {ex : gEx} (hZ : ∀ s : State, G.2.2.2 s → kC ex (gA G zC.1) s) (σ : gS) (hF : fX0_areRowsRight_71 σ = some out) : WW M (gQi M G zC out σ) G zC 3 σ 0 [(0, .ref (G.2.1 197)), (1, .ref (G.2.1 71))] [] := by
  unfold fX0_areRowsRight_71 at hF
  refine ww_iconst (pc := 0) X (v := 0) dX0_areRowsRight_0 (by decide) ?_
  refine ww_istore_n (pc := 1) X (lv' := [(0, .ref (G.2.1 197)), (1, .ref (G.2.1 71))]) dX0_areRowsRight_1 rfl (by decide) rfl hF (fun x1 ex1 hF => ?_)
  exact ww_sub [1, 2, 0] rfl (lpc_ind (P := (fun (s : Int32) => WW M (gQi M G zC out σ) G zC 3 σ 2 [(0, .ref (G.2.1 197)), (1, .ref (G.2.1 71)), (2, .int s)] [])) (fun rec s ih hF => wbX0_areRowsRight_71_2 X hZ σ (fun a2 => rec (a2)) (fun a2 h => ih (a2) h) s hF) K9 (x1) hF)
set_option maxRecDepth 100000 in
set_option maxHeartbeats 4000000 in
theorem kX0_areRowsRight_71 (l : Launch) (G : gG) {ex : gEx} (hZ : ∀ s : State, G.2.2.2 s → kC ex (gA G zC.1) s) (hG : gOK G zC.1) (hT : G.2.2.1.map (fun q => q.2) = zC.2.1) (σ : gS) (out : Int32) (hF : fX0_areRowsRight_71 σ = some out) : gCi l yX0_areRowsRight wsX0_areRowsRight rmX0_areRowsRight G zC [.ref (G.2.1 197), .ref (G.2.1 71)] σ out σ :=
  gEnter (by decide) rfl ⟨rfl, rfl⟩ hG hT (Nat.le_of_ble_eq_true rfl) rfl (fun M X hl => wX0_areRowsRight_71 X hZ σ hF)
noncomputable def fX0_read_71 (σ : gS) (p1 : Nat) (p2 : Int32) : Option (Int32 × gS) :=
  bd (fX0_dueLength σ) fun r2 => (if p2 = r2 then gd (gis zC.1 0 0 p1) <| (if p2 ≤ (Int32.ofNat (gsz zC.1 0 0 p1)) then bd (fX0_check σ p1 (p2 - 1)) fun r7 => gd (gb (p2 - 1) (gsz zC.1 0 0 p1)) <| nm (σ.1 p1 (p2 - 1).toNatClampNeg) fun v8 => (if r7 = v8 then bd (fX0_take_71 σ p1) fun σ11 => (if 3 < (σ11.1 71 1) then some (0, σ11) else bd (fX0_arePicturesRight_71 σ11) fun r14 => (if r14 = 0 then some (0, σ11) else bd (fX0_arePointsRight_71 σ11) fun r17 => (if r17 = 0 then some (0, σ11) else bd (fX0_areDriftsRight_71 σ11) fun r20 => (if r20 = 0 then some (0, σ11) else bd (fX0_areRowsRight_71 σ11) fun r23 => (if r23 = 0 then some (0, σ11) else some (1, σ11)))))) else some (0, σ)) else some (0, σ)) else some (0, σ))
noncomputable abbrev rmX0_read : Room := { frames := 2, cells := 0, slots := 0, locals := 49 }
set_option maxRecDepth 100000 in
set_option maxHeartbeats 4000000 in
theorem wX0_read_71 {M : gM} {G : gG} {out : Int32 × gS} (X : gX M G zC cX0_read RX0 4 wsX0_read rmX0_read (some .boolean)) {ex : gEx} (hZ : ∀ s : State, G.2.2.2 s → kC ex (gA G zC.1) s) (σ : gS) (p1 : Nat) (p2 : Int32) (hF : fX0_read_71 σ p1 p2 = some out) : WW M (gQi M G zC out.1 out.2) G zC 4 σ 0 [(0, .ref (G.2.1 197)), (1, .ref (G.2.1 p1)), (2, .int p2), (3, .ref (G.2.1 71))] [] := by
  unfold fX0_read_71 at hF
  refine ww_iload_n (pc := 0) X (j := 2) dX0_read_0 rfl rfl ?_
  refine ww_aload_n (pc := 1) X (j := 0) dX0_read_1 rfl rfl ?_
  obtain ⟨r2, h1, hF⟩ := bd_some hF
  refine ww_callVi (pc := 2) X (As := []) (rest := [.int p2]) dX0_read_2 (kX0_dueLength (mL M) G hZ X.2.2.2.2.2.2.1 X.2.2.2.2.2.2.2.1 σ r2 h1) rfl shzC_197 clzC_0 gX0_read_X0_dueLength hyX0_dueLength ⟨rfl, rfl⟩ ⟨Nat.le_of_ble_eq_true rfl, Nat.le_of_ble_eq_true rfl⟩ rfl rfl (Nat.le_of_ble_eq_true rfl) ?_
  refine ww_icmp_ne (pc := 5) (tgt := 14) X dX0_read_5 (by decide) hF (fun h3 hF => ?_) (fun h3 hF => ?_)
  · refine ww_iconst (pc := 14) X (v := 0) dX0_read_14 (by decide) ?_
    exact ww_zret (pc := 15) X dX0_read_15 (by cases hF; rfl) (by cases hF; rfl)
  · refine ww_iload_n (pc := 8) X (j := 2) dX0_read_8 rfl rfl ?_
    refine ww_aload_n (pc := 9) X (j := 1) dX0_read_9 rfl rfl ?_
    refine ww_alenS (pc := 10) X (by decide) dX0_read_10 (t := 0) rfl hF (fun h4 hF => ?_)
    refine ww_icmp_le (pc := 11) (tgt := 16) X dX0_read_11 (by decide) hF (fun h5 hF => ?_) (fun h5 hF => ?_)
    · refine ww_aload_n (pc := 16) X (j := 1) dX0_read_16 rfl rfl ?_
      refine ww_iload_n (pc := 17) X (j := 2) dX0_read_17 rfl rfl ?_
      refine ww_iconst (pc := 18) X (v := 1) dX0_read_18 (by decide) ?_
      refine ww_isub (pc := 19) X dX0_read_19 ?_
      obtain ⟨r7, h6, hF⟩ := bd_some hF
      refine ww_callSi (pc := 20) X (As := [.ref (G.2.1 p1), .int (p2 - 1)]) (rest := []) dX0_read_20 (kX0_check (mL M) G hZ X.2.2.2.2.2.2.1 X.2.2.2.2.2.2.2.1 σ p1 (p2 - 1) r7 h6) rfl gX0_read_X0_check hyX0_check ⟨rfl, rfl⟩ ⟨Nat.le_of_ble_eq_true rfl, Nat.le_of_ble_eq_true rfl⟩ rfl rfl (Nat.le_of_ble_eq_true rfl) ?_
      refine ww_aload_n (pc := 23) X (j := 1) dX0_read_23 rfl rfl ?_
      refine ww_iload_n (pc := 24) X (j := 2) dX0_read_24 rfl rfl ?_
      refine ww_iconst (pc := 25) X (v := 1) dX0_read_25 (by decide) ?_
      refine ww_isub (pc := 26) X dX0_read_26 ?_
      refine ww_ialdS (pc := 27) X dX0_read_27  (t := 0) rfl hF (fun v8 ev8 bv8 hF => ?_)
      refine ww_icmp_eq (pc := 28) (tgt := 33) X dX0_read_28 (by decide) hF (fun h9 hF => ?_) (fun h9 hF => ?_)
      · refine ww_aload_n (pc := 33) X (j := 0) dX0_read_33 rfl rfl ?_
        refine ww_aload_n (pc := 34) X (j := 1) dX0_read_34 rfl rfl ?_
        refine ww_aload_n (pc := 35) X (j := 3) dX0_read_35 rfl rfl ?_
        obtain ⟨σ11, h10, hF⟩ := bd_some hF
        refine ww_callVv (pc := 36) X (As := [.ref (G.2.1 p1), .ref (G.2.1 71)]) (rest := []) dX0_read_36 (kX0_take_71 (mL M) G hZ X.2.2.2.2.2.2.1 X.2.2.2.2.2.2.2.1 σ p1 σ11 h10) rfl shzC_197 clzC_0 gX0_read_X0_take hyX0_take ⟨rfl, rfl⟩ ⟨Nat.le_of_ble_eq_true rfl, Nat.le_of_ble_eq_true rfl⟩ rfl rfl (Nat.le_of_ble_eq_true rfl) ?_
        refine ww_aload_n (pc := 39) X (j := 3) dX0_read_39 rfl rfl ?_
        refine ww_get (pc := 40) X (ref := "PictureBlock$Stand") (T := TX5) (j := 1) dX0_read_40 inX0_read_RX5 shzC_71 clzC_5 (by decide) rfl (List.mem_of_getElem? (i := 1) rfl) rfl ?_
        refine ww_iconst (pc := 43) X (v := 3) dX0_read_43 (by decide) ?_
        refine ww_icmp_gt (pc := 44) (tgt := 83) X dX0_read_44 (by decide) hF (fun h12 hF => ?_) (fun h12 hF => ?_)
        · refine ww_iconst (pc := 83) X (v := 0) dX0_read_83 (by decide) ?_
          exact ww_zret (pc := 84) X dX0_read_84 (by cases hF; rfl) (by cases hF; rfl)
        · refine ww_aload_n (pc := 47) X (j := 0) dX0_read_47 rfl rfl ?_
          refine ww_aload_n (pc := 48) X (j := 3) dX0_read_48 rfl rfl ?_
          obtain ⟨r14, h13, hF⟩ := bd_some hF
          refine ww_callVi (pc := 49) X (As := [.ref (G.2.1 71)]) (rest := []) dX0_read_49 (kX0_arePicturesRight_71 (mL M) G hZ X.2.2.2.2.2.2.1 X.2.2.2.2.2.2.2.1 σ11 r14 h13) rfl shzC_197 clzC_0 gX0_read_X0_arePicturesRight hyX0_arePicturesRight ⟨rfl, rfl⟩ ⟨Nat.le_of_ble_eq_true rfl, Nat.le_of_ble_eq_true rfl⟩ rfl rfl (Nat.le_of_ble_eq_true rfl) ?_
          refine ww_if_eq (pc := 52) (tgt := 83) X dX0_read_52 (by decide) hF (fun h15 hF => ?_) (fun h15 hF => ?_)
          · refine ww_iconst (pc := 83) X (v := 0) dX0_read_83 (by decide) ?_
            exact ww_zret (pc := 84) X dX0_read_84 (by cases hF; rfl) (by cases hF; rfl)
          · refine ww_aload_n (pc := 55) X (j := 0) dX0_read_55 rfl rfl ?_
            refine ww_aload_n (pc := 56) X (j := 3) dX0_read_56 rfl rfl ?_
            obtain ⟨r17, h16, hF⟩ := bd_some hF
            refine ww_callVi (pc := 57) X (As := [.ref (G.2.1 71)]) (rest := []) dX0_read_57 (kX0_arePointsRight_71 (mL M) G hZ X.2.2.2.2.2.2.1 X.2.2.2.2.2.2.2.1 σ11 r17 h16) rfl shzC_197 clzC_0 gX0_read_X0_arePointsRight hyX0_arePointsRight ⟨rfl, rfl⟩ ⟨Nat.le_of_ble_eq_true rfl, Nat.le_of_ble_eq_true rfl⟩ rfl rfl (Nat.le_of_ble_eq_true rfl) ?_
            refine ww_if_eq (pc := 60) (tgt := 83) X dX0_read_60 (by decide) hF (fun h18 hF => ?_) (fun h18 hF => ?_)
            · refine ww_iconst (pc := 83) X (v := 0) dX0_read_83 (by decide) ?_
              exact ww_zret (pc := 84) X dX0_read_84 (by cases hF; rfl) (by cases hF; rfl)
            · refine ww_aload_n (pc := 63) X (j := 0) dX0_read_63 rfl rfl ?_
              refine ww_aload_n (pc := 64) X (j := 3) dX0_read_64 rfl rfl ?_
              obtain ⟨r20, h19, hF⟩ := bd_some hF
              refine ww_callVi (pc := 65) X (As := [.ref (G.2.1 71)]) (rest := []) dX0_read_65 (kX0_areDriftsRight_71 (mL M) G hZ X.2.2.2.2.2.2.1 X.2.2.2.2.2.2.2.1 σ11 r20 h19) rfl shzC_197 clzC_0 gX0_read_X0_areDriftsRight hyX0_areDriftsRight ⟨rfl, rfl⟩ ⟨Nat.le_of_ble_eq_true rfl, Nat.le_of_ble_eq_true rfl⟩ rfl rfl (Nat.le_of_ble_eq_true rfl) ?_
              refine ww_if_eq (pc := 68) (tgt := 83) X dX0_read_68 (by decide) hF (fun h21 hF => ?_) (fun h21 hF => ?_)
              · refine ww_iconst (pc := 83) X (v := 0) dX0_read_83 (by decide) ?_
                exact ww_zret (pc := 84) X dX0_read_84 (by cases hF; rfl) (by cases hF; rfl)
              · refine ww_aload_n (pc := 71) X (j := 0) dX0_read_71 rfl rfl ?_
                refine ww_aload_n (pc := 72) X (j := 3) dX0_read_72 rfl rfl ?_
                obtain ⟨r23, h22, hF⟩ := bd_some hF
                refine ww_callVi (pc := 73) X (As := [.ref (G.2.1 71)]) (rest := []) dX0_read_73 (kX0_areRowsRight_71 (mL M) G hZ X.2.2.2.2.2.2.1 X.2.2.2.2.2.2.2.1 σ11 r23 h22) rfl shzC_197 clzC_0 gX0_read_X0_areRowsRight hyX0_areRowsRight ⟨rfl, rfl⟩ ⟨Nat.le_of_ble_eq_true rfl, Nat.le_of_ble_eq_true rfl⟩ rfl rfl (Nat.le_of_ble_eq_true rfl) ?_
                refine ww_if_eq (pc := 76) (tgt := 83) X dX0_read_76 (by decide) hF (fun h24 hF => ?_) (fun h24 hF => ?_)
                · refine ww_iconst (pc := 83) X (v := 0) dX0_read_83 (by decide) ?_
                  exact ww_zret (pc := 84) X dX0_read_84 (by cases hF; rfl) (by cases hF; rfl)
                · refine ww_iconst (pc := 79) X (v := 1) dX0_read_79 (by decide) ?_
                  refine ww_goto (pc := 80) X (tgt := 84) dX0_read_80 (by decide) ?_
                  exact ww_zret (pc := 84) X dX0_read_84 (by cases hF; rfl) (by cases hF; rfl)
      · refine ww_iconst (pc := 31) X (v := 0) dX0_read_31 (by decide) ?_
        exact ww_zret (pc := 32) X dX0_read_32 (by cases hF; rfl) (by cases hF; rfl)
    · refine ww_iconst (pc := 14) X (v := 0) dX0_read_14 (by decide) ?_
      exact ww_zret (pc := 15) X dX0_read_15 (by cases hF; rfl) (by cases hF; rfl)
set_option maxRecDepth 100000 in
set_option maxHeartbeats 4000000 in
theorem kX0_read_71 (l : Launch) (G : gG) {ex : gEx} (hZ : ∀ s : State, G.2.2.2 s → kC ex (gA G zC.1) s) (hG : gOK G zC.1) (hT : G.2.2.1.map (fun q => q.2) = zC.2.1) (σ : gS) (p1 : Nat) (p2 : Int32) (out : Int32 × gS) (hF : fX0_read_71 σ p1 p2 = some out) : gCi l yX0_read wsX0_read rmX0_read G zC [.ref (G.2.1 197), .ref (G.2.1 p1), .int p2, .ref (G.2.1 71)] σ out.1 out.2 :=
  gEnter (by decide) rfl ⟨rfl, rfl⟩ hG hT (Nat.le_of_ble_eq_true rfl) rfl (fun M X hl => wX0_read_71 X hZ σ p1 p2 hF)
noncomputable def bX5_takeFrom_47_71_32 (σ : gS) (rec32 : Int32 → gS → Option (gS)) (a2 : Int32) (σ1 : gS) : Option (gS) :=
  if 2 ≤ a2 then some σ1 else gd (gb a2 2) <| gd (gb a2 2) <| bd (fX9_copyAll σ1 (74 + a2.toNatClampNeg) (50 + a2.toNatClampNeg)) fun σ11 => gd (gb a2 2) <| gd (gb a2 2) <| bd (fX9_copyAll σ11 (77 + a2.toNatClampNeg) (53 + a2.toNatClampNeg)) fun σ15 => gd (gb a2 2) <| gd (gb a2 2) <| bd (fX9_copyAll σ15 (80 + a2.toNatClampNeg) (56 + a2.toNatClampNeg)) fun σ19 => nm (a2 + 1 : Int32) fun x20 => rec32 x20 σ19
noncomputable def fX5_takeFrom_47_71 (σ : gS) : Option (gS) :=
  nm (gsI σ 47 1 (σ.1 71 1)) fun σ1 => bd (fX9_copyAll σ1 72 48) fun σ3 => bd (fX9_copyAll σ3 82 58) fun σ5 => nm (0 : Int32) fun x6 => lpc (S := Int32 × gS) K9 (fun rec s => bX5_takeFrom_47_71_32 σ5 (fun a2 σ1 => rec (a2, σ1)) s.1 s.2) (x6, σ5)
set_option maxRecDepth 100000 in
set_option maxHeartbeats 4000000 in
theorem wbX5_takeFrom_47_71_32 {M : gM} {G : gG} {out : gS} (X : gX M G zC cX5_takeFrom RX5 3 wsX5_takeFrom rmX5_takeFrom none) {ex : gEx} (hZ : ∀ s : State, G.2.2.2 s → kC ex (gA G zC.1) s) (σ : gS) (rec32 : Int32 → gS → Option (gS)) (ih32 : ∀ (a2 : Int32) (σ1 : gS), rec32 a2 σ1 = some out → WW M (gQv M G zC out) G zC 3 σ1 32 [(0, .ref (G.2.1 47)), (1, .ref (G.2.1 71)), (2, .int a2)] []) (a2 : Int32) (σ1 : gS) (hF : bX5_takeFrom_47_71_32 σ rec32 a2 σ1 = some out) : WW M (gQv M G zC out) G zC 3 σ1 32 [(0, .ref (G.2.1 47)), (1, .ref (G.2.1 71)), (2, .int a2)] [] := by
  unfold bX5_takeFrom_47_71_32 at hF
  refine ww_iload_n (pc := 32) X (j := 2) dX5_takeFrom_32 rfl rfl ?_
  refine ww_iconst (pc := 33) X (v := 2) dX5_takeFrom_33 (by decide) ?_
  refine ww_icmp_ge (pc := 34) (tgt := 88) X dX5_takeFrom_34 (by decide) hF (fun h7 hF => ?_) (fun h7 hF => ?_)
  · exact ww_vret (pc := 88) X dX5_takeFrom_88 (by cases hF; rfl)
  · refine ww_aload_n (pc := 37) X (j := 1) dX5_takeFrom_37 rfl rfl ?_
    refine ww_get (pc := 38) X (ref := "PictureBlock$Stand") (T := TX5) (j := 3) dX5_takeFrom_38 inX5_takeFrom_RX5 shzC_71 clzC_5 (by decide) rfl (List.mem_of_getElem? (i := 4) rfl) rfl ?_
    refine ww_iload_n (pc := 41) X (j := 2) dX5_takeFrom_41 rfl rfl ?_
    refine ww_aald (pc := 42) X dX5_takeFrom_42 shzC_73 rfl hF (fun h8 hF => ?_)
    refine ww_aload_n (pc := 43) X (j := 0) dX5_takeFrom_43 rfl rfl ?_
    refine ww_get (pc := 44) X (ref := "PictureBlock$Stand") (T := TX5) (j := 3) dX5_takeFrom_44 inX5_takeFrom_RX5 shzC_47 clzC_5 (by decide) rfl (List.mem_of_getElem? (i := 4) rfl) rfl ?_
    refine ww_iload_n (pc := 47) X (j := 2) dX5_takeFrom_47 rfl rfl ?_
    refine ww_aald (pc := 48) X dX5_takeFrom_48 shzC_49 rfl hF (fun h9 hF => ?_)
    obtain ⟨σ11, h10, hF⟩ := bd_some hF
    refine ww_callNv (pc := 49) X (As := [.ref (G.2.1 (74 + a2.toNatClampNeg)), .ref (G.2.1 (50 + a2.toNatClampNeg))]) (rest := []) dX5_takeFrom_49 (kX9_copyAll (mL M) G hZ X.2.2.2.2.2.2.1 X.2.2.2.2.2.2.2.1 σ1 (74 + a2.toNatClampNeg) (50 + a2.toNatClampNeg) σ11 h10) rfl (fun s h => eC_nmX5_takeFrom_37 (hZ s h)) gX5_takeFrom_X9_copyAll_n37 (List.mem_of_getElem? (i := 7) rfl) (List.mem_of_getElem? (i := 8) rfl) hyX9_copyAll ⟨rfl, rfl⟩ ⟨Nat.le_of_ble_eq_true rfl, Nat.le_of_ble_eq_true rfl⟩ rfl rfl (Nat.le_of_ble_eq_true rfl) ?_
    refine ww_aload_n (pc := 52) X (j := 1) dX5_takeFrom_52 rfl rfl ?_
    refine ww_get (pc := 53) X (ref := "PictureBlock$Stand") (T := TX5) (j := 4) dX5_takeFrom_53 inX5_takeFrom_RX5 shzC_71 clzC_5 (by decide) rfl (List.mem_of_getElem? (i := 5) rfl) rfl ?_
    refine ww_iload_n (pc := 56) X (j := 2) dX5_takeFrom_56 rfl rfl ?_
    refine ww_aald (pc := 57) X dX5_takeFrom_57 shzC_76 rfl hF (fun h12 hF => ?_)
    refine ww_aload_n (pc := 58) X (j := 0) dX5_takeFrom_58 rfl rfl ?_
    refine ww_get (pc := 59) X (ref := "PictureBlock$Stand") (T := TX5) (j := 4) dX5_takeFrom_59 inX5_takeFrom_RX5 shzC_47 clzC_5 (by decide) rfl (List.mem_of_getElem? (i := 5) rfl) rfl ?_
    refine ww_iload_n (pc := 62) X (j := 2) dX5_takeFrom_62 rfl rfl ?_
    refine ww_aald (pc := 63) X dX5_takeFrom_63 shzC_52 rfl hF (fun h13 hF => ?_)
    obtain ⟨σ15, h14, hF⟩ := bd_some hF
    refine ww_callNv (pc := 64) X (As := [.ref (G.2.1 (77 + a2.toNatClampNeg)), .ref (G.2.1 (53 + a2.toNatClampNeg))]) (rest := []) dX5_takeFrom_64 (kX9_copyAll (mL M) G hZ X.2.2.2.2.2.2.1 X.2.2.2.2.2.2.2.1 σ11 (77 + a2.toNatClampNeg) (53 + a2.toNatClampNeg) σ15 h14) rfl (fun s h => eC_nmX5_takeFrom_37 (hZ s h)) gX5_takeFrom_X9_copyAll_n37 (List.mem_of_getElem? (i := 7) rfl) (List.mem_of_getElem? (i := 8) rfl) hyX9_copyAll ⟨rfl, rfl⟩ ⟨Nat.le_of_ble_eq_true rfl, Nat.le_of_ble_eq_true rfl⟩ rfl rfl (Nat.le_of_ble_eq_true rfl) ?_
    refine ww_aload_n (pc := 67) X (j := 1) dX5_takeFrom_67 rfl rfl ?_
    refine ww_get (pc := 68) X (ref := "PictureBlock$Stand") (T := TX5) (j := 5) dX5_takeFrom_68 inX5_takeFrom_RX5 shzC_71 clzC_5 (by decide) rfl (List.mem_of_getElem? (i := 6) rfl) rfl ?_
    refine ww_iload_n (pc := 71) X (j := 2) dX5_takeFrom_71 rfl rfl ?_
    refine ww_aald (pc := 72) X dX5_takeFrom_72 shzC_79 rfl hF (fun h16 hF => ?_)
    refine ww_aload_n (pc := 73) X (j := 0) dX5_takeFrom_73 rfl rfl ?_
    refine ww_get (pc := 74) X (ref := "PictureBlock$Stand") (T := TX5) (j := 5) dX5_takeFrom_74 inX5_takeFrom_RX5 shzC_47 clzC_5 (by decide) rfl (List.mem_of_getElem? (i := 6) rfl) rfl ?_
    refine ww_iload_n (pc := 77) X (j := 2) dX5_takeFrom_77 rfl rfl ?_
    refine ww_aald (pc := 78) X dX5_takeFrom_78 shzC_55 rfl hF (fun h17 hF => ?_)
    obtain ⟨σ19, h18, hF⟩ := bd_some hF
    refine ww_callNv (pc := 79) X (As := [.ref (G.2.1 (80 + a2.toNatClampNeg)), .ref (G.2.1 (56 + a2.toNatClampNeg))]) (rest := []) dX5_takeFrom_79 (kX9_copyAll (mL M) G hZ X.2.2.2.2.2.2.1 X.2.2.2.2.2.2.2.1 σ15 (80 + a2.toNatClampNeg) (56 + a2.toNatClampNeg) σ19 h18) rfl (fun s h => eC_nmX5_takeFrom_37 (hZ s h)) gX5_takeFrom_X9_copyAll_n37 (List.mem_of_getElem? (i := 7) rfl) (List.mem_of_getElem? (i := 8) rfl) hyX9_copyAll ⟨rfl, rfl⟩ ⟨Nat.le_of_ble_eq_true rfl, Nat.le_of_ble_eq_true rfl⟩ rfl rfl (Nat.le_of_ble_eq_true rfl) ?_
    refine ww_iinc (pc := 82) X (j := 2) (v := 1) (lv' := [(0, .ref (G.2.1 47)), (1, .ref (G.2.1 71))]) dX5_takeFrom_82 rfl rfl (by decide) rfl hF (fun x20 ex20 hF => ?_)
    refine ww_goto (pc := 85) X (tgt := 32) dX5_takeFrom_85 (by decide) ?_
    exact ww_sub [1, 2, 0] rfl (ih32 x20 σ19 hF)
set_option maxRecDepth 100000 in
set_option maxHeartbeats 4000000 in
theorem wX5_takeFrom_47_71 {M : gM} {G : gG} {out : gS} (X : gX M G zC cX5_takeFrom RX5 3 wsX5_takeFrom rmX5_takeFrom none) {ex : gEx} (hZ : ∀ s : State, G.2.2.2 s → kC ex (gA G zC.1) s) (σ : gS) (hF : fX5_takeFrom_47_71 σ = some out) : WW M (gQv M G zC out) G zC 3 σ 0 [(0, .ref (G.2.1 47)), (1, .ref (G.2.1 71))] [] := by
  unfold fX5_takeFrom_47_71 at hF
  refine ww_aload_n (pc := 0) X (j := 0) dX5_takeFrom_0 rfl rfl ?_
  refine ww_aload_n (pc := 1) X (j := 1) dX5_takeFrom_1 rfl rfl ?_
  refine ww_get (pc := 2) X (ref := "PictureBlock$Stand") (T := TX5) (j := 1) dX5_takeFrom_2 inX5_takeFrom_RX5 shzC_71 clzC_5 (by decide) rfl (List.mem_of_getElem? (i := 1) rfl) rfl ?_
  refine ww_putI (pc := 5) X (ref := "PictureBlock$Stand") (T := TX5) (j := 1) dX5_takeFrom_5 inX5_takeFrom_RX5 tyX5 tyX5_ok nmX5 shzC_47 clzC_5 (by decide) rfl (List.mem_of_getElem? (i := 1) rfl) rfl rfl (by decide +kernel) hF (fun σ1 eσ1 hF => ?_)
  refine ww_aload_n (pc := 8) X (j := 1) dX5_takeFrom_8 rfl rfl ?_
  refine ww_get (pc := 9) X (ref := "PictureBlock$Stand") (T := TX5) (j := 2) dX5_takeFrom_9 inX5_takeFrom_RX5 shzC_71 clzC_5 (by decide) rfl (List.mem_of_getElem? (i := 2) rfl) rfl ?_
  refine ww_aload_n (pc := 12) X (j := 0) dX5_takeFrom_12 rfl rfl ?_
  refine ww_get (pc := 13) X (ref := "PictureBlock$Stand") (T := TX5) (j := 2) dX5_takeFrom_13 inX5_takeFrom_RX5 shzC_47 clzC_5 (by decide) rfl (List.mem_of_getElem? (i := 2) rfl) rfl ?_
  obtain ⟨σ3, h2, hF⟩ := bd_some hF
  refine ww_callNv (pc := 16) X (As := [.ref (G.2.1 72), .ref (G.2.1 48)]) (rest := []) dX5_takeFrom_16 (kX9_copyAll (mL M) G hZ X.2.2.2.2.2.2.1 X.2.2.2.2.2.2.2.1 σ1 72 48 σ3 h2) rfl (fun s h => eC_nmX5_takeFrom_37 (hZ s h)) gX5_takeFrom_X9_copyAll_n37 (List.mem_of_getElem? (i := 7) rfl) (List.mem_of_getElem? (i := 8) rfl) hyX9_copyAll ⟨rfl, rfl⟩ ⟨Nat.le_of_ble_eq_true rfl, Nat.le_of_ble_eq_true rfl⟩ rfl rfl (Nat.le_of_ble_eq_true rfl) ?_
  refine ww_aload_n (pc := 19) X (j := 1) dX5_takeFrom_19 rfl rfl ?_
  refine ww_get (pc := 20) X (ref := "PictureBlock$Stand") (T := TX5) (j := 6) dX5_takeFrom_20 inX5_takeFrom_RX5 shzC_71 clzC_5 (by decide) rfl (List.mem_of_getElem? (i := 3) rfl) rfl ?_
  refine ww_aload_n (pc := 23) X (j := 0) dX5_takeFrom_23 rfl rfl ?_
  refine ww_get (pc := 24) X (ref := "PictureBlock$Stand") (T := TX5) (j := 6) dX5_takeFrom_24 inX5_takeFrom_RX5 shzC_47 clzC_5 (by decide) rfl (List.mem_of_getElem? (i := 3) rfl) rfl ?_
  obtain ⟨σ5, h4, hF⟩ := bd_some hF
  refine ww_callNv (pc := 27) X (As := [.ref (G.2.1 82), .ref (G.2.1 58)]) (rest := []) dX5_takeFrom_27 (kX9_copyAll (mL M) G hZ X.2.2.2.2.2.2.1 X.2.2.2.2.2.2.2.1 σ3 82 58 σ5 h4) rfl (fun s h => eC_nmX5_takeFrom_37 (hZ s h)) gX5_takeFrom_X9_copyAll_n37 (List.mem_of_getElem? (i := 7) rfl) (List.mem_of_getElem? (i := 8) rfl) hyX9_copyAll ⟨rfl, rfl⟩ ⟨Nat.le_of_ble_eq_true rfl, Nat.le_of_ble_eq_true rfl⟩ rfl rfl (Nat.le_of_ble_eq_true rfl) ?_
  refine ww_iconst (pc := 30) X (v := 0) dX5_takeFrom_30 (by decide) ?_
  refine ww_istore_n (pc := 31) X (lv' := [(0, .ref (G.2.1 47)), (1, .ref (G.2.1 71))]) dX5_takeFrom_31 rfl (by decide) rfl hF (fun x6 ex6 hF => ?_)
  exact ww_sub [1, 2, 0] rfl (lpc_ind (P := (fun (s : Int32 × gS) => WW M (gQv M G zC out) G zC 3 s.2 32 [(0, .ref (G.2.1 47)), (1, .ref (G.2.1 71)), (2, .int s.1)] [])) (fun rec s ih hF => wbX5_takeFrom_47_71_32 X hZ σ5 (fun a2 σ1 => rec (a2, σ1)) (fun a2 σ1 h => ih (a2, σ1) h) s.1 s.2 hF) K9 (x6, σ5) hF)
set_option maxRecDepth 100000 in
set_option maxHeartbeats 4000000 in
theorem kX5_takeFrom_47_71 (l : Launch) (G : gG) {ex : gEx} (hZ : ∀ s : State, G.2.2.2 s → kC ex (gA G zC.1) s) (hG : gOK G zC.1) (hT : G.2.2.1.map (fun q => q.2) = zC.2.1) (σ : gS) (out : gS) (hF : fX5_takeFrom_47_71 σ = some out) : gCv l yX5_takeFrom wsX5_takeFrom rmX5_takeFrom G zC [.ref (G.2.1 47), .ref (G.2.1 71)] σ out :=
  gEnter (by decide) rfl ⟨rfl, rfl⟩ hG hT (Nat.le_of_ble_eq_true rfl) rfl (fun M X hl => wX5_takeFrom_47_71 X hZ σ hF)
noncomputable def fX9_on (σ : gS) : Option (Int32 × gS) :=
  nm (σ.1 0 1 : Int32) fun x1 => nm (gsI σ 0 1 0) fun σ2 => bd2 (fX0_read_71 σ2 1 x1) fun r4 σ5 => (if r4 = 0 then some (0, σ5) else bd (fX5_takeFrom_47_71 σ5) fun σ8 => some (1, σ8))
noncomputable abbrev rmX9_on : Room := { frames := 3, cells := 0, slots := 0, locals := 75 }
set_option maxRecDepth 100000 in
set_option maxHeartbeats 4000000 in
theorem wX9_on {M : gM} {G : gG} {out : Int32 × gS} (X : gX M G zC cX9_on RX9 2 wsX9_on rmX9_on (some .boolean)) {ex : gEx} (hZ : ∀ s : State, G.2.2.2 s → kC ex (gA G zC.1) s) (σ : gS) (hF : fX9_on σ = some out) : WW M (gQi M G zC out.1 out.2) G zC 2 σ 0 [(0, .ref (G.2.1 0))] [] := by
  unfold fX9_on at hF
  refine ww_aload_n (pc := 0) X (j := 0) dX9_on_0 rfl rfl ?_
  refine ww_get (pc := 1) X (ref := "PictureBlock") (T := TX9) (j := 1) dX9_on_1 inX9_on_RX9 shzC_0 clzC_9 (by decide) rfl (List.mem_of_getElem? (i := 1) rfl) rfl ?_
  refine ww_istore_n (pc := 4) X (lv' := [(0, .ref (G.2.1 0))]) dX9_on_4 rfl (by decide) rfl hF (fun x1 ex1 hF => ?_)
  refine ww_aload_n (pc := 5) X (j := 1) dX9_on_5 rfl rfl ?_
  refine ww_iconst (pc := 6) X (v := 0) dX9_on_6 (by decide) ?_
  refine ww_putI (pc := 7) X (ref := "PictureBlock") (T := TX9) (j := 1) dX9_on_7 inX9_on_RX9 tyX9 tyX9_ok nmX9 shzC_0 clzC_9 (by decide) rfl (List.mem_of_getElem? (i := 1) rfl) rfl rfl (by decide +kernel) hF (fun σ2 eσ2 hF => ?_)
  refine ww_aload_n (pc := 10) X (j := 1) dX9_on_10 rfl rfl ?_
  refine ww_get (pc := 11) X (ref := "PictureBlock") (T := TX9) (j := 13) dX9_on_11 inX9_on_RX9 shzC_0 clzC_9 (by decide) rfl (List.mem_of_getElem? (i := 2) rfl) rfl ?_
  refine ww_aload_n (pc := 14) X (j := 1) dX9_on_14 rfl rfl ?_
  refine ww_get (pc := 15) X (ref := "PictureBlock") (T := TX9) (j := 0) dX9_on_15 inX9_on_RX9 shzC_0 clzC_9 (by decide) rfl (List.mem_of_getElem? (i := 3) rfl) rfl ?_
  refine ww_iload_n (pc := 18) X (j := 0) dX9_on_18 rfl rfl ?_
  refine ww_aload_n (pc := 19) X (j := 1) dX9_on_19 rfl rfl ?_
  refine ww_get (pc := 20) X (ref := "PictureBlock") (T := TX9) (j := 7) dX9_on_20 inX9_on_RX9 shzC_0 clzC_9 (by decide) rfl (List.mem_of_getElem? (i := 4) rfl) rfl ?_
  obtain ⟨r4, σ5, h3, hF⟩ := bd2_some hF
  refine ww_callVi (pc := 23) X (As := [.ref (G.2.1 1), .int x1, .ref (G.2.1 71)]) (rest := []) dX9_on_23 (kX0_read_71 (mL M) G hZ X.2.2.2.2.2.2.1 X.2.2.2.2.2.2.2.1 σ2 1 x1 (r4, σ5) h3) rfl shzC_197 clzC_0 gX9_on_X0_read hyX0_read ⟨rfl, rfl⟩ ⟨Nat.le_of_ble_eq_true rfl, Nat.le_of_ble_eq_true rfl⟩ rfl rfl (Nat.le_of_ble_eq_true rfl) ?_
  refine ww_if_ne (pc := 26) (tgt := 31) X dX9_on_26 (by decide) hF (fun h6 hF => ?_) (fun h6 hF => ?_)
  · refine ww_aload_n (pc := 31) X (j := 1) dX9_on_31 rfl rfl ?_
    refine ww_get (pc := 32) X (ref := "PictureBlock") (T := TX9) (j := 5) dX9_on_32 inX9_on_RX9 shzC_0 clzC_9 (by decide) rfl (List.mem_of_getElem? (i := 5) rfl) rfl ?_
    refine ww_aload_n (pc := 35) X (j := 1) dX9_on_35 rfl rfl ?_
    refine ww_get (pc := 36) X (ref := "PictureBlock") (T := TX9) (j := 7) dX9_on_36 inX9_on_RX9 shzC_0 clzC_9 (by decide) rfl (List.mem_of_getElem? (i := 4) rfl) rfl ?_
    obtain ⟨σ8, h7, hF⟩ := bd_some hF
    refine ww_callVv (pc := 39) X (As := [.ref (G.2.1 71)]) (rest := []) dX9_on_39 (kX5_takeFrom_47_71 (mL M) G hZ X.2.2.2.2.2.2.1 X.2.2.2.2.2.2.2.1 σ5 σ8 h7) rfl shzC_47 clzC_5 gX9_on_X5_takeFrom hyX5_takeFrom ⟨rfl, rfl⟩ ⟨Nat.le_of_ble_eq_true rfl, Nat.le_of_ble_eq_true rfl⟩ rfl rfl (Nat.le_of_ble_eq_true rfl) ?_
    refine ww_iconst (pc := 42) X (v := 1) dX9_on_42 (by decide) ?_
    exact ww_zret (pc := 43) X dX9_on_43 (by cases hF; rfl) (by cases hF; rfl)
  · refine ww_iconst (pc := 29) X (v := 0) dX9_on_29 (by decide) ?_
    exact ww_zret (pc := 30) X dX9_on_30 (by cases hF; rfl) (by cases hF; rfl)
set_option maxRecDepth 100000 in
set_option maxHeartbeats 4000000 in
theorem kX9_on (l : Launch) (G : gG) {ex : gEx} (hZ : ∀ s : State, G.2.2.2 s → kC ex (gA G zC.1) s) (hG : gOK G zC.1) (hT : G.2.2.1.map (fun q => q.2) = zC.2.1) (σ : gS) (out : Int32 × gS) (hF : fX9_on σ = some out) : gCi l yX9_on wsX9_on rmX9_on G zC [.ref (G.2.1 0)] σ out.1 out.2 :=
  gEnter (by decide) rfl ⟨rfl, rfl⟩ hG hT (Nat.le_of_ble_eq_true rfl) rfl (fun M X hl => wX9_on X hZ σ hF)
