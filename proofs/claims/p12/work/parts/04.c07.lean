noncomputable def jX6_findLinked_57 (σ : gS) (rec6 : Int32 → gS → Option (Int32 × gS)) (a1 : Int32) (z0 : Int32) (z1 : Int32) : Option (Int32 × gS) :=
  if z1 < z0 then nm (a1 + 1 : Int32) fun x15 => rec6 x15 σ else some (a1, σ)
noncomputable def bX6_findLinked_6 (σ : gS) (rec6 : Int32 → gS → Option (Int32 × gS)) (a1 : Int32) (σ1 : gS) : Option (Int32 × gS) :=
  gd (gb 1 6) <| nm (σ1.1 3 ((1 : Int32).toNatClampNeg)) fun v4 => (if v4 ≤ a1 then some ((-1), σ1) else gd (gb a1 12) <| nm (σ1.1 84 a1.toNatClampNeg) fun v6 => (if v6 = 1 then nm (a1 + 1 : Int32) fun x16 => rec6 x16 σ1 else bd2 (fX6_gatherOwn σ1 a1) fun r9 σ10 => nm (r9 : Int32) fun x11 => gd (gb a1 12) <| nm (σ10.1 9 a1.toNatClampNeg) fun v12 => (if v12 = 4 then jX6_findLinked_57 σ10 rec6 a1 2 x11 else jX6_findLinked_57 σ10 rec6 a1 1 x11)))
noncomputable def fX6_findLinked (σ : gS) : Option (Int32 × gS) :=
  bd (fX6_gatherStarted σ) fun σ2 => nm (0 : Int32) fun x3 => lpc (S := Int32 × gS) K9 (fun rec s => bX6_findLinked_6 σ2 (fun a1 σ1 => rec (a1, σ1)) s.1 s.2) (x3, σ2)
noncomputable abbrev rmX6_findLinked : Room := { frames := 3, cells := 0, slots := 0, locals := 71 }
set_option maxRecDepth 100000 in
set_option maxHeartbeats 4000000 in
theorem wjX6_findLinked_57 {M : gM} {G : gG} {out : Int32 × gS} (X : gX M G zC cX6_findLinked RX6 3 wsX6_findLinked rmX6_findLinked (some .int)) {ex : gEx} (hZ : ∀ s : State, G.2.2.2 s → kC ex (gA G zC.1) s) (σ : gS) (rec6 : Int32 → gS → Option (Int32 × gS)) (ih6 : ∀ (a1 : Int32) (σ1 : gS), rec6 a1 σ1 = some out → WW M (gQi M G zC out.1 out.2) G zC 3 σ1 6 [(0, .ref (G.2.1 83)), (1, .int a1)] []) (a1 : Int32) (z0 : Int32) (z1 : Int32) (hF : jX6_findLinked_57 σ rec6 a1 z0 z1 = some out) : WW M (gQi M G zC out.1 out.2) G zC 3 σ 57 [(0, .ref (G.2.1 83)), (1, .int a1)] [.int z0, .int z1] := by
  unfold jX6_findLinked_57 at hF
  refine ww_icmp_lt (pc := 57) (tgt := 62) X dX6_findLinked_57 (by decide) hF (fun h14 hF => ?_) (fun h14 hF => ?_)
  · refine ww_iinc (pc := 62) X (j := 1) (v := 1) (lv' := [(0, .ref (G.2.1 83))]) dX6_findLinked_62 rfl rfl (by decide) rfl hF (fun x15 ex15 hF => ?_)
    refine ww_goto (pc := 65) X (tgt := 6) dX6_findLinked_65 (by decide) ?_
    exact ww_sub [1, 0] rfl (ih6 x15 σ hF)
  · refine ww_iload_n (pc := 60) X (j := 1) dX6_findLinked_60 rfl rfl ?_
    exact ww_iret (pc := 61) X dX6_findLinked_61 (fst_of hF) (snd_of hF)
set_option maxRecDepth 100000 in
set_option maxHeartbeats 4000000 in
theorem wbX6_findLinked_6 {M : gM} {G : gG} {out : Int32 × gS} (X : gX M G zC cX6_findLinked RX6 3 wsX6_findLinked rmX6_findLinked (some .int)) {ex : gEx} (hZ : ∀ s : State, G.2.2.2 s → kC ex (gA G zC.1) s) (σ : gS) (rec6 : Int32 → gS → Option (Int32 × gS)) (ih6 : ∀ (a1 : Int32) (σ1 : gS), rec6 a1 σ1 = some out → WW M (gQi M G zC out.1 out.2) G zC 3 σ1 6 [(0, .ref (G.2.1 83)), (1, .int a1)] []) (a1 : Int32) (σ1 : gS) (hF : bX6_findLinked_6 σ rec6 a1 σ1 = some out) : WW M (gQi M G zC out.1 out.2) G zC 3 σ1 6 [(0, .ref (G.2.1 83)), (1, .int a1)] [] := by
  unfold bX6_findLinked_6 at hF
  refine ww_iload_n (pc := 6) X (j := 1) dX6_findLinked_6 rfl rfl ?_
  refine ww_aload_n (pc := 7) X (j := 0) dX6_findLinked_7 rfl rfl ?_
  refine ww_get (pc := 8) X (ref := "PictureBlock$Starter") (T := TX6) (j := 0) dX6_findLinked_8 inX6_findLinked_RX6 shzC_83 clzC_6 (by decide) rfl (List.mem_of_getElem? (i := 1) rfl) rfl ?_
  refine ww_get (pc := 11) X (ref := "PictureBlock$Told") (T := TX8) (j := 0) dX6_findLinked_11 inX6_findLinked_RX8 shzC_2 clzC_8 (by decide) rfl (List.mem_of_getElem? (i := 2) rfl) rfl ?_
  refine ww_iconst (pc := 14) X (v := 1) dX6_findLinked_14 (by decide) ?_
  refine ww_iald (pc := 15) X dX6_findLinked_15 shzC_3 rfl hF (fun v4 ev4 bv4 hF => ?_)
  refine ww_icmp_ge (pc := 16) (tgt := 68) X dX6_findLinked_16 (by decide) hF (fun h5 hF => ?_) (fun h5 hF => ?_)
  · refine ww_iconst (pc := 68) X (v := (-1)) dX6_findLinked_68 (by decide) ?_
    exact ww_iret (pc := 69) X dX6_findLinked_69 (fst_of hF) (snd_of hF)
  · refine ww_aload_n (pc := 19) X (j := 0) dX6_findLinked_19 rfl rfl ?_
    refine ww_get (pc := 20) X (ref := "PictureBlock$Starter") (T := TX6) (j := 2) dX6_findLinked_20 inX6_findLinked_RX6 shzC_83 clzC_6 (by decide) rfl (List.mem_of_getElem? (i := 3) rfl) rfl ?_
    refine ww_iload_n (pc := 23) X (j := 1) dX6_findLinked_23 rfl rfl ?_
    refine ww_iald (pc := 24) X dX6_findLinked_24 shzC_84 rfl hF (fun v6 ev6 bv6 hF => ?_)
    refine ww_iconst (pc := 25) X (v := 1) dX6_findLinked_25 (by decide) ?_
    refine ww_icmp_ne (pc := 26) (tgt := 32) X dX6_findLinked_26 (by decide) hF (fun h7 hF => ?_) (fun h7 hF => ?_)
    · refine ww_aload_n (pc := 32) X (j := 0) dX6_findLinked_32 rfl rfl ?_
      refine ww_iload_n (pc := 33) X (j := 1) dX6_findLinked_33 rfl rfl ?_
      obtain ⟨r9, σ10, h8, hF⟩ := bd2_some hF
      refine ww_callVi (pc := 34) X (As := [.int a1]) (rest := []) dX6_findLinked_34 (kX6_gatherOwn (mL M) G hZ X.2.2.2.2.2.2.1 X.2.2.2.2.2.2.2.1 σ1 a1 (r9, σ10) h8) rfl shzC_83 clzC_6 gX6_findLinked_X6_gatherOwn hyX6_gatherOwn ⟨rfl, rfl⟩ ⟨Nat.le_of_ble_eq_true rfl, Nat.le_of_ble_eq_true rfl⟩ rfl rfl (Nat.le_of_ble_eq_true rfl) ?_
      refine ww_istore_n (pc := 37) X (lv' := [(0, .ref (G.2.1 83)), (1, .int a1)]) dX6_findLinked_37 rfl (by decide) rfl hF (fun x11 ex11 hF => ?_)
      refine ww_iload_n (pc := 38) X (j := 0) dX6_findLinked_38 rfl rfl ?_
      refine ww_aload_n (pc := 39) X (j := 1) dX6_findLinked_39 rfl rfl ?_
      refine ww_get (pc := 40) X (ref := "PictureBlock$Starter") (T := TX6) (j := 0) dX6_findLinked_40 inX6_findLinked_RX6 shzC_83 clzC_6 (by decide) rfl (List.mem_of_getElem? (i := 1) rfl) rfl ?_
      refine ww_get (pc := 43) X (ref := "PictureBlock$Told") (T := TX8) (j := 3) dX6_findLinked_43 inX6_findLinked_RX8 shzC_2 clzC_8 (by decide) rfl (List.mem_of_getElem? (i := 4) rfl) rfl ?_
      refine ww_iload_n (pc := 46) X (j := 2) dX6_findLinked_46 rfl rfl ?_
      refine ww_iald (pc := 47) X dX6_findLinked_47 shzC_9 rfl hF (fun v12 ev12 bv12 hF => ?_)
      refine ww_iconst (pc := 48) X (v := 4) dX6_findLinked_48 (by decide) ?_
      refine ww_icmp_ne (pc := 49) (tgt := 56) X dX6_findLinked_49 (by decide) hF (fun h13 hF => ?_) (fun h13 hF => ?_)
      · refine ww_iconst (pc := 56) X (v := 1) dX6_findLinked_56 (by decide) ?_
        exact ww_sub [1, 2] rfl (wjX6_findLinked_57 X hZ σ10 rec6 ih6 a1 1 x11 hF)
      · refine ww_iconst (pc := 52) X (v := 2) dX6_findLinked_52 (by decide) ?_
        refine ww_goto (pc := 53) X (tgt := 57) dX6_findLinked_53 (by decide) ?_
        exact ww_sub [1, 2] rfl (wjX6_findLinked_57 X hZ σ10 rec6 ih6 a1 2 x11 hF)
    · refine ww_goto (pc := 29) X (tgt := 62) dX6_findLinked_29 (by decide) ?_
      refine ww_iinc (pc := 62) X (j := 1) (v := 1) (lv' := [(0, .ref (G.2.1 83))]) dX6_findLinked_62 rfl rfl (by decide) rfl hF (fun x16 ex16 hF => ?_)
      refine ww_goto (pc := 65) X (tgt := 6) dX6_findLinked_65 (by decide) ?_
      exact ww_sub [1, 0] rfl (ih6 x16 σ1 hF)
set_option maxRecDepth 100000 in
set_option maxHeartbeats 4000000 in
theorem wX6_findLinked {M : gM} {G : gG} {out : Int32 × gS} (X : gX M G zC cX6_findLinked RX6 3 wsX6_findLinked rmX6_findLinked (some .int)) {ex : gEx} (hZ : ∀ s : State, G.2.2.2 s → kC ex (gA G zC.1) s) (σ : gS) (hF : fX6_findLinked σ = some out) : WW M (gQi M G zC out.1 out.2) G zC 3 σ 0 [(0, .ref (G.2.1 83))] [] := by
  unfold fX6_findLinked at hF
  refine ww_aload_n (pc := 0) X (j := 0) dX6_findLinked_0 rfl rfl ?_
  obtain ⟨σ2, h1, hF⟩ := bd_some hF
  refine ww_callVv (pc := 1) X (As := []) (rest := []) dX6_findLinked_1 (kX6_gatherStarted (mL M) G hZ X.2.2.2.2.2.2.1 X.2.2.2.2.2.2.2.1 σ σ2 h1) rfl shzC_83 clzC_6 gX6_findLinked_X6_gatherStarted hyX6_gatherStarted ⟨rfl, rfl⟩ ⟨Nat.le_of_ble_eq_true rfl, Nat.le_of_ble_eq_true rfl⟩ rfl rfl (Nat.le_of_ble_eq_true rfl) ?_
  refine ww_iconst (pc := 4) X (v := 0) dX6_findLinked_4 (by decide) ?_
  refine ww_istore_n (pc := 5) X (lv' := [(0, .ref (G.2.1 83))]) dX6_findLinked_5 rfl (by decide) rfl hF (fun x3 ex3 hF => ?_)
  exact ww_sub [1, 0] rfl (lpc_ind (P := (fun (s : Int32 × gS) => WW M (gQi M G zC out.1 out.2) G zC 3 s.2 6 [(0, .ref (G.2.1 83)), (1, .int s.1)] [])) (fun rec s ih hF => wbX6_findLinked_6 X hZ σ2 (fun a1 σ1 => rec (a1, σ1)) (fun a1 σ1 h => ih (a1, σ1) h) s.1 s.2 hF) K9 (x3, σ2) hF)
set_option maxRecDepth 100000 in
set_option maxHeartbeats 4000000 in
theorem kX6_findLinked (l : Launch) (G : gG) {ex : gEx} (hZ : ∀ s : State, G.2.2.2 s → kC ex (gA G zC.1) s) (hG : gOK G zC.1) (hT : G.2.2.1.map (fun q => q.2) = zC.2.1) (σ : gS) (out : Int32 × gS) (hF : fX6_findLinked σ = some out) : gCi l yX6_findLinked wsX6_findLinked rmX6_findLinked G zC [.ref (G.2.1 83)] σ out.1 out.2 :=
  gEnter (by decide) rfl ⟨rfl, rfl⟩ hG hT (Nat.le_of_ble_eq_true rfl) rfl (fun M X hl => wX6_findLinked X hZ σ hF)
noncomputable def bX6_firstLink_2 (σ : gS) (rec2 : Int32 → Option (Int32)) (a1 : Int32) : Option (Int32) :=
  gd (gb 2 6) <| nm (σ.1 3 ((2 : Int32).toNatClampNeg)) fun v2 => (if v2 ≤ a1 then some ((-1)) else gd (gb a1 20) <| nm (σ.1 86 a1.toNatClampNeg) fun v4 => (if v4 = ((-1)) then nm (a1 + 1 : Int32) fun x6 => rec2 x6 else some a1))
noncomputable def fX6_firstLink (σ : gS) : Option (Int32) :=
  nm (0 : Int32) fun x1 => lpc (S := Int32) K9 (fun rec s => bX6_firstLink_2 σ (fun a1 => rec (a1)) s) (x1)
noncomputable abbrev rmX6_firstLink : Room := { frames := 0, cells := 0, slots := 0, locals := 0 }
set_option maxRecDepth 100000 in
set_option maxHeartbeats 4000000 in
theorem wbX6_firstLink_2 {M : gM} {G : gG} {out : Int32} (X : gX M G zC cX6_firstLink RX6 2 wsX6_firstLink rmX6_firstLink (some .int)) {ex : gEx} (hZ : ∀ s : State, G.2.2.2 s → kC ex (gA G zC.1) s) (σ : gS) (rec2 : Int32 → Option (Int32)) (ih2 : ∀ (a1 : Int32), rec2 a1 = some out → WW M (gQi M G zC out σ) G zC 2 σ 2 [(0, .ref (G.2.1 83)), (1, .int a1)] []) (a1 : Int32) (hF : bX6_firstLink_2 σ rec2 a1 = some out) : WW M (gQi M G zC out σ) G zC 2 σ 2 [(0, .ref (G.2.1 83)), (1, .int a1)] [] := by
  unfold bX6_firstLink_2 at hF
  refine ww_iload_n (pc := 2) X (j := 1) dX6_firstLink_2 rfl rfl ?_
  refine ww_aload_n (pc := 3) X (j := 0) dX6_firstLink_3 rfl rfl ?_
  refine ww_get (pc := 4) X (ref := "PictureBlock$Starter") (T := TX6) (j := 0) dX6_firstLink_4 inX6_firstLink_RX6 shzC_83 clzC_6 (by decide) rfl (List.mem_of_getElem? (i := 1) rfl) rfl ?_
  refine ww_get (pc := 7) X (ref := "PictureBlock$Told") (T := TX8) (j := 0) dX6_firstLink_7 inX6_firstLink_RX8 shzC_2 clzC_8 (by decide) rfl (List.mem_of_getElem? (i := 2) rfl) rfl ?_
  refine ww_iconst (pc := 10) X (v := 2) dX6_firstLink_10 (by decide) ?_
  refine ww_iald (pc := 11) X dX6_firstLink_11 shzC_3 rfl hF (fun v2 ev2 bv2 hF => ?_)
  refine ww_icmp_ge (pc := 12) (tgt := 33) X dX6_firstLink_12 (by decide) hF (fun h3 hF => ?_) (fun h3 hF => ?_)
  · refine ww_iconst (pc := 33) X (v := (-1)) dX6_firstLink_33 (by decide) ?_
    exact ww_iret (pc := 34) X dX6_firstLink_34 (Option.some.inj hF) rfl
  · refine ww_aload_n (pc := 15) X (j := 0) dX6_firstLink_15 rfl rfl ?_
    refine ww_get (pc := 16) X (ref := "PictureBlock$Starter") (T := TX6) (j := 4) dX6_firstLink_16 inX6_firstLink_RX6 shzC_83 clzC_6 (by decide) rfl (List.mem_of_getElem? (i := 3) rfl) rfl ?_
    refine ww_iload_n (pc := 19) X (j := 1) dX6_firstLink_19 rfl rfl ?_
    refine ww_iald (pc := 20) X dX6_firstLink_20 shzC_86 rfl hF (fun v4 ev4 bv4 hF => ?_)
    refine ww_iconst (pc := 21) X (v := (-1)) dX6_firstLink_21 (by decide) ?_
    refine ww_icmp_eq (pc := 22) (tgt := 27) X dX6_firstLink_22 (by decide) hF (fun h5 hF => ?_) (fun h5 hF => ?_)
    · refine ww_iinc (pc := 27) X (j := 1) (v := 1) (lv' := [(0, .ref (G.2.1 83))]) dX6_firstLink_27 rfl rfl (by decide) rfl hF (fun x6 ex6 hF => ?_)
      refine ww_goto (pc := 30) X (tgt := 2) dX6_firstLink_30 (by decide) ?_
      exact ww_sub [1, 0] rfl (ih2 x6 hF)
    · refine ww_iload_n (pc := 25) X (j := 1) dX6_firstLink_25 rfl rfl ?_
      exact ww_iret (pc := 26) X dX6_firstLink_26 (Option.some.inj hF) rfl
set_option maxRecDepth 100000 in
set_option maxHeartbeats 4000000 in
theorem wX6_firstLink {M : gM} {G : gG} {out : Int32} (X : gX M G zC cX6_firstLink RX6 2 wsX6_firstLink rmX6_firstLink (some .int)) {ex : gEx} (hZ : ∀ s : State, G.2.2.2 s → kC ex (gA G zC.1) s) (σ : gS) (hF : fX6_firstLink σ = some out) : WW M (gQi M G zC out σ) G zC 2 σ 0 [(0, .ref (G.2.1 83))] [] := by
  unfold fX6_firstLink at hF
  refine ww_iconst (pc := 0) X (v := 0) dX6_firstLink_0 (by decide) ?_
  refine ww_istore_n (pc := 1) X (lv' := [(0, .ref (G.2.1 83))]) dX6_firstLink_1 rfl (by decide) rfl hF (fun x1 ex1 hF => ?_)
  exact ww_sub [1, 0] rfl (lpc_ind (P := (fun (s : Int32) => WW M (gQi M G zC out σ) G zC 2 σ 2 [(0, .ref (G.2.1 83)), (1, .int s)] [])) (fun rec s ih hF => wbX6_firstLink_2 X hZ σ (fun a1 => rec (a1)) (fun a1 h => ih (a1) h) s hF) K9 (x1) hF)
set_option maxRecDepth 100000 in
set_option maxHeartbeats 4000000 in
theorem kX6_firstLink (l : Launch) (G : gG) {ex : gEx} (hZ : ∀ s : State, G.2.2.2 s → kC ex (gA G zC.1) s) (hG : gOK G zC.1) (hT : G.2.2.1.map (fun q => q.2) = zC.2.1) (σ : gS) (out : Int32) (hF : fX6_firstLink σ = some out) : gCi l yX6_firstLink wsX6_firstLink rmX6_firstLink G zC [.ref (G.2.1 83)] σ out σ :=
  gEnter (by decide) rfl ⟨rfl, rfl⟩ hG hT (Nat.le_of_ble_eq_true rfl) rfl (fun M X hl => wX6_firstLink X hZ σ hF)
noncomputable def fX5_turned_47 (σ : gS) (p1 : Int32) (p2 : Int32) : Option (Int32) :=
  gd (gb p1 60) <| nm (σ.1 10 p1.toNatClampNeg) fun v1 => gd (gb v1 12) <| nm (σ.1 48 v1.toNatClampNeg) fun v2 => bd (fX8_turnedBy_2 σ v2 p1 p2) fun r4 => some r4
noncomputable abbrev rmX5_turned : Room := { frames := 1, cells := 0, slots := 0, locals := 26 }
set_option maxRecDepth 100000 in
set_option maxHeartbeats 4000000 in
theorem wX5_turned_47 {M : gM} {G : gG} {out : Int32} (X : gX M G zC cX5_turned RX5 3 wsX5_turned rmX5_turned (some .int)) {ex : gEx} (hZ : ∀ s : State, G.2.2.2 s → kC ex (gA G zC.1) s) (σ : gS) (p1 : Int32) (p2 : Int32) (hF : fX5_turned_47 σ p1 p2 = some out) : WW M (gQi M G zC out σ) G zC 3 σ 0 [(0, .ref (G.2.1 47)), (1, .int p1), (2, .int p2)] [] := by
  unfold fX5_turned_47 at hF
  refine ww_aload_n (pc := 0) X (j := 0) dX5_turned_0 rfl rfl ?_
  refine ww_get (pc := 1) X (ref := "PictureBlock$Stand") (T := TX5) (j := 0) dX5_turned_1 inX5_turned_RX5 shzC_47 clzC_5 (by decide) rfl (List.mem_of_getElem? (i := 1) rfl) rfl ?_
  refine ww_aload_n (pc := 4) X (j := 0) dX5_turned_4 rfl rfl ?_
  refine ww_get (pc := 5) X (ref := "PictureBlock$Stand") (T := TX5) (j := 2) dX5_turned_5 inX5_turned_RX5 shzC_47 clzC_5 (by decide) rfl (List.mem_of_getElem? (i := 2) rfl) rfl ?_
  refine ww_aload_n (pc := 8) X (j := 0) dX5_turned_8 rfl rfl ?_
  refine ww_get (pc := 9) X (ref := "PictureBlock$Stand") (T := TX5) (j := 0) dX5_turned_9 inX5_turned_RX5 shzC_47 clzC_5 (by decide) rfl (List.mem_of_getElem? (i := 1) rfl) rfl ?_
  refine ww_get (pc := 12) X (ref := "PictureBlock$Told") (T := TX8) (j := 4) dX5_turned_12 inX5_turned_RX8 shzC_2 clzC_8 (by decide) rfl (List.mem_of_getElem? (i := 3) rfl) rfl ?_
  refine ww_iload_n (pc := 15) X (j := 1) dX5_turned_15 rfl rfl ?_
  refine ww_iald (pc := 16) X dX5_turned_16 shzC_10 rfl hF (fun v1 ev1 bv1 hF => ?_)
  refine ww_iald (pc := 17) X dX5_turned_17 shzC_48 rfl hF (fun v2 ev2 bv2 hF => ?_)
  refine ww_iload_n (pc := 18) X (j := 1) dX5_turned_18 rfl rfl ?_
  refine ww_iload_n (pc := 19) X (j := 2) dX5_turned_19 rfl rfl ?_
  obtain ⟨r4, h3, hF⟩ := bd_some hF
  refine ww_callVi (pc := 20) X (As := [.int v2, .int p1, .int p2]) (rest := []) dX5_turned_20 (kX8_turnedBy_2 (mL M) G hZ X.2.2.2.2.2.2.1 X.2.2.2.2.2.2.2.1 σ v2 p1 p2 r4 h3) rfl shzC_2 clzC_8 gX5_turned_X8_turnedBy hyX8_turnedBy ⟨rfl, rfl⟩ ⟨Nat.le_of_ble_eq_true rfl, Nat.le_of_ble_eq_true rfl⟩ rfl rfl (Nat.le_of_ble_eq_true rfl) ?_
  exact ww_iret (pc := 23) X dX5_turned_23 (Option.some.inj hF) rfl
set_option maxRecDepth 100000 in
set_option maxHeartbeats 4000000 in
theorem kX5_turned_47 (l : Launch) (G : gG) {ex : gEx} (hZ : ∀ s : State, G.2.2.2 s → kC ex (gA G zC.1) s) (hG : gOK G zC.1) (hT : G.2.2.1.map (fun q => q.2) = zC.2.1) (σ : gS) (p1 : Int32) (p2 : Int32) (out : Int32) (hF : fX5_turned_47 σ p1 p2 = some out) : gCi l yX5_turned wsX5_turned rmX5_turned G zC [.ref (G.2.1 47), .int p1, .int p2] σ out σ :=
  gEnter (by decide) rfl ⟨rfl, rfl⟩ hG hT (Nat.le_of_ble_eq_true rfl) rfl (fun M X hl => wX5_turned_47 X hZ σ p1 p2 hF)
noncomputable def bX6_unlikeness_36 (σ : gS) (c5_1 : Int32) (c5_2 : Int32) (c36_5 : Int32) (rec5 : Int64 → Int32 → Option (Int64)) (rec36 : Int64 → Int32 → Option (Int64)) (a3 : Int64) (a6 : Int32) : Option (Int64) :=
  if 2 ≤ a6 then nm (c36_5 + 1 : Int32) fun x9 => rec5 a3 x9 else gd (gb c36_5 20) <| nm (σ.1 86 c36_5.toNatClampNeg) fun v10 => bd (fX8_turnedBy_2 σ c5_1 v10 a6) fun r12 => gd (gb c5_2 20) <| nm (σ.1 86 c5_2.toNatClampNeg) fun v13 => bd (fX8_turnedBy_2 σ c5_1 v13 a6) fun r15 => nm (r12 - r15 : Int32) fun x16 => gd (gb a6 2) <| gd (gb c36_5 20) <| nm (σ.1 (88 + a6.toNatClampNeg) c36_5.toNatClampNeg) fun v18 => gd (gb a6 2) <| gd (gb c5_2 20) <| nm (σ.1 (88 + a6.toNatClampNeg) c5_2.toNatClampNeg) fun v20 => nm (v18 - v20 : Int32) fun x21 => nm (a3 + ((if 0 ≤ (x16 - x21) then (x16 - x21) else 0 - (x16 - x21)).toInt64) : Int64) fun x22 => nm (a6 + 1 : Int32) fun x23 => rec36 x22 x23
noncomputable def bX6_unlikeness_5 (σ : gS) (c5_1 : Int32) (c5_2 : Int32) (rec5 : Int64 → Int32 → Option (Int64)) (a3 : Int64) (a5 : Int32) : Option (Int64) :=
  gd (gb 2 6) <| nm (σ.1 3 ((2 : Int32).toNatClampNeg)) fun v3 => (if v3 ≤ a5 then some a3 else gd (gb a5 20) <| nm (σ.1 86 a5.toNatClampNeg) fun v5 => (if v5 = ((-1)) then nm (a5 + 1 : Int32) fun x24 => rec5 a3 x24 else nm (0 : Int32) fun x7 => lpc (S := Int64 × Int32) K9 (fun rec s => bX6_unlikeness_36 σ c5_1 c5_2 a5 rec5 (fun a3 a6 => rec (a3, a6)) s.1 s.2) (a3, x7)))
noncomputable def fX6_unlikeness (σ : gS) (p1 : Int32) (p2 : Int32) : Option (Int64) :=
  nm (0 : Int64) fun x1 => nm (0 : Int32) fun x2 => lpc (S := Int64 × Int32) K9 (fun rec s => bX6_unlikeness_5 σ p1 p2 (fun a3 a5 => rec (a3, a5)) s.1 s.2) (x1, x2)
noncomputable abbrev rmX6_unlikeness : Room := { frames := 1, cells := 0, slots := 0, locals := 32 }
set_option maxRecDepth 100000 in
set_option maxHeartbeats 4000000 in
theorem wbX6_unlikeness_36 {M : gM} {G : gG} {out : Int64} (X : gX M G zC cX6_unlikeness RX6 9 wsX6_unlikeness rmX6_unlikeness (some .long)) {ex : gEx} (hZ : ∀ s : State, G.2.2.2 s → kC ex (gA G zC.1) s) (σ : gS) (c5_1 : Int32) (c5_2 : Int32) (c36_5 : Int32) (rec5 : Int64 → Int32 → Option (Int64)) (ih5 : ∀ (a3 : Int64) (a5 : Int32), rec5 a3 a5 = some out → WW M (gQl M G zC out σ) G zC 9 σ 5 [(0, .ref (G.2.1 83)), (1, .int c5_1), (2, .int c5_2), (3, .long a3), (5, .int a5)] []) (rec36 : Int64 → Int32 → Option (Int64)) (ih36 : ∀ (a3 : Int64) (a6 : Int32), rec36 a3 a6 = some out → WW M (gQl M G zC out σ) G zC 9 σ 36 [(0, .ref (G.2.1 83)), (1, .int c5_1), (2, .int c5_2), (3, .long a3), (5, .int c36_5), (6, .int a6)] []) (a3 : Int64) (a6 : Int32) (hF : bX6_unlikeness_36 σ c5_1 c5_2 c36_5 rec5 rec36 a3 a6 = some out) : WW M (gQl M G zC out σ) G zC 9 σ 36 [(0, .ref (G.2.1 83)), (1, .int c5_1), (2, .int c5_2), (3, .long a3), (5, .int c36_5), (6, .int a6)] [] := by
  unfold bX6_unlikeness_36 at hF
  refine ww_iload (pc := 36) X (j := 5) dX6_unlikeness_36 rfl ?_
  refine ww_iconst (pc := 38) X (v := 2) dX6_unlikeness_38 (by decide) ?_
  refine ww_icmp_ge (pc := 39) (tgt := 118) X dX6_unlikeness_39 (by decide) hF (fun h8 hF => ?_) (fun h8 hF => ?_)
  · refine ww_iinc (pc := 118) X (j := 4) (v := 1) (lv' := [(0, .ref (G.2.1 83)), (1, .int c5_1), (2, .int c5_2), (3, .long a3), (6, .int a6)]) dX6_unlikeness_118 rfl rfl (by decide) rfl hF (fun x9 ex9 hF => ?_)
    refine ww_goto (pc := 121) X (tgt := 5) dX6_unlikeness_121 (by decide) ?_
    exact ww_sub [1, 2, 3, 4, 0] rfl (ih5 a3 x9 hF)
  · refine ww_aload_n (pc := 42) X (j := 0) dX6_unlikeness_42 rfl rfl ?_
    refine ww_get (pc := 43) X (ref := "PictureBlock$Starter") (T := TX6) (j := 0) dX6_unlikeness_43 inX6_unlikeness_RX6 shzC_83 clzC_6 (by decide) rfl (List.mem_of_getElem? (i := 1) rfl) rfl ?_
    refine ww_iload_n (pc := 46) X (j := 1) dX6_unlikeness_46 rfl rfl ?_
    refine ww_aload_n (pc := 47) X (j := 0) dX6_unlikeness_47 rfl rfl ?_
    refine ww_get (pc := 48) X (ref := "PictureBlock$Starter") (T := TX6) (j := 4) dX6_unlikeness_48 inX6_unlikeness_RX6 shzC_83 clzC_6 (by decide) rfl (List.mem_of_getElem? (i := 3) rfl) rfl ?_
    refine ww_iload (pc := 51) X (j := 4) dX6_unlikeness_51 rfl ?_
    refine ww_iald (pc := 53) X dX6_unlikeness_53 shzC_86 rfl hF (fun v10 ev10 bv10 hF => ?_)
    refine ww_iload (pc := 54) X (j := 5) dX6_unlikeness_54 rfl ?_
    obtain ⟨r12, h11, hF⟩ := bd_some hF
    refine ww_callVi (pc := 56) X (As := [.int c5_1, .int v10, .int a6]) (rest := []) dX6_unlikeness_56 (kX8_turnedBy_2 (mL M) G hZ X.2.2.2.2.2.2.1 X.2.2.2.2.2.2.2.1 σ c5_1 v10 a6 r12 h11) rfl shzC_2 clzC_8 gX6_unlikeness_X8_turnedBy hyX8_turnedBy ⟨rfl, rfl⟩ ⟨Nat.le_of_ble_eq_true rfl, Nat.le_of_ble_eq_true rfl⟩ rfl rfl (Nat.le_of_ble_eq_true rfl) ?_
    refine ww_aload_n (pc := 59) X (j := 0) dX6_unlikeness_59 rfl rfl ?_
    refine ww_get (pc := 60) X (ref := "PictureBlock$Starter") (T := TX6) (j := 0) dX6_unlikeness_60 inX6_unlikeness_RX6 shzC_83 clzC_6 (by decide) rfl (List.mem_of_getElem? (i := 1) rfl) rfl ?_
    refine ww_iload_n (pc := 63) X (j := 1) dX6_unlikeness_63 rfl rfl ?_
    refine ww_aload_n (pc := 64) X (j := 0) dX6_unlikeness_64 rfl rfl ?_
    refine ww_get (pc := 65) X (ref := "PictureBlock$Starter") (T := TX6) (j := 4) dX6_unlikeness_65 inX6_unlikeness_RX6 shzC_83 clzC_6 (by decide) rfl (List.mem_of_getElem? (i := 3) rfl) rfl ?_
    refine ww_iload_n (pc := 68) X (j := 2) dX6_unlikeness_68 rfl rfl ?_
    refine ww_iald (pc := 69) X dX6_unlikeness_69 shzC_86 rfl hF (fun v13 ev13 bv13 hF => ?_)
    refine ww_iload (pc := 70) X (j := 5) dX6_unlikeness_70 rfl ?_
    obtain ⟨r15, h14, hF⟩ := bd_some hF
    refine ww_callVi (pc := 72) X (As := [.int c5_1, .int v13, .int a6]) (rest := [.int r12]) dX6_unlikeness_72 (kX8_turnedBy_2 (mL M) G hZ X.2.2.2.2.2.2.1 X.2.2.2.2.2.2.2.1 σ c5_1 v13 a6 r15 h14) rfl shzC_2 clzC_8 gX6_unlikeness_X8_turnedBy hyX8_turnedBy ⟨rfl, rfl⟩ ⟨Nat.le_of_ble_eq_true rfl, Nat.le_of_ble_eq_true rfl⟩ rfl rfl (Nat.le_of_ble_eq_true rfl) ?_
    refine ww_isub (pc := 75) X dX6_unlikeness_75 ?_
    refine ww_istore (pc := 76) X (lv' := [(0, .ref (G.2.1 83)), (1, .int c5_1), (2, .int c5_2), (3, .long a3), (5, .int c36_5), (6, .int a6)]) dX6_unlikeness_76 (by decide) rfl hF (fun x16 ex16 hF => ?_)
    refine ww_aload_n (pc := 78) X (j := 1) dX6_unlikeness_78 rfl rfl ?_
    refine ww_get (pc := 79) X (ref := "PictureBlock$Starter") (T := TX6) (j := 5) dX6_unlikeness_79 inX6_unlikeness_RX6 shzC_83 clzC_6 (by decide) rfl (List.mem_of_getElem? (i := 4) rfl) rfl ?_
    refine ww_iload (pc := 82) X (j := 6) dX6_unlikeness_82 rfl ?_
    refine ww_aald (pc := 84) X dX6_unlikeness_84 shzC_87 rfl hF (fun h17 hF => ?_)
    refine ww_iload (pc := 85) X (j := 5) dX6_unlikeness_85 rfl ?_
    refine ww_iald (pc := 87) X dX6_unlikeness_87 (rwzC_87 _ (gb_lt h17)) rfl hF (fun v18 ev18 bv18 hF => ?_)
    refine ww_aload_n (pc := 88) X (j := 1) dX6_unlikeness_88 rfl rfl ?_
    refine ww_get (pc := 89) X (ref := "PictureBlock$Starter") (T := TX6) (j := 5) dX6_unlikeness_89 inX6_unlikeness_RX6 shzC_83 clzC_6 (by decide) rfl (List.mem_of_getElem? (i := 4) rfl) rfl ?_
    refine ww_iload (pc := 92) X (j := 6) dX6_unlikeness_92 rfl ?_
    refine ww_aald (pc := 94) X dX6_unlikeness_94 shzC_87 rfl hF (fun h19 hF => ?_)
    refine ww_iload_n (pc := 95) X (j := 3) dX6_unlikeness_95 rfl rfl ?_
    refine ww_iald (pc := 96) X dX6_unlikeness_96 (rwzC_87 _ (gb_lt h19)) rfl hF (fun v20 ev20 bv20 hF => ?_)
    refine ww_isub (pc := 97) X dX6_unlikeness_97 ?_
    refine ww_istore (pc := 98) X (lv' := [(7, .int x16), (0, .ref (G.2.1 83)), (1, .int c5_1), (2, .int c5_2), (3, .long a3), (5, .int c36_5), (6, .int a6)]) dX6_unlikeness_98 (by decide) rfl hF (fun x21 ex21 hF => ?_)
    refine ww_lload_n (pc := 100) X (j := 5) dX6_unlikeness_100 rfl rfl ?_
    refine ww_iload (pc := 101) X (j := 1) dX6_unlikeness_101 rfl ?_
    refine ww_iload (pc := 103) X (j := 0) dX6_unlikeness_103 rfl ?_
    refine ww_isub (pc := 105) X dX6_unlikeness_105 ?_
    refine ww_mabs (pc := 106) X dX6_unlikeness_106 (List.mem_of_getElem? (i := 5) rfl) (List.mem_of_getElem? (i := 6) rfl) (List.mem_of_getElem? (i := 7) rfl) (List.mem_of_getElem? (i := 8) rfl) ⟨Nat.le_of_ble_eq_true rfl, Nat.le_of_ble_eq_true rfl⟩ ?_
    refine ww_i2l (pc := 109) X dX6_unlikeness_109 ?_
    refine ww_ladd (pc := 110) X dX6_unlikeness_110 ?_
    refine ww_lstore_n (pc := 111) X (lv' := [(8, .int x21), (7, .int x16), (0, .ref (G.2.1 83)), (1, .int c5_1), (2, .int c5_2), (5, .int c36_5), (6, .int a6)]) dX6_unlikeness_111 rfl (by decide) rfl hF (fun x22 ex22 hF => ?_)
    refine ww_iinc (pc := 112) X (j := 7) (v := 1) (lv' := [(3, .long x22), (8, .int x21), (7, .int x16), (0, .ref (G.2.1 83)), (1, .int c5_1), (2, .int c5_2), (5, .int c36_5)]) dX6_unlikeness_112 rfl rfl (by decide) rfl hF (fun x23 ex23 hF => ?_)
    refine ww_goto (pc := 115) X (tgt := 36) dX6_unlikeness_115 (by decide) ?_
    exact ww_sub [4, 5, 6, 1, 7, 0] rfl (ih36 x22 x23 hF)
set_option maxRecDepth 100000 in
set_option maxHeartbeats 4000000 in
theorem wbX6_unlikeness_5 {M : gM} {G : gG} {out : Int64} (X : gX M G zC cX6_unlikeness RX6 9 wsX6_unlikeness rmX6_unlikeness (some .long)) {ex : gEx} (hZ : ∀ s : State, G.2.2.2 s → kC ex (gA G zC.1) s) (σ : gS) (c5_1 : Int32) (c5_2 : Int32) (rec5 : Int64 → Int32 → Option (Int64)) (ih5 : ∀ (a3 : Int64) (a5 : Int32), rec5 a3 a5 = some out → WW M (gQl M G zC out σ) G zC 9 σ 5 [(0, .ref (G.2.1 83)), (1, .int c5_1), (2, .int c5_2), (3, .long a3), (5, .int a5)] []) (a3 : Int64) (a5 : Int32) (hF : bX6_unlikeness_5 σ c5_1 c5_2 rec5 a3 a5 = some out) : WW M (gQl M G zC out σ) G zC 9 σ 5 [(0, .ref (G.2.1 83)), (1, .int c5_1), (2, .int c5_2), (3, .long a3), (5, .int a5)] [] := by
  unfold bX6_unlikeness_5 at hF
  refine ww_iload (pc := 5) X (j := 4) dX6_unlikeness_5 rfl ?_
  refine ww_aload_n (pc := 7) X (j := 0) dX6_unlikeness_7 rfl rfl ?_
  refine ww_get (pc := 8) X (ref := "PictureBlock$Starter") (T := TX6) (j := 0) dX6_unlikeness_8 inX6_unlikeness_RX6 shzC_83 clzC_6 (by decide) rfl (List.mem_of_getElem? (i := 1) rfl) rfl ?_
  refine ww_get (pc := 11) X (ref := "PictureBlock$Told") (T := TX8) (j := 0) dX6_unlikeness_11 inX6_unlikeness_RX8 shzC_2 clzC_8 (by decide) rfl (List.mem_of_getElem? (i := 2) rfl) rfl ?_
  refine ww_iconst (pc := 14) X (v := 2) dX6_unlikeness_14 (by decide) ?_
  refine ww_iald (pc := 15) X dX6_unlikeness_15 shzC_3 rfl hF (fun v3 ev3 bv3 hF => ?_)
  refine ww_icmp_ge (pc := 16) (tgt := 124) X dX6_unlikeness_16 (by decide) hF (fun h4 hF => ?_) (fun h4 hF => ?_)
  · refine ww_lload_n (pc := 124) X (j := 3) dX6_unlikeness_124 rfl rfl ?_
    exact ww_lret (pc := 125) X dX6_unlikeness_125 (Option.some.inj hF) rfl
  · refine ww_aload_n (pc := 19) X (j := 0) dX6_unlikeness_19 rfl rfl ?_
    refine ww_get (pc := 20) X (ref := "PictureBlock$Starter") (T := TX6) (j := 4) dX6_unlikeness_20 inX6_unlikeness_RX6 shzC_83 clzC_6 (by decide) rfl (List.mem_of_getElem? (i := 3) rfl) rfl ?_
    refine ww_iload (pc := 23) X (j := 4) dX6_unlikeness_23 rfl ?_
    refine ww_iald (pc := 25) X dX6_unlikeness_25 shzC_86 rfl hF (fun v5 ev5 bv5 hF => ?_)
    refine ww_iconst (pc := 26) X (v := (-1)) dX6_unlikeness_26 (by decide) ?_
    refine ww_icmp_ne (pc := 27) (tgt := 33) X dX6_unlikeness_27 (by decide) hF (fun h6 hF => ?_) (fun h6 hF => ?_)
    · refine ww_iconst (pc := 33) X (v := 0) dX6_unlikeness_33 (by decide) ?_
      refine ww_istore (pc := 34) X (lv' := [(0, .ref (G.2.1 83)), (1, .int c5_1), (2, .int c5_2), (3, .long a3), (5, .int a5)]) dX6_unlikeness_34 (by decide) rfl hF (fun x7 ex7 hF => ?_)
      exact ww_sub [1, 2, 3, 4, 5, 0] rfl (lpc_ind (P := (fun (s : Int64 × Int32) => WW M (gQl M G zC out σ) G zC 9 σ 36 [(0, .ref (G.2.1 83)), (1, .int c5_1), (2, .int c5_2), (3, .long s.1), (5, .int a5), (6, .int s.2)] [])) (fun rec s ih hF => wbX6_unlikeness_36 X hZ σ c5_1 c5_2 a5 rec5  ih5 (fun a3 a6 => rec (a3, a6)) (fun a3 a6 h => ih (a3, a6) h) s.1 s.2 hF) K9 (a3, x7) hF)
    · refine ww_goto (pc := 30) X (tgt := 118) dX6_unlikeness_30 (by decide) ?_
      refine ww_iinc (pc := 118) X (j := 4) (v := 1) (lv' := [(0, .ref (G.2.1 83)), (1, .int c5_1), (2, .int c5_2), (3, .long a3)]) dX6_unlikeness_118 rfl rfl (by decide) rfl hF (fun x24 ex24 hF => ?_)
      refine ww_goto (pc := 121) X (tgt := 5) dX6_unlikeness_121 (by decide) ?_
      exact ww_sub [1, 2, 3, 4, 0] rfl (ih5 a3 x24 hF)
set_option maxRecDepth 100000 in
set_option maxHeartbeats 4000000 in
theorem wX6_unlikeness {M : gM} {G : gG} {out : Int64} (X : gX M G zC cX6_unlikeness RX6 9 wsX6_unlikeness rmX6_unlikeness (some .long)) {ex : gEx} (hZ : ∀ s : State, G.2.2.2 s → kC ex (gA G zC.1) s) (σ : gS) (p1 : Int32) (p2 : Int32) (hF : fX6_unlikeness σ p1 p2 = some out) : WW M (gQl M G zC out σ) G zC 9 σ 0 [(0, .ref (G.2.1 83)), (1, .int p1), (2, .int p2)] [] := by
  unfold fX6_unlikeness at hF
  refine ww_lconst (pc := 0) X (v := 0) dX6_unlikeness_0 (by decide) ?_
  refine ww_lstore_n (pc := 1) X (lv' := [(0, .ref (G.2.1 83)), (1, .int p1), (2, .int p2)]) dX6_unlikeness_1 rfl (by decide) rfl hF (fun x1 ex1 hF => ?_)
  refine ww_iconst (pc := 2) X (v := 0) dX6_unlikeness_2 (by decide) ?_
  refine ww_istore (pc := 3) X (lv' := [(3, .long x1), (0, .ref (G.2.1 83)), (1, .int p1), (2, .int p2)]) dX6_unlikeness_3 (by decide) rfl hF (fun x2 ex2 hF => ?_)
  exact ww_sub [2, 3, 4, 1, 0] rfl (lpc_ind (P := (fun (s : Int64 × Int32) => WW M (gQl M G zC out σ) G zC 9 σ 5 [(0, .ref (G.2.1 83)), (1, .int p1), (2, .int p2), (3, .long s.1), (5, .int s.2)] [])) (fun rec s ih hF => wbX6_unlikeness_5 X hZ σ p1 p2 (fun a3 a5 => rec (a3, a5)) (fun a3 a5 h => ih (a3, a5) h) s.1 s.2 hF) K9 (x1, x2) hF)
set_option maxRecDepth 100000 in
set_option maxHeartbeats 4000000 in
theorem kX6_unlikeness (l : Launch) (G : gG) {ex : gEx} (hZ : ∀ s : State, G.2.2.2 s → kC ex (gA G zC.1) s) (hG : gOK G zC.1) (hT : G.2.2.1.map (fun q => q.2) = zC.2.1) (σ : gS) (p1 : Int32) (p2 : Int32) (out : Int64) (hF : fX6_unlikeness σ p1 p2 = some out) : gCl l yX6_unlikeness wsX6_unlikeness rmX6_unlikeness G zC [.ref (G.2.1 83), .int p1, .int p2] σ out σ :=
  gEnter (by decide) rfl ⟨rfl, rfl⟩ hG hT (Nat.le_of_ble_eq_true rfl) rfl (fun M X hl => wX6_unlikeness X hZ σ p1 p2 hF)
noncomputable def bX6_leastUnlikeTurn_4 (σ : gS) (c4_1 : Int32) (rec4 : Int32 → Int32 → Option (Int32)) (a2 : Int32) (a3 : Int32) : Option (Int32) :=
  if 4 ≤ a3 then some a2 else bd (fX6_unlikeness σ a3 c4_1) fun r5 => bd (fX6_unlikeness σ a2 c4_1) fun r7 => (if r7 ≤ r5 then nm (a3 + 1 : Int32) fun x9 => rec4 a2 x9 else nm (a3 : Int32) fun x10 => nm (a3 + 1 : Int32) fun x11 => rec4 x10 x11)
noncomputable def fX6_leastUnlikeTurn (σ : gS) (p1 : Int32) : Option (Int32) :=
  nm (0 : Int32) fun x1 => nm (1 : Int32) fun x2 => lpc (S := Int32 × Int32) K9 (fun rec s => bX6_leastUnlikeTurn_4 σ p1 (fun a2 a3 => rec (a2, a3)) s.1 s.2) (x1, x2)
noncomputable abbrev rmX6_leastUnlikeTurn : Room := { frames := 2, cells := 0, slots := 0, locals := 60 }
set_option maxRecDepth 100000 in
set_option maxHeartbeats 4000000 in
theorem wbX6_leastUnlikeTurn_4 {M : gM} {G : gG} {out : Int32} (X : gX M G zC cX6_leastUnlikeTurn RX6 4 wsX6_leastUnlikeTurn rmX6_leastUnlikeTurn (some .int)) {ex : gEx} (hZ : ∀ s : State, G.2.2.2 s → kC ex (gA G zC.1) s) (σ : gS) (c4_1 : Int32) (rec4 : Int32 → Int32 → Option (Int32)) (ih4 : ∀ (a2 : Int32) (a3 : Int32), rec4 a2 a3 = some out → WW M (gQi M G zC out σ) G zC 4 σ 4 [(0, .ref (G.2.1 83)), (1, .int c4_1), (2, .int a2), (3, .int a3)] []) (a2 : Int32) (a3 : Int32) (hF : bX6_leastUnlikeTurn_4 σ c4_1 rec4 a2 a3 = some out) : WW M (gQi M G zC out σ) G zC 4 σ 4 [(0, .ref (G.2.1 83)), (1, .int c4_1), (2, .int a2), (3, .int a3)] [] := by
  unfold bX6_leastUnlikeTurn_4 at hF
  refine ww_iload_n (pc := 4) X (j := 3) dX6_leastUnlikeTurn_4 rfl rfl ?_
  refine ww_iconst (pc := 5) X (v := 4) dX6_leastUnlikeTurn_5 (by decide) ?_
  refine ww_icmp_ge (pc := 6) (tgt := 33) X dX6_leastUnlikeTurn_6 (by decide) hF (fun h3 hF => ?_) (fun h3 hF => ?_)
  · refine ww_iload_n (pc := 33) X (j := 2) dX6_leastUnlikeTurn_33 rfl rfl ?_
    exact ww_iret (pc := 34) X dX6_leastUnlikeTurn_34 (Option.some.inj hF) rfl
  · refine ww_aload_n (pc := 9) X (j := 0) dX6_leastUnlikeTurn_9 rfl rfl ?_
    refine ww_iload_n (pc := 10) X (j := 3) dX6_leastUnlikeTurn_10 rfl rfl ?_
    refine ww_iload_n (pc := 11) X (j := 1) dX6_leastUnlikeTurn_11 rfl rfl ?_
    obtain ⟨r5, h4, hF⟩ := bd_some hF
    refine ww_callVl (pc := 12) X (As := [.int a3, .int c4_1]) (rest := []) dX6_leastUnlikeTurn_12 (kX6_unlikeness (mL M) G hZ X.2.2.2.2.2.2.1 X.2.2.2.2.2.2.2.1 σ a3 c4_1 r5 h4) rfl shzC_83 clzC_6 gX6_leastUnlikeTurn_X6_unlikeness hyX6_unlikeness ⟨rfl, rfl⟩ ⟨Nat.le_of_ble_eq_true rfl, Nat.le_of_ble_eq_true rfl⟩ rfl rfl (Nat.le_of_ble_eq_true rfl) ?_
    refine ww_aload_n (pc := 15) X (j := 0) dX6_leastUnlikeTurn_15 rfl rfl ?_
    refine ww_iload_n (pc := 16) X (j := 2) dX6_leastUnlikeTurn_16 rfl rfl ?_
    refine ww_iload_n (pc := 17) X (j := 1) dX6_leastUnlikeTurn_17 rfl rfl ?_
    obtain ⟨r7, h6, hF⟩ := bd_some hF
    refine ww_callVl (pc := 18) X (As := [.int a2, .int c4_1]) (rest := [.long r5]) dX6_leastUnlikeTurn_18 (kX6_unlikeness (mL M) G hZ X.2.2.2.2.2.2.1 X.2.2.2.2.2.2.2.1 σ a2 c4_1 r7 h6) rfl shzC_83 clzC_6 gX6_leastUnlikeTurn_X6_unlikeness hyX6_unlikeness ⟨rfl, rfl⟩ ⟨Nat.le_of_ble_eq_true rfl, Nat.le_of_ble_eq_true rfl⟩ rfl rfl (Nat.le_of_ble_eq_true rfl) ?_
    refine ww_lcmp_ge (pc := 21) (tgt := 27) X dX6_leastUnlikeTurn_21 dX6_leastUnlikeTurn_22 (by decide) hF (fun h8 hF => ?_) (fun h8 hF => ?_)
    · refine ww_iinc (pc := 27) X (j := 3) (v := 1) (lv' := [(0, .ref (G.2.1 83)), (1, .int c4_1), (2, .int a2)]) dX6_leastUnlikeTurn_27 rfl rfl (by decide) rfl hF (fun x9 ex9 hF => ?_)
      refine ww_goto (pc := 30) X (tgt := 4) dX6_leastUnlikeTurn_30 (by decide) ?_
      exact ww_sub [1, 2, 3, 0] rfl (ih4 a2 x9 hF)
    · refine ww_iload_n (pc := 25) X (j := 3) dX6_leastUnlikeTurn_25 rfl rfl ?_
      refine ww_istore_n (pc := 26) X (lv' := [(0, .ref (G.2.1 83)), (1, .int c4_1), (3, .int a3)]) dX6_leastUnlikeTurn_26 rfl (by decide) rfl hF (fun x10 ex10 hF => ?_)
      refine ww_iinc (pc := 27) X (j := 3) (v := 1) (lv' := [(2, .int x10), (0, .ref (G.2.1 83)), (1, .int c4_1)]) dX6_leastUnlikeTurn_27 rfl rfl (by decide) rfl hF (fun x11 ex11 hF => ?_)
      refine ww_goto (pc := 30) X (tgt := 4) dX6_leastUnlikeTurn_30 (by decide) ?_
      exact ww_sub [2, 3, 1, 0] rfl (ih4 x10 x11 hF)
set_option maxRecDepth 100000 in
set_option maxHeartbeats 4000000 in
theorem wX6_leastUnlikeTurn {M : gM} {G : gG} {out : Int32} (X : gX M G zC cX6_leastUnlikeTurn RX6 4 wsX6_leastUnlikeTurn rmX6_leastUnlikeTurn (some .int)) {ex : gEx} (hZ : ∀ s : State, G.2.2.2 s → kC ex (gA G zC.1) s) (σ : gS) (p1 : Int32) (hF : fX6_leastUnlikeTurn σ p1 = some out) : WW M (gQi M G zC out σ) G zC 4 σ 0 [(0, .ref (G.2.1 83)), (1, .int p1)] [] := by
  unfold fX6_leastUnlikeTurn at hF
  refine ww_iconst (pc := 0) X (v := 0) dX6_leastUnlikeTurn_0 (by decide) ?_
  refine ww_istore_n (pc := 1) X (lv' := [(0, .ref (G.2.1 83)), (1, .int p1)]) dX6_leastUnlikeTurn_1 rfl (by decide) rfl hF (fun x1 ex1 hF => ?_)
  refine ww_iconst (pc := 2) X (v := 1) dX6_leastUnlikeTurn_2 (by decide) ?_
  refine ww_istore_n (pc := 3) X (lv' := [(2, .int x1), (0, .ref (G.2.1 83)), (1, .int p1)]) dX6_leastUnlikeTurn_3 rfl (by decide) rfl hF (fun x2 ex2 hF => ?_)
  exact ww_sub [2, 3, 1, 0] rfl (lpc_ind (P := (fun (s : Int32 × Int32) => WW M (gQi M G zC out σ) G zC 4 σ 4 [(0, .ref (G.2.1 83)), (1, .int p1), (2, .int s.1), (3, .int s.2)] [])) (fun rec s ih hF => wbX6_leastUnlikeTurn_4 X hZ σ p1 (fun a2 a3 => rec (a2, a3)) (fun a2 a3 h => ih (a2, a3) h) s.1 s.2 hF) K9 (x1, x2) hF)
set_option maxRecDepth 100000 in
set_option maxHeartbeats 4000000 in
theorem kX6_leastUnlikeTurn (l : Launch) (G : gG) {ex : gEx} (hZ : ∀ s : State, G.2.2.2 s → kC ex (gA G zC.1) s) (hG : gOK G zC.1) (hT : G.2.2.1.map (fun q => q.2) = zC.2.1) (σ : gS) (p1 : Int32) (out : Int32) (hF : fX6_leastUnlikeTurn σ p1 = some out) : gCi l yX6_leastUnlikeTurn wsX6_leastUnlikeTurn rmX6_leastUnlikeTurn G zC [.ref (G.2.1 83), .int p1] σ out σ :=
  gEnter (by decide) rfl ⟨rfl, rfl⟩ hG hT (Nat.le_of_ble_eq_true rfl) rfl (fun M X hl => wX6_leastUnlikeTurn X hZ σ p1 hF)
noncomputable def bX6_startLinked_40 (σ : gS) (c40_1 : Int32) (c40_2 : Int32) (rec40 : Int32 → gS → Option (gS)) (a3 : Int32) (σ1 : gS) : Option (gS) :=
  if 2 ≤ a3 then some σ1 else gd (gb a3 2) <| gd (gb a3 2) <| gd (gb c40_2 20) <| nm (σ1.1 (88 + a3.toNatClampNeg) c40_2.toNatClampNeg) fun v11 => gd (gb c40_2 20) <| nm (σ1.1 86 c40_2.toNatClampNeg) fun v12 => bd (fX5_turned_47 σ1 v12 a3) fun r14 => gd (gb c40_1 12) <| nm (gsI σ1 (50 + a3.toNatClampNeg) c40_1.toNatClampNeg (v11 - r14)) fun σ15 => nm (a3 + 1 : Int32) fun x16 => rec40 x16 σ15
noncomputable def fX6_startLinked (σ : gS) (p1 : Int32) : Option (gS) :=
  bd (fX6_firstLink σ) fun r2 => nm (r2 : Int32) fun x3 => (if x3 = ((-1)) then some σ else gd (gb p1 12) <| nm (σ.1 9 p1.toNatClampNeg) fun v5 => (if v5 = 4 then bd (fX6_leastUnlikeTurn σ x3) fun r18 => gd (gb p1 12) <| nm (gsI σ 48 p1.toNatClampNeg r18) fun σ19 => nm (0 : Int32) fun x20 => lpc (S := Int32 × gS) K9 (fun rec s => bX6_startLinked_40 σ19 p1 x3 (fun a3 σ1 => rec (a3, σ1)) s.1 s.2) (x20, σ19) else nm (0 : Int32) fun x7 => lpc (S := Int32 × gS) K9 (fun rec s => bX6_startLinked_40 σ p1 x3 (fun a3 σ1 => rec (a3, σ1)) s.1 s.2) (x7, σ)))
noncomputable abbrev rmX6_startLinked : Room := { frames := 3, cells := 0, slots := 0, locals := 83 }
set_option maxRecDepth 100000 in
set_option maxHeartbeats 4000000 in
theorem wbX6_startLinked_40 {M : gM} {G : gG} {out : gS} (X : gX M G zC cX6_startLinked RX6 4 wsX6_startLinked rmX6_startLinked none) {ex : gEx} (hZ : ∀ s : State, G.2.2.2 s → kC ex (gA G zC.1) s) (σ : gS) (c40_1 : Int32) (c40_2 : Int32) (rec40 : Int32 → gS → Option (gS)) (ih40 : ∀ (a3 : Int32) (σ1 : gS), rec40 a3 σ1 = some out → WW M (gQv M G zC out) G zC 4 σ1 40 [(0, .ref (G.2.1 83)), (1, .int c40_1), (2, .int c40_2), (3, .int a3)] []) (a3 : Int32) (σ1 : gS) (hF : bX6_startLinked_40 σ c40_1 c40_2 rec40 a3 σ1 = some out) : WW M (gQv M G zC out) G zC 4 σ1 40 [(0, .ref (G.2.1 83)), (1, .int c40_1), (2, .int c40_2), (3, .int a3)] [] := by
  unfold bX6_startLinked_40 at hF
  refine ww_iload_n (pc := 40) X (j := 3) dX6_startLinked_40 rfl rfl ?_
  refine ww_iconst (pc := 41) X (v := 2) dX6_startLinked_41 (by decide) ?_
  refine ww_icmp_ge (pc := 42) (tgt := 85) X dX6_startLinked_42 (by decide) hF (fun h8 hF => ?_) (fun h8 hF => ?_)
  · exact ww_vret (pc := 85) X dX6_startLinked_85 (by cases hF; rfl)
  · refine ww_aload_n (pc := 45) X (j := 0) dX6_startLinked_45 rfl rfl ?_
    refine ww_get (pc := 46) X (ref := "PictureBlock$Starter") (T := TX6) (j := 1) dX6_startLinked_46 inX6_startLinked_RX6 shzC_83 clzC_6 (by decide) rfl (List.mem_of_getElem? (i := 3) rfl) rfl ?_
    refine ww_get (pc := 49) X (ref := "PictureBlock$Stand") (T := TX5) (j := 3) dX6_startLinked_49 inX6_startLinked_RX5 shzC_47 clzC_5 (by decide) rfl (List.mem_of_getElem? (i := 5) rfl) rfl ?_
    refine ww_iload_n (pc := 52) X (j := 3) dX6_startLinked_52 rfl rfl ?_
    refine ww_aald (pc := 53) X dX6_startLinked_53 shzC_49 rfl hF (fun h9 hF => ?_)
    refine ww_iload_n (pc := 54) X (j := 1) dX6_startLinked_54 rfl rfl ?_
    refine ww_aload_n (pc := 55) X (j := 0) dX6_startLinked_55 rfl rfl ?_
    refine ww_get (pc := 56) X (ref := "PictureBlock$Starter") (T := TX6) (j := 5) dX6_startLinked_56 inX6_startLinked_RX6 shzC_83 clzC_6 (by decide) rfl (List.mem_of_getElem? (i := 6) rfl) rfl ?_
    refine ww_iload_n (pc := 59) X (j := 3) dX6_startLinked_59 rfl rfl ?_
    refine ww_aald (pc := 60) X dX6_startLinked_60 shzC_87 rfl hF (fun h10 hF => ?_)
    refine ww_iload_n (pc := 61) X (j := 2) dX6_startLinked_61 rfl rfl ?_
    refine ww_iald (pc := 62) X dX6_startLinked_62 (rwzC_87 _ (gb_lt h10)) rfl hF (fun v11 ev11 bv11 hF => ?_)
    refine ww_aload_n (pc := 63) X (j := 0) dX6_startLinked_63 rfl rfl ?_
    refine ww_get (pc := 64) X (ref := "PictureBlock$Starter") (T := TX6) (j := 1) dX6_startLinked_64 inX6_startLinked_RX6 shzC_83 clzC_6 (by decide) rfl (List.mem_of_getElem? (i := 3) rfl) rfl ?_
    refine ww_aload_n (pc := 67) X (j := 0) dX6_startLinked_67 rfl rfl ?_
    refine ww_get (pc := 68) X (ref := "PictureBlock$Starter") (T := TX6) (j := 4) dX6_startLinked_68 inX6_startLinked_RX6 shzC_83 clzC_6 (by decide) rfl (List.mem_of_getElem? (i := 7) rfl) rfl ?_
    refine ww_iload_n (pc := 71) X (j := 2) dX6_startLinked_71 rfl rfl ?_
    refine ww_iald (pc := 72) X dX6_startLinked_72 shzC_86 rfl hF (fun v12 ev12 bv12 hF => ?_)
    refine ww_iload_n (pc := 73) X (j := 3) dX6_startLinked_73 rfl rfl ?_
    obtain ⟨r14, h13, hF⟩ := bd_some hF
    refine ww_callVi (pc := 74) X (As := [.int v12, .int a3]) (rest := [.int v11, .int c40_1, .ref (G.2.1 (50 + a3.toNatClampNeg))]) dX6_startLinked_74 (kX5_turned_47 (mL M) G hZ X.2.2.2.2.2.2.1 X.2.2.2.2.2.2.2.1 σ1 v12 a3 r14 h13) rfl shzC_47 clzC_5 gX6_startLinked_X5_turned hyX5_turned ⟨rfl, rfl⟩ ⟨Nat.le_of_ble_eq_true rfl, Nat.le_of_ble_eq_true rfl⟩ rfl rfl (Nat.le_of_ble_eq_true rfl) ?_
    refine ww_isub (pc := 77) X dX6_startLinked_77 ?_
    refine ww_iast (pc := 78) X dX6_startLinked_78 (rwzC_49 _ (gb_lt h9)) rfl hF (fun σ15 eσ15 bσ15 hF => ?_)
    refine ww_iinc (pc := 79) X (j := 3) (v := 1) (lv' := [(0, .ref (G.2.1 83)), (1, .int c40_1), (2, .int c40_2)]) dX6_startLinked_79 rfl rfl (by decide) rfl hF (fun x16 ex16 hF => ?_)
    refine ww_goto (pc := 82) X (tgt := 40) dX6_startLinked_82 (by decide) ?_
    exact ww_sub [1, 2, 3, 0] rfl (ih40 x16 σ15 hF)
set_option maxRecDepth 100000 in
set_option maxHeartbeats 4000000 in
theorem wX6_startLinked {M : gM} {G : gG} {out : gS} (X : gX M G zC cX6_startLinked RX6 4 wsX6_startLinked rmX6_startLinked none) {ex : gEx} (hZ : ∀ s : State, G.2.2.2 s → kC ex (gA G zC.1) s) (σ : gS) (p1 : Int32) (hF : fX6_startLinked σ p1 = some out) : WW M (gQv M G zC out) G zC 4 σ 0 [(0, .ref (G.2.1 83)), (1, .int p1)] [] := by
  unfold fX6_startLinked at hF
  refine ww_aload_n (pc := 0) X (j := 0) dX6_startLinked_0 rfl rfl ?_
  obtain ⟨r2, h1, hF⟩ := bd_some hF
  refine ww_callVi (pc := 1) X (As := []) (rest := []) dX6_startLinked_1 (kX6_firstLink (mL M) G hZ X.2.2.2.2.2.2.1 X.2.2.2.2.2.2.2.1 σ r2 h1) rfl shzC_83 clzC_6 gX6_startLinked_X6_firstLink hyX6_firstLink ⟨rfl, rfl⟩ ⟨Nat.le_of_ble_eq_true rfl, Nat.le_of_ble_eq_true rfl⟩ rfl rfl (Nat.le_of_ble_eq_true rfl) ?_
  refine ww_istore_n (pc := 4) X (lv' := [(0, .ref (G.2.1 83)), (1, .int p1)]) dX6_startLinked_4 rfl (by decide) rfl hF (fun x3 ex3 hF => ?_)
  refine ww_iload_n (pc := 5) X (j := 0) dX6_startLinked_5 rfl rfl ?_
  refine ww_iconst (pc := 6) X (v := (-1)) dX6_startLinked_6 (by decide) ?_
  refine ww_icmp_ne (pc := 7) (tgt := 11) X dX6_startLinked_7 (by decide) hF (fun h4 hF => ?_) (fun h4 hF => ?_)
  · refine ww_aload_n (pc := 11) X (j := 1) dX6_startLinked_11 rfl rfl ?_
    refine ww_get (pc := 12) X (ref := "PictureBlock$Starter") (T := TX6) (j := 0) dX6_startLinked_12 inX6_startLinked_RX6 shzC_83 clzC_6 (by decide) rfl (List.mem_of_getElem? (i := 1) rfl) rfl ?_
    refine ww_get (pc := 15) X (ref := "PictureBlock$Told") (T := TX8) (j := 3) dX6_startLinked_15 inX6_startLinked_RX8 shzC_2 clzC_8 (by decide) rfl (List.mem_of_getElem? (i := 2) rfl) rfl ?_
    refine ww_iload_n (pc := 18) X (j := 2) dX6_startLinked_18 rfl rfl ?_
    refine ww_iald (pc := 19) X dX6_startLinked_19 shzC_9 rfl hF (fun v5 ev5 bv5 hF => ?_)
    refine ww_iconst (pc := 20) X (v := 4) dX6_startLinked_20 (by decide) ?_
    refine ww_icmp_ne (pc := 21) (tgt := 38) X dX6_startLinked_21 (by decide) hF (fun h6 hF => ?_) (fun h6 hF => ?_)
    · refine ww_iconst (pc := 38) X (v := 0) dX6_startLinked_38 (by decide) ?_
      refine ww_istore_n (pc := 39) X (lv' := [(2, .int x3), (0, .ref (G.2.1 83)), (1, .int p1)]) dX6_startLinked_39 rfl (by decide) rfl hF (fun x7 ex7 hF => ?_)
      exact ww_sub [2, 3, 1, 0] rfl (lpc_ind (P := (fun (s : Int32 × gS) => WW M (gQv M G zC out) G zC 4 s.2 40 [(0, .ref (G.2.1 83)), (1, .int p1), (2, .int x3), (3, .int s.1)] [])) (fun rec s ih hF => wbX6_startLinked_40 X hZ σ p1 x3 (fun a3 σ1 => rec (a3, σ1)) (fun a3 σ1 h => ih (a3, σ1) h) s.1 s.2 hF) K9 (x7, σ) hF)
    · refine ww_aload_n (pc := 24) X (j := 1) dX6_startLinked_24 rfl rfl ?_
      refine ww_get (pc := 25) X (ref := "PictureBlock$Starter") (T := TX6) (j := 1) dX6_startLinked_25 inX6_startLinked_RX6 shzC_83 clzC_6 (by decide) rfl (List.mem_of_getElem? (i := 3) rfl) rfl ?_
      refine ww_get (pc := 28) X (ref := "PictureBlock$Stand") (T := TX5) (j := 2) dX6_startLinked_28 inX6_startLinked_RX5 shzC_47 clzC_5 (by decide) rfl (List.mem_of_getElem? (i := 4) rfl) rfl ?_
      refine ww_iload_n (pc := 31) X (j := 2) dX6_startLinked_31 rfl rfl ?_
      refine ww_aload_n (pc := 32) X (j := 1) dX6_startLinked_32 rfl rfl ?_
      refine ww_iload_n (pc := 33) X (j := 0) dX6_startLinked_33 rfl rfl ?_
      obtain ⟨r18, h17, hF⟩ := bd_some hF
      refine ww_callVi (pc := 34) X (As := [.int x3]) (rest := [.int p1, .ref (G.2.1 48)]) dX6_startLinked_34 (kX6_leastUnlikeTurn (mL M) G hZ X.2.2.2.2.2.2.1 X.2.2.2.2.2.2.2.1 σ x3 r18 h17) rfl shzC_83 clzC_6 gX6_startLinked_X6_leastUnlikeTurn hyX6_leastUnlikeTurn ⟨rfl, rfl⟩ ⟨Nat.le_of_ble_eq_true rfl, Nat.le_of_ble_eq_true rfl⟩ rfl rfl (Nat.le_of_ble_eq_true rfl) ?_
      refine ww_iast (pc := 37) X dX6_startLinked_37 shzC_48 rfl hF (fun σ19 eσ19 bσ19 hF => ?_)
      refine ww_iconst (pc := 38) X (v := 0) dX6_startLinked_38 (by decide) ?_
      refine ww_istore_n (pc := 39) X (lv' := [(2, .int x3), (0, .ref (G.2.1 83)), (1, .int p1)]) dX6_startLinked_39 rfl (by decide) rfl hF (fun x20 ex20 hF => ?_)
      exact ww_sub [2, 3, 1, 0] rfl (lpc_ind (P := (fun (s : Int32 × gS) => WW M (gQv M G zC out) G zC 4 s.2 40 [(0, .ref (G.2.1 83)), (1, .int p1), (2, .int x3), (3, .int s.1)] [])) (fun rec s ih hF => wbX6_startLinked_40 X hZ σ19 p1 x3 (fun a3 σ1 => rec (a3, σ1)) (fun a3 σ1 h => ih (a3, σ1) h) s.1 s.2 hF) K9 (x20, σ19) hF)
  · exact ww_vret (pc := 10) X dX6_startLinked_10 (by cases hF; rfl)
set_option maxRecDepth 100000 in
set_option maxHeartbeats 4000000 in
theorem kX6_startLinked (l : Launch) (G : gG) {ex : gEx} (hZ : ∀ s : State, G.2.2.2 s → kC ex (gA G zC.1) s) (hG : gOK G zC.1) (hT : G.2.2.1.map (fun q => q.2) = zC.2.1) (σ : gS) (p1 : Int32) (out : gS) (hF : fX6_startLinked σ p1 = some out) : gCv l yX6_startLinked wsX6_startLinked rmX6_startLinked G zC [.ref (G.2.1 83), .int p1] σ out :=
  gEnter (by decide) rfl ⟨rfl, rfl⟩ hG hT (Nat.le_of_ble_eq_true rfl) rfl (fun M X hl => wX6_startLinked X hZ σ p1 hF)
noncomputable def bX6_findUnstarted_2 (σ : gS) (rec2 : Int32 → Option (Int32)) (a1 : Int32) : Option (Int32) :=
  gd (gb 1 6) <| nm (σ.1 3 ((1 : Int32).toNatClampNeg)) fun v2 => (if v2 ≤ a1 then some ((-1)) else gd (gb a1 12) <| nm (σ.1 84 a1.toNatClampNeg) fun v4 => (if v4 = 0 then some a1 else nm (a1 + 1 : Int32) fun x6 => rec2 x6))
noncomputable def fX6_findUnstarted (σ : gS) : Option (Int32) :=
  nm (0 : Int32) fun x1 => lpc (S := Int32) K9 (fun rec s => bX6_findUnstarted_2 σ (fun a1 => rec (a1)) s) (x1)
noncomputable abbrev rmX6_findUnstarted : Room := { frames := 0, cells := 0, slots := 0, locals := 0 }
set_option maxRecDepth 100000 in
set_option maxHeartbeats 4000000 in
theorem wbX6_findUnstarted_2 {M : gM} {G : gG} {out : Int32} (X : gX M G zC cX6_findUnstarted RX6 2 wsX6_findUnstarted rmX6_findUnstarted (some .int)) {ex : gEx} (hZ : ∀ s : State, G.2.2.2 s → kC ex (gA G zC.1) s) (σ : gS) (rec2 : Int32 → Option (Int32)) (ih2 : ∀ (a1 : Int32), rec2 a1 = some out → WW M (gQi M G zC out σ) G zC 2 σ 2 [(0, .ref (G.2.1 83)), (1, .int a1)] []) (a1 : Int32) (hF : bX6_findUnstarted_2 σ rec2 a1 = some out) : WW M (gQi M G zC out σ) G zC 2 σ 2 [(0, .ref (G.2.1 83)), (1, .int a1)] [] := by
  unfold bX6_findUnstarted_2 at hF
  refine ww_iload_n (pc := 2) X (j := 1) dX6_findUnstarted_2 rfl rfl ?_
  refine ww_aload_n (pc := 3) X (j := 0) dX6_findUnstarted_3 rfl rfl ?_
  refine ww_get (pc := 4) X (ref := "PictureBlock$Starter") (T := TX6) (j := 0) dX6_findUnstarted_4 inX6_findUnstarted_RX6 shzC_83 clzC_6 (by decide) rfl (List.mem_of_getElem? (i := 1) rfl) rfl ?_
  refine ww_get (pc := 7) X (ref := "PictureBlock$Told") (T := TX8) (j := 0) dX6_findUnstarted_7 inX6_findUnstarted_RX8 shzC_2 clzC_8 (by decide) rfl (List.mem_of_getElem? (i := 2) rfl) rfl ?_
  refine ww_iconst (pc := 10) X (v := 1) dX6_findUnstarted_10 (by decide) ?_
  refine ww_iald (pc := 11) X dX6_findUnstarted_11 shzC_3 rfl hF (fun v2 ev2 bv2 hF => ?_)
  refine ww_icmp_ge (pc := 12) (tgt := 32) X dX6_findUnstarted_12 (by decide) hF (fun h3 hF => ?_) (fun h3 hF => ?_)
  · refine ww_iconst (pc := 32) X (v := (-1)) dX6_findUnstarted_32 (by decide) ?_
    exact ww_iret (pc := 33) X dX6_findUnstarted_33 (Option.some.inj hF) rfl
  · refine ww_aload_n (pc := 15) X (j := 0) dX6_findUnstarted_15 rfl rfl ?_
    refine ww_get (pc := 16) X (ref := "PictureBlock$Starter") (T := TX6) (j := 2) dX6_findUnstarted_16 inX6_findUnstarted_RX6 shzC_83 clzC_6 (by decide) rfl (List.mem_of_getElem? (i := 3) rfl) rfl ?_
    refine ww_iload_n (pc := 19) X (j := 1) dX6_findUnstarted_19 rfl rfl ?_
    refine ww_iald (pc := 20) X dX6_findUnstarted_20 shzC_84 rfl hF (fun v4 ev4 bv4 hF => ?_)
    refine ww_if_ne (pc := 21) (tgt := 26) X dX6_findUnstarted_21 (by decide) hF (fun h5 hF => ?_) (fun h5 hF => ?_)
    · refine ww_iinc (pc := 26) X (j := 1) (v := 1) (lv' := [(0, .ref (G.2.1 83))]) dX6_findUnstarted_26 rfl rfl (by decide) rfl hF (fun x6 ex6 hF => ?_)
      refine ww_goto (pc := 29) X (tgt := 2) dX6_findUnstarted_29 (by decide) ?_
      exact ww_sub [1, 0] rfl (ih2 x6 hF)
    · refine ww_iload_n (pc := 24) X (j := 1) dX6_findUnstarted_24 rfl rfl ?_
      exact ww_iret (pc := 25) X dX6_findUnstarted_25 (Option.some.inj hF) rfl
set_option maxRecDepth 100000 in
set_option maxHeartbeats 4000000 in
theorem wX6_findUnstarted {M : gM} {G : gG} {out : Int32} (X : gX M G zC cX6_findUnstarted RX6 2 wsX6_findUnstarted rmX6_findUnstarted (some .int)) {ex : gEx} (hZ : ∀ s : State, G.2.2.2 s → kC ex (gA G zC.1) s) (σ : gS) (hF : fX6_findUnstarted σ = some out) : WW M (gQi M G zC out σ) G zC 2 σ 0 [(0, .ref (G.2.1 83))] [] := by
  unfold fX6_findUnstarted at hF
  refine ww_iconst (pc := 0) X (v := 0) dX6_findUnstarted_0 (by decide) ?_
  refine ww_istore_n (pc := 1) X (lv' := [(0, .ref (G.2.1 83))]) dX6_findUnstarted_1 rfl (by decide) rfl hF (fun x1 ex1 hF => ?_)
  exact ww_sub [1, 0] rfl (lpc_ind (P := (fun (s : Int32) => WW M (gQi M G zC out σ) G zC 2 σ 2 [(0, .ref (G.2.1 83)), (1, .int s)] [])) (fun rec s ih hF => wbX6_findUnstarted_2 X hZ σ (fun a1 => rec (a1)) (fun a1 h => ih (a1) h) s hF) K9 (x1) hF)
set_option maxRecDepth 100000 in
set_option maxHeartbeats 4000000 in
theorem kX6_findUnstarted (l : Launch) (G : gG) {ex : gEx} (hZ : ∀ s : State, G.2.2.2 s → kC ex (gA G zC.1) s) (hG : gOK G zC.1) (hT : G.2.2.1.map (fun q => q.2) = zC.2.1) (σ : gS) (out : Int32) (hF : fX6_findUnstarted σ = some out) : gCi l yX6_findUnstarted wsX6_findUnstarted rmX6_findUnstarted G zC [.ref (G.2.1 83)] σ out σ :=
  gEnter (by decide) rfl ⟨rfl, rfl⟩ hG hT (Nat.le_of_ble_eq_true rfl) rfl (fun M X hl => wX6_findUnstarted X hZ σ hF)
noncomputable def jX6_begin_47 (σ : gS) (rec8 : Int32 → Int32 → gS → Option (Int32 × gS)) (a1 : Int32) (a2 : Int32) (a3 : Int32) : Option (Int32 × gS) :=
  if a3 = ((-1)) then nm (a2 + 1 : Int32) fun x17 => rec8 a1 x17 σ else gd (gb a3 12) <| nm (gsI σ 84 a3.toNatClampNeg 1) fun σ18 => nm (a2 + 1 : Int32) fun x19 => rec8 a1 x19 σ18
noncomputable def bX6_begin_8 (σ : gS) (rec8 : Int32 → Int32 → gS → Option (Int32 × gS)) (a1 : Int32) (a2 : Int32) (σ1 : gS) : Option (Int32 × gS) :=
  gd (gb 1 6) <| nm (σ1.1 3 ((1 : Int32).toNatClampNeg)) fun v5 => (if v5 ≤ a2 then bd (fX6_putPoints σ1) fun σ8 => some (a1, σ8) else bd2 (fX6_findLinked σ1) fun r10 σ11 => nm (r10 : Int32) fun x12 => (if x12 = ((-1)) then bd (fX6_findUnstarted σ11) fun r21 => nm (r21 : Int32) fun x22 => nm (a1 + 1 : Int32) fun x23 => jX6_begin_47 σ11 rec8 x23 a2 x22 else bd (fX6_startLinked σ11 x12) fun σ15 => jX6_begin_47 σ15 rec8 a1 a2 x12))
noncomputable def fX6_begin (σ : gS) : Option (Int32 × gS) :=
  bd (fX6_reset σ) fun σ2 => nm (0 : Int32) fun x3 => nm (0 : Int32) fun x4 => lpc (S := Int32 × Int32 × gS) K9 (fun rec s => bX6_begin_8 σ2 (fun a1 a2 σ1 => rec (a1, a2, σ1)) s.1 s.2.1 s.2.2) (x3, x4, σ2)
noncomputable abbrev rmX6_begin : Room := { frames := 4, cells := 0, slots := 0, locals := 106 }
set_option maxRecDepth 100000 in
set_option maxHeartbeats 4000000 in
theorem wjX6_begin_47 {M : gM} {G : gG} {out : Int32 × gS} (X : gX M G zC cX6_begin RX6 4 wsX6_begin rmX6_begin (some .int)) {ex : gEx} (hZ : ∀ s : State, G.2.2.2 s → kC ex (gA G zC.1) s) (σ : gS) (rec8 : Int32 → Int32 → gS → Option (Int32 × gS)) (ih8 : ∀ (a1 : Int32) (a2 : Int32) (σ1 : gS), rec8 a1 a2 σ1 = some out → WW M (gQi M G zC out.1 out.2) G zC 4 σ1 8 [(0, .ref (G.2.1 83)), (1, .int a1), (2, .int a2)] []) (a1 : Int32) (a2 : Int32) (a3 : Int32) (hF : jX6_begin_47 σ rec8 a1 a2 a3 = some out) : WW M (gQi M G zC out.1 out.2) G zC 4 σ 47 [(0, .ref (G.2.1 83)), (1, .int a1), (2, .int a2), (3, .int a3)] [] := by
  unfold jX6_begin_47 at hF
  refine ww_iload_n (pc := 47) X (j := 3) dX6_begin_47 rfl rfl ?_
  refine ww_iconst (pc := 48) X (v := (-1)) dX6_begin_48 (by decide) ?_
  refine ww_icmp_eq (pc := 49) (tgt := 59) X dX6_begin_49 (by decide) hF (fun h16 hF => ?_) (fun h16 hF => ?_)
  · refine ww_iinc (pc := 59) X (j := 2) (v := 1) (lv' := [(0, .ref (G.2.1 83)), (1, .int a1), (3, .int a3)]) dX6_begin_59 rfl rfl (by decide) rfl hF (fun x17 ex17 hF => ?_)
    refine ww_goto (pc := 62) X (tgt := 8) dX6_begin_62 (by decide) ?_
    exact ww_sub [1, 2, 0] rfl (ih8 a1 x17 σ hF)
  · refine ww_aload_n (pc := 52) X (j := 0) dX6_begin_52 rfl rfl ?_
    refine ww_get (pc := 53) X (ref := "PictureBlock$Starter") (T := TX6) (j := 2) dX6_begin_53 inX6_begin_RX6 shzC_83 clzC_6 (by decide) rfl (List.mem_of_getElem? (i := 3) rfl) rfl ?_
    refine ww_iload_n (pc := 56) X (j := 3) dX6_begin_56 rfl rfl ?_
    refine ww_iconst (pc := 57) X (v := 1) dX6_begin_57 (by decide) ?_
    refine ww_iast (pc := 58) X dX6_begin_58 shzC_84 rfl hF (fun σ18 eσ18 bσ18 hF => ?_)
    refine ww_iinc (pc := 59) X (j := 2) (v := 1) (lv' := [(0, .ref (G.2.1 83)), (1, .int a1), (3, .int a3)]) dX6_begin_59 rfl rfl (by decide) rfl hF (fun x19 ex19 hF => ?_)
    refine ww_goto (pc := 62) X (tgt := 8) dX6_begin_62 (by decide) ?_
    exact ww_sub [1, 2, 0] rfl (ih8 a1 x19 σ18 hF)
set_option maxRecDepth 100000 in
set_option maxHeartbeats 4000000 in
theorem wbX6_begin_8 {M : gM} {G : gG} {out : Int32 × gS} (X : gX M G zC cX6_begin RX6 4 wsX6_begin rmX6_begin (some .int)) {ex : gEx} (hZ : ∀ s : State, G.2.2.2 s → kC ex (gA G zC.1) s) (σ : gS) (rec8 : Int32 → Int32 → gS → Option (Int32 × gS)) (ih8 : ∀ (a1 : Int32) (a2 : Int32) (σ1 : gS), rec8 a1 a2 σ1 = some out → WW M (gQi M G zC out.1 out.2) G zC 4 σ1 8 [(0, .ref (G.2.1 83)), (1, .int a1), (2, .int a2)] []) (a1 : Int32) (a2 : Int32) (σ1 : gS) (hF : bX6_begin_8 σ rec8 a1 a2 σ1 = some out) : WW M (gQi M G zC out.1 out.2) G zC 4 σ1 8 [(0, .ref (G.2.1 83)), (1, .int a1), (2, .int a2)] [] := by
  unfold bX6_begin_8 at hF
  refine ww_iload_n (pc := 8) X (j := 2) dX6_begin_8 rfl rfl ?_
  refine ww_aload_n (pc := 9) X (j := 0) dX6_begin_9 rfl rfl ?_
  refine ww_get (pc := 10) X (ref := "PictureBlock$Starter") (T := TX6) (j := 0) dX6_begin_10 inX6_begin_RX6 shzC_83 clzC_6 (by decide) rfl (List.mem_of_getElem? (i := 1) rfl) rfl ?_
  refine ww_get (pc := 13) X (ref := "PictureBlock$Told") (T := TX8) (j := 0) dX6_begin_13 inX6_begin_RX8 shzC_2 clzC_8 (by decide) rfl (List.mem_of_getElem? (i := 2) rfl) rfl ?_
  refine ww_iconst (pc := 16) X (v := 1) dX6_begin_16 (by decide) ?_
  refine ww_iald (pc := 17) X dX6_begin_17 shzC_3 rfl hF (fun v5 ev5 bv5 hF => ?_)
  refine ww_icmp_ge (pc := 18) (tgt := 65) X dX6_begin_18 (by decide) hF (fun h6 hF => ?_) (fun h6 hF => ?_)
  · refine ww_aload_n (pc := 65) X (j := 0) dX6_begin_65 rfl rfl ?_
    obtain ⟨σ8, h7, hF⟩ := bd_some hF
    refine ww_callVv (pc := 66) X (As := []) (rest := []) dX6_begin_66 (kX6_putPoints (mL M) G hZ X.2.2.2.2.2.2.1 X.2.2.2.2.2.2.2.1 σ1 σ8 h7) rfl shzC_83 clzC_6 gX6_begin_X6_putPoints hyX6_putPoints ⟨rfl, rfl⟩ ⟨Nat.le_of_ble_eq_true rfl, Nat.le_of_ble_eq_true rfl⟩ rfl rfl (Nat.le_of_ble_eq_true rfl) ?_
    refine ww_iload_n (pc := 69) X (j := 1) dX6_begin_69 rfl rfl ?_
    exact ww_iret (pc := 70) X dX6_begin_70 (fst_of hF) (snd_of hF)
  · refine ww_aload_n (pc := 21) X (j := 0) dX6_begin_21 rfl rfl ?_
    obtain ⟨r10, σ11, h9, hF⟩ := bd2_some hF
    refine ww_callVi (pc := 22) X (As := []) (rest := []) dX6_begin_22 (kX6_findLinked (mL M) G hZ X.2.2.2.2.2.2.1 X.2.2.2.2.2.2.2.1 σ1 (r10, σ11) h9) rfl shzC_83 clzC_6 gX6_begin_X6_findLinked hyX6_findLinked ⟨rfl, rfl⟩ ⟨Nat.le_of_ble_eq_true rfl, Nat.le_of_ble_eq_true rfl⟩ rfl rfl (Nat.le_of_ble_eq_true rfl) ?_
    refine ww_istore_n (pc := 25) X (lv' := [(0, .ref (G.2.1 83)), (1, .int a1), (2, .int a2)]) dX6_begin_25 rfl (by decide) rfl hF (fun x12 ex12 hF => ?_)
    refine ww_iload_n (pc := 26) X (j := 0) dX6_begin_26 rfl rfl ?_
    refine ww_iconst (pc := 27) X (v := (-1)) dX6_begin_27 (by decide) ?_
    refine ww_icmp_ne (pc := 28) (tgt := 42) X dX6_begin_28 (by decide) hF (fun h13 hF => ?_) (fun h13 hF => ?_)
    · refine ww_aload_n (pc := 42) X (j := 1) dX6_begin_42 rfl rfl ?_
      refine ww_iload_n (pc := 43) X (j := 0) dX6_begin_43 rfl rfl ?_
      obtain ⟨σ15, h14, hF⟩ := bd_some hF
      refine ww_callVv (pc := 44) X (As := [.int x12]) (rest := []) dX6_begin_44 (kX6_startLinked (mL M) G hZ X.2.2.2.2.2.2.1 X.2.2.2.2.2.2.2.1 σ11 x12 σ15 h14) rfl shzC_83 clzC_6 gX6_begin_X6_startLinked hyX6_startLinked ⟨rfl, rfl⟩ ⟨Nat.le_of_ble_eq_true rfl, Nat.le_of_ble_eq_true rfl⟩ rfl rfl (Nat.le_of_ble_eq_true rfl) ?_
      exact ww_sub [1, 2, 3, 0] rfl (wjX6_begin_47 X hZ σ15 rec8 ih8 a1 a2 x12 hF)
    · refine ww_aload_n (pc := 31) X (j := 1) dX6_begin_31 rfl rfl ?_
      obtain ⟨r21, h20, hF⟩ := bd_some hF
      refine ww_callVi (pc := 32) X (As := []) (rest := []) dX6_begin_32 (kX6_findUnstarted (mL M) G hZ X.2.2.2.2.2.2.1 X.2.2.2.2.2.2.2.1 σ11 r21 h20) rfl shzC_83 clzC_6 gX6_begin_X6_findUnstarted hyX6_findUnstarted ⟨rfl, rfl⟩ ⟨Nat.le_of_ble_eq_true rfl, Nat.le_of_ble_eq_true rfl⟩ rfl rfl (Nat.le_of_ble_eq_true rfl) ?_
      refine ww_istore_n (pc := 35) X (lv' := [(0, .ref (G.2.1 83)), (1, .int a1), (2, .int a2)]) dX6_begin_35 rfl (by decide) rfl hF (fun x22 ex22 hF => ?_)
      refine ww_iinc (pc := 36) X (j := 2) (v := 1) (lv' := [(3, .int x22), (0, .ref (G.2.1 83)), (2, .int a2)]) dX6_begin_36 rfl rfl (by decide) rfl hF (fun x23 ex23 hF => ?_)
      refine ww_goto (pc := 39) X (tgt := 47) dX6_begin_39 (by decide) ?_
      exact ww_sub [2, 0, 3, 1] rfl (wjX6_begin_47 X hZ σ11 rec8 ih8 x23 a2 x22 hF)
set_option maxRecDepth 100000 in
set_option maxHeartbeats 4000000 in
theorem wX6_begin {M : gM} {G : gG} {out : Int32 × gS} (X : gX M G zC cX6_begin RX6 4 wsX6_begin rmX6_begin (some .int)) {ex : gEx} (hZ : ∀ s : State, G.2.2.2 s → kC ex (gA G zC.1) s) (σ : gS) (hF : fX6_begin σ = some out) : WW M (gQi M G zC out.1 out.2) G zC 4 σ 0 [(0, .ref (G.2.1 83))] [] := by
  unfold fX6_begin at hF
  refine ww_aload_n (pc := 0) X (j := 0) dX6_begin_0 rfl rfl ?_
  obtain ⟨σ2, h1, hF⟩ := bd_some hF
  refine ww_callVv (pc := 1) X (As := []) (rest := []) dX6_begin_1 (kX6_reset (mL M) G hZ X.2.2.2.2.2.2.1 X.2.2.2.2.2.2.2.1 σ σ2 h1) rfl shzC_83 clzC_6 gX6_begin_X6_reset hyX6_reset ⟨rfl, rfl⟩ ⟨Nat.le_of_ble_eq_true rfl, Nat.le_of_ble_eq_true rfl⟩ rfl rfl (Nat.le_of_ble_eq_true rfl) ?_
  refine ww_iconst (pc := 4) X (v := 0) dX6_begin_4 (by decide) ?_
  refine ww_istore_n (pc := 5) X (lv' := [(0, .ref (G.2.1 83))]) dX6_begin_5 rfl (by decide) rfl hF (fun x3 ex3 hF => ?_)
  refine ww_iconst (pc := 6) X (v := 0) dX6_begin_6 (by decide) ?_
  refine ww_istore_n (pc := 7) X (lv' := [(1, .int x3), (0, .ref (G.2.1 83))]) dX6_begin_7 rfl (by decide) rfl hF (fun x4 ex4 hF => ?_)
  exact ww_sub [2, 1, 0] rfl (lpc_ind (P := (fun (s : Int32 × Int32 × gS) => WW M (gQi M G zC out.1 out.2) G zC 4 s.2.2 8 [(0, .ref (G.2.1 83)), (1, .int s.1), (2, .int s.2.1)] [])) (fun rec s ih hF => wbX6_begin_8 X hZ σ2 (fun a1 a2 σ1 => rec (a1, a2, σ1)) (fun a1 a2 σ1 h => ih (a1, a2, σ1) h) s.1 s.2.1 s.2.2 hF) K9 (x3, x4, σ2) hF)
set_option maxRecDepth 100000 in
set_option maxHeartbeats 4000000 in
theorem kX6_begin (l : Launch) (G : gG) {ex : gEx} (hZ : ∀ s : State, G.2.2.2 s → kC ex (gA G zC.1) s) (hG : gOK G zC.1) (hT : G.2.2.1.map (fun q => q.2) = zC.2.1) (σ : gS) (out : Int32 × gS) (hF : fX6_begin σ = some out) : gCi l yX6_begin wsX6_begin rmX6_begin G zC [.ref (G.2.1 83)] σ out.1 out.2 :=
  gEnter (by decide) rfl ⟨rfl, rfl⟩ hG hT (Nat.le_of_ble_eq_true rfl) rfl (fun M X hl => wX6_begin X hZ σ hF)
noncomputable def fX9_block (σ : gS) : Option (Int32 × gS) :=
  bd2 (fX3_read σ (σ.1 0 1)) fun r2 σ3 => nm (r2 : Int32) fun x4 => nm (gsI σ3 0 1 0) fun σ5 => nm (gsI σ5 0 15 (σ5.1 46 2)) fun σ6 => nm (gsI σ6 0 16 (σ6.1 46 3)) fun σ7 => (if x4 = ((-1)) then some ((-1), σ7) else bd (fX8_takeFrom_2_24 σ7) fun σ10 => nm (gsI σ10 47 1 3) fun σ11 => bd (fJ7_fill_53178 σ11 58 0) fun σ13 => bd2 (fX6_begin σ13) fun r15 σ16 => some (x4, σ16))
noncomputable abbrev rmX9_block : Room := { frames := 10, cells := 0, slots := 0, locals := 215 }
set_option maxRecDepth 100000 in
set_option maxHeartbeats 4000000 in
theorem wX9_block {M : gM} {G : gG} {out : Int32 × gS} (X : gX M G zC cX9_block RX9 2 wsX9_block rmX9_block (some .int)) {ex : gEx} (hZ : ∀ s : State, G.2.2.2 s → kC ex (gA G zC.1) s) (σ : gS) (hF : fX9_block σ = some out) : WW M (gQi M G zC out.1 out.2) G zC 2 σ 0 [(0, .ref (G.2.1 0))] [] := by
  unfold fX9_block at hF
  refine ww_aload_n (pc := 0) X (j := 0) dX9_block_0 rfl rfl ?_
  refine ww_get (pc := 1) X (ref := "PictureBlock") (T := TX9) (j := 4) dX9_block_1 inX9_block_RX9 shzC_0 clzC_9 (by decide) rfl (List.mem_of_getElem? (i := 1) rfl) rfl ?_
  refine ww_aload_n (pc := 4) X (j := 0) dX9_block_4 rfl rfl ?_
  refine ww_get (pc := 5) X (ref := "PictureBlock") (T := TX9) (j := 1) dX9_block_5 inX9_block_RX9 shzC_0 clzC_9 (by decide) rfl (List.mem_of_getElem? (i := 2) rfl) rfl ?_
  obtain ⟨r2, σ3, h1, hF⟩ := bd2_some hF
  refine ww_callVi (pc := 8) X (As := [.int (σ.1 0 1)]) (rest := []) dX9_block_8 (kX3_read (mL M) G hZ X.2.2.2.2.2.2.1 X.2.2.2.2.2.2.2.1 σ (σ.1 0 1) (r2, σ3) h1) rfl shzC_46 clzC_3 gX9_block_X3_read hyX3_read ⟨rfl, rfl⟩ ⟨Nat.le_of_ble_eq_true rfl, Nat.le_of_ble_eq_true rfl⟩ rfl rfl (Nat.le_of_ble_eq_true rfl) ?_
  refine ww_istore_n (pc := 11) X (lv' := [(0, .ref (G.2.1 0))]) dX9_block_11 rfl (by decide) rfl hF (fun x4 ex4 hF => ?_)
  refine ww_aload_n (pc := 12) X (j := 1) dX9_block_12 rfl rfl ?_
  refine ww_iconst (pc := 13) X (v := 0) dX9_block_13 (by decide) ?_
  refine ww_putI (pc := 14) X (ref := "PictureBlock") (T := TX9) (j := 1) dX9_block_14 inX9_block_RX9 tyX9 tyX9_ok nmX9 shzC_0 clzC_9 (by decide) rfl (List.mem_of_getElem? (i := 2) rfl) rfl rfl (by decide +kernel) hF (fun σ5 eσ5 hF => ?_)
  refine ww_aload_n (pc := 17) X (j := 1) dX9_block_17 rfl rfl ?_
  refine ww_aload_n (pc := 18) X (j := 1) dX9_block_18 rfl rfl ?_
  refine ww_get (pc := 19) X (ref := "PictureBlock") (T := TX9) (j := 4) dX9_block_19 inX9_block_RX9 shzC_0 clzC_9 (by decide) rfl (List.mem_of_getElem? (i := 1) rfl) rfl ?_
  refine ww_get (pc := 22) X (ref := "PictureBlock$Reader") (T := TX3) (j := 2) dX9_block_22 inX9_block_RX3 shzC_46 clzC_3 (by decide) rfl (List.mem_of_getElem? (i := 3) rfl) rfl ?_
  refine ww_putI (pc := 25) X (ref := "PictureBlock") (T := TX9) (j := 15) dX9_block_25 inX9_block_RX9 tyX9 tyX9_ok nmX9 shzC_0 clzC_9 (by decide) rfl (List.mem_of_getElem? (i := 4) rfl) rfl rfl (by decide +kernel) hF (fun σ6 eσ6 hF => ?_)
  refine ww_aload_n (pc := 28) X (j := 1) dX9_block_28 rfl rfl ?_
  refine ww_aload_n (pc := 29) X (j := 1) dX9_block_29 rfl rfl ?_
  refine ww_get (pc := 30) X (ref := "PictureBlock") (T := TX9) (j := 4) dX9_block_30 inX9_block_RX9 shzC_0 clzC_9 (by decide) rfl (List.mem_of_getElem? (i := 1) rfl) rfl ?_
  refine ww_get (pc := 33) X (ref := "PictureBlock$Reader") (T := TX3) (j := 3) dX9_block_33 inX9_block_RX3 shzC_46 clzC_3 (by decide) rfl (List.mem_of_getElem? (i := 5) rfl) rfl ?_
  refine ww_putI (pc := 36) X (ref := "PictureBlock") (T := TX9) (j := 16) dX9_block_36 inX9_block_RX9 tyX9 tyX9_ok nmX9 shzC_0 clzC_9 (by decide) rfl (List.mem_of_getElem? (i := 6) rfl) rfl rfl (by decide +kernel) hF (fun σ7 eσ7 hF => ?_)
  refine ww_iload_n (pc := 39) X (j := 0) dX9_block_39 rfl rfl ?_
  refine ww_iconst (pc := 40) X (v := (-1)) dX9_block_40 (by decide) ?_
  refine ww_icmp_ne (pc := 41) (tgt := 46) X dX9_block_41 (by decide) hF (fun h8 hF => ?_) (fun h8 hF => ?_)
  · refine ww_aload_n (pc := 46) X (j := 1) dX9_block_46 rfl rfl ?_
    refine ww_get (pc := 47) X (ref := "PictureBlock") (T := TX9) (j := 2) dX9_block_47 inX9_block_RX9 shzC_0 clzC_9 (by decide) rfl (List.mem_of_getElem? (i := 7) rfl) rfl ?_
    refine ww_aload_n (pc := 50) X (j := 1) dX9_block_50 rfl rfl ?_
    refine ww_get (pc := 51) X (ref := "PictureBlock") (T := TX9) (j := 3) dX9_block_51 inX9_block_RX9 shzC_0 clzC_9 (by decide) rfl (List.mem_of_getElem? (i := 8) rfl) rfl ?_
    obtain ⟨σ10, h9, hF⟩ := bd_some hF
    refine ww_callVv (pc := 54) X (As := [.ref (G.2.1 24)]) (rest := []) dX9_block_54 (kX8_takeFrom_2_24 (mL M) G hZ X.2.2.2.2.2.2.1 X.2.2.2.2.2.2.2.1 σ7 σ10 h9) rfl shzC_2 clzC_8 gX9_block_X8_takeFrom hyX8_takeFrom ⟨rfl, rfl⟩ ⟨Nat.le_of_ble_eq_true rfl, Nat.le_of_ble_eq_true rfl⟩ rfl rfl (Nat.le_of_ble_eq_true rfl) ?_
    refine ww_aload_n (pc := 57) X (j := 1) dX9_block_57 rfl rfl ?_
    refine ww_get (pc := 58) X (ref := "PictureBlock") (T := TX9) (j := 5) dX9_block_58 inX9_block_RX9 shzC_0 clzC_9 (by decide) rfl (List.mem_of_getElem? (i := 9) rfl) rfl ?_
    refine ww_iconst (pc := 61) X (v := 3) dX9_block_61 (by decide) ?_
    refine ww_putI (pc := 62) X (ref := "PictureBlock$Stand") (T := TX5) (j := 1) dX9_block_62 inX9_block_RX5 tyX5 tyX5_ok nmX5 shzC_47 clzC_5 (by decide) rfl (List.mem_of_getElem? (i := 10) rfl) rfl rfl (by decide +kernel) hF (fun σ11 eσ11 hF => ?_)
    refine ww_aload_n (pc := 65) X (j := 1) dX9_block_65 rfl rfl ?_
    refine ww_get (pc := 66) X (ref := "PictureBlock") (T := TX9) (j := 5) dX9_block_66 inX9_block_RX9 shzC_0 clzC_9 (by decide) rfl (List.mem_of_getElem? (i := 9) rfl) rfl ?_
    refine ww_get (pc := 69) X (ref := "PictureBlock$Stand") (T := TX5) (j := 6) dX9_block_69 inX9_block_RX5 shzC_47 clzC_5 (by decide) rfl (List.mem_of_getElem? (i := 11) rfl) rfl ?_
    refine ww_iconst (pc := 72) X (v := 0) dX9_block_72 (by decide) ?_
    obtain ⟨σ13, h12, hF⟩ := bd_some hF
    refine ww_callSv (pc := 73) X (As := [.ref (G.2.1 58), .int 0]) (rest := []) dX9_block_73 (kJ7_fill_53178 (mL M) G hZ X.2.2.2.2.2.2.1 X.2.2.2.2.2.2.2.1 σ11 58 0 σ13 h12) rfl gX9_block_J7_fill_53178 hyJ7_fill_53178 ⟨rfl, rfl⟩ ⟨Nat.le_of_ble_eq_true rfl, Nat.le_of_ble_eq_true rfl⟩ rfl rfl (Nat.le_of_ble_eq_true rfl) ?_
    refine ww_aload_n (pc := 76) X (j := 1) dX9_block_76 rfl rfl ?_
    refine ww_get (pc := 77) X (ref := "PictureBlock") (T := TX9) (j := 8) dX9_block_77 inX9_block_RX9 shzC_0 clzC_9 (by decide) rfl (List.mem_of_getElem? (i := 12) rfl) rfl ?_
    obtain ⟨r15, σ16, h14, hF⟩ := bd2_some hF
    refine ww_callVi (pc := 80) X (As := []) (rest := []) dX9_block_80 (kX6_begin (mL M) G hZ X.2.2.2.2.2.2.1 X.2.2.2.2.2.2.2.1 σ13 (r15, σ16) h14) rfl shzC_83 clzC_6 gX9_block_X6_begin hyX6_begin ⟨rfl, rfl⟩ ⟨Nat.le_of_ble_eq_true rfl, Nat.le_of_ble_eq_true rfl⟩ rfl rfl (Nat.le_of_ble_eq_true rfl) ?_
    refine ww_pop (pc := 83) X dX9_block_83 rfl ?_
    refine ww_iload_n (pc := 84) X (j := 0) dX9_block_84 rfl rfl ?_
    exact ww_iret (pc := 85) X dX9_block_85 (fst_of hF) (snd_of hF)
  · refine ww_iconst (pc := 44) X (v := (-1)) dX9_block_44 (by decide) ?_
    exact ww_iret (pc := 45) X dX9_block_45 (fst_of hF) (snd_of hF)
set_option maxRecDepth 100000 in
set_option maxHeartbeats 4000000 in
theorem kX9_block (l : Launch) (G : gG) {ex : gEx} (hZ : ∀ s : State, G.2.2.2 s → kC ex (gA G zC.1) s) (hG : gOK G zC.1) (hT : G.2.2.1.map (fun q => q.2) = zC.2.1) (σ : gS) (out : Int32 × gS) (hF : fX9_block σ = some out) : gCi l yX9_block wsX9_block rmX9_block G zC [.ref (G.2.1 0)] σ out.1 out.2 :=
  gEnter (by decide) rfl ⟨rfl, rfl⟩ hG hT (Nat.le_of_ble_eq_true rfl) rfl (fun M X hl => wX9_block X hZ σ hF)
noncomputable def fX9_fault (σ : gS) (p1 : Int32) : Option (Int32) :=
  if p1 = 0 then some (σ.1 0 15) else if p1 = 1 then some (σ.1 0 16) else some ((-1))
noncomputable abbrev rmX9_fault : Room := { frames := 0, cells := 0, slots := 0, locals := 0 }
set_option maxRecDepth 100000 in
set_option maxHeartbeats 4000000 in
theorem wX9_fault {M : gM} {G : gG} {out : Int32} (X : gX M G zC cX9_fault RX9 2 wsX9_fault rmX9_fault (some .int)) {ex : gEx} (hZ : ∀ s : State, G.2.2.2 s → kC ex (gA G zC.1) s) (σ : gS) (p1 : Int32) (hF : fX9_fault σ p1 = some out) : WW M (gQi M G zC out σ) G zC 2 σ 0 [(0, .ref (G.2.1 0)), (1, .int p1)] [] := by
  unfold fX9_fault at hF
  refine ww_iload_n (pc := 0) X (j := 1) dX9_fault_0 rfl rfl ?_
  refine ww_if_ne (pc := 1) (tgt := 9) X dX9_fault_1 (by decide) hF (fun h1 hF => ?_) (fun h1 hF => ?_)
  · refine ww_iload_n (pc := 9) X (j := 1) dX9_fault_9 rfl rfl ?_
    refine ww_iconst (pc := 10) X (v := 1) dX9_fault_10 (by decide) ?_
    refine ww_icmp_ne (pc := 11) (tgt := 19) X dX9_fault_11 (by decide) hF (fun h2 hF => ?_) (fun h2 hF => ?_)
    · refine ww_iconst (pc := 19) X (v := (-1)) dX9_fault_19 (by decide) ?_
      exact ww_iret (pc := 20) X dX9_fault_20 (Option.some.inj hF) rfl
    · refine ww_aload_n (pc := 14) X (j := 0) dX9_fault_14 rfl rfl ?_
      refine ww_get (pc := 15) X (ref := "PictureBlock") (T := TX9) (j := 16) dX9_fault_15 inX9_fault_RX9 shzC_0 clzC_9 (by decide) rfl (List.mem_of_getElem? (i := 2) rfl) rfl ?_
      exact ww_iret (pc := 18) X dX9_fault_18 (Option.some.inj hF) rfl
  · refine ww_aload_n (pc := 4) X (j := 0) dX9_fault_4 rfl rfl ?_
    refine ww_get (pc := 5) X (ref := "PictureBlock") (T := TX9) (j := 15) dX9_fault_5 inX9_fault_RX9 shzC_0 clzC_9 (by decide) rfl (List.mem_of_getElem? (i := 1) rfl) rfl ?_
    exact ww_iret (pc := 8) X dX9_fault_8 (Option.some.inj hF) rfl
set_option maxRecDepth 100000 in
set_option maxHeartbeats 4000000 in
theorem kX9_fault (l : Launch) (G : gG) {ex : gEx} (hZ : ∀ s : State, G.2.2.2 s → kC ex (gA G zC.1) s) (hG : gOK G zC.1) (hT : G.2.2.1.map (fun q => q.2) = zC.2.1) (σ : gS) (p1 : Int32) (out : Int32) (hF : fX9_fault σ p1 = some out) : gCi l yX9_fault wsX9_fault rmX9_fault G zC [.ref (G.2.1 0), .int p1] σ out σ :=
  gEnter (by decide) rfl ⟨rfl, rfl⟩ hG hT (Nat.le_of_ble_eq_true rfl) rfl (fun M X hl => wX9_fault X hZ σ p1 hF)
noncomputable def bX5_countFixed_47_4 (σ : gS) (rec4 : Int32 → Int32 → Option (Int32)) (a1 : Int32) (a2 : Int32) : Option (Int32) :=
  gd (gb 2 6) <| nm (σ.1 3 ((2 : Int32).toNatClampNeg)) fun v3 => (if v3 ≤ a2 then some a1 else bd (fX5_isFixed_47 σ a2) fun r6 => (if r6 = 0 then nm (a2 + 1 : Int32) fun x8 => rec4 a1 x8 else nm (a1 + 1 : Int32) fun x9 => nm (a2 + 1 : Int32) fun x10 => rec4 x9 x10))
noncomputable def fX5_countFixed_47 (σ : gS) : Option (Int32) :=
  nm (0 : Int32) fun x1 => nm (0 : Int32) fun x2 => lpc (S := Int32 × Int32) K9 (fun rec s => bX5_countFixed_47_4 σ (fun a1 a2 => rec (a1, a2)) s.1 s.2) (x1, x2)
noncomputable abbrev rmX5_countFixed : Room := { frames := 1, cells := 0, slots := 0, locals := 21 }
set_option maxRecDepth 100000 in
set_option maxHeartbeats 4000000 in
theorem wbX5_countFixed_47_4 {M : gM} {G : gG} {out : Int32} (X : gX M G zC cX5_countFixed RX5 3 wsX5_countFixed rmX5_countFixed (some .int)) {ex : gEx} (hZ : ∀ s : State, G.2.2.2 s → kC ex (gA G zC.1) s) (σ : gS) (rec4 : Int32 → Int32 → Option (Int32)) (ih4 : ∀ (a1 : Int32) (a2 : Int32), rec4 a1 a2 = some out → WW M (gQi M G zC out σ) G zC 3 σ 4 [(0, .ref (G.2.1 47)), (1, .int a1), (2, .int a2)] []) (a1 : Int32) (a2 : Int32) (hF : bX5_countFixed_47_4 σ rec4 a1 a2 = some out) : WW M (gQi M G zC out σ) G zC 3 σ 4 [(0, .ref (G.2.1 47)), (1, .int a1), (2, .int a2)] [] := by
  unfold bX5_countFixed_47_4 at hF
  refine ww_iload_n (pc := 4) X (j := 2) dX5_countFixed_4 rfl rfl ?_
  refine ww_aload_n (pc := 5) X (j := 0) dX5_countFixed_5 rfl rfl ?_
  refine ww_get (pc := 6) X (ref := "PictureBlock$Stand") (T := TX5) (j := 0) dX5_countFixed_6 inX5_countFixed_RX5 shzC_47 clzC_5 (by decide) rfl (List.mem_of_getElem? (i := 1) rfl) rfl ?_
  refine ww_get (pc := 9) X (ref := "PictureBlock$Told") (T := TX8) (j := 0) dX5_countFixed_9 inX5_countFixed_RX8 shzC_2 clzC_8 (by decide) rfl (List.mem_of_getElem? (i := 2) rfl) rfl ?_
  refine ww_iconst (pc := 12) X (v := 2) dX5_countFixed_12 (by decide) ?_
  refine ww_iald (pc := 13) X dX5_countFixed_13 shzC_3 rfl hF (fun v3 ev3 bv3 hF => ?_)
  refine ww_icmp_ge (pc := 14) (tgt := 34) X dX5_countFixed_14 (by decide) hF (fun h4 hF => ?_) (fun h4 hF => ?_)
  · refine ww_iload_n (pc := 34) X (j := 1) dX5_countFixed_34 rfl rfl ?_
    exact ww_iret (pc := 35) X dX5_countFixed_35 (Option.some.inj hF) rfl
  · refine ww_aload_n (pc := 17) X (j := 0) dX5_countFixed_17 rfl rfl ?_
    refine ww_iload_n (pc := 18) X (j := 2) dX5_countFixed_18 rfl rfl ?_
    obtain ⟨r6, h5, hF⟩ := bd_some hF
    refine ww_callVi (pc := 19) X (As := [.int a2]) (rest := []) dX5_countFixed_19 (kX5_isFixed_47 (mL M) G hZ X.2.2.2.2.2.2.1 X.2.2.2.2.2.2.2.1 σ a2 r6 h5) rfl shzC_47 clzC_5 gX5_countFixed_X5_isFixed hyX5_isFixed ⟨rfl, rfl⟩ ⟨Nat.le_of_ble_eq_true rfl, Nat.le_of_ble_eq_true rfl⟩ rfl rfl (Nat.le_of_ble_eq_true rfl) ?_
    refine ww_if_eq (pc := 22) (tgt := 28) X dX5_countFixed_22 (by decide) hF (fun h7 hF => ?_) (fun h7 hF => ?_)
    · refine ww_iinc (pc := 28) X (j := 2) (v := 1) (lv' := [(0, .ref (G.2.1 47)), (1, .int a1)]) dX5_countFixed_28 rfl rfl (by decide) rfl hF (fun x8 ex8 hF => ?_)
      refine ww_goto (pc := 31) X (tgt := 4) dX5_countFixed_31 (by decide) ?_
      exact ww_sub [1, 2, 0] rfl (ih4 a1 x8 hF)
    · refine ww_iinc (pc := 25) X (j := 1) (v := 1) (lv' := [(0, .ref (G.2.1 47)), (2, .int a2)]) dX5_countFixed_25 rfl rfl (by decide) rfl hF (fun x9 ex9 hF => ?_)
      refine ww_iinc (pc := 28) X (j := 2) (v := 1) (lv' := [(1, .int x9), (0, .ref (G.2.1 47))]) dX5_countFixed_28 rfl rfl (by decide) rfl hF (fun x10 ex10 hF => ?_)
      refine ww_goto (pc := 31) X (tgt := 4) dX5_countFixed_31 (by decide) ?_
      exact ww_sub [2, 1, 0] rfl (ih4 x9 x10 hF)
set_option maxRecDepth 100000 in
set_option maxHeartbeats 4000000 in
theorem wX5_countFixed_47 {M : gM} {G : gG} {out : Int32} (X : gX M G zC cX5_countFixed RX5 3 wsX5_countFixed rmX5_countFixed (some .int)) {ex : gEx} (hZ : ∀ s : State, G.2.2.2 s → kC ex (gA G zC.1) s) (σ : gS) (hF : fX5_countFixed_47 σ = some out) : WW M (gQi M G zC out σ) G zC 3 σ 0 [(0, .ref (G.2.1 47))] [] := by
  unfold fX5_countFixed_47 at hF
  refine ww_iconst (pc := 0) X (v := 0) dX5_countFixed_0 (by decide) ?_
  refine ww_istore_n (pc := 1) X (lv' := [(0, .ref (G.2.1 47))]) dX5_countFixed_1 rfl (by decide) rfl hF (fun x1 ex1 hF => ?_)
  refine ww_iconst (pc := 2) X (v := 0) dX5_countFixed_2 (by decide) ?_
  refine ww_istore_n (pc := 3) X (lv' := [(1, .int x1), (0, .ref (G.2.1 47))]) dX5_countFixed_3 rfl (by decide) rfl hF (fun x2 ex2 hF => ?_)
  exact ww_sub [2, 1, 0] rfl (lpc_ind (P := (fun (s : Int32 × Int32) => WW M (gQi M G zC out σ) G zC 3 σ 4 [(0, .ref (G.2.1 47)), (1, .int s.1), (2, .int s.2)] [])) (fun rec s ih hF => wbX5_countFixed_47_4 X hZ σ (fun a1 a2 => rec (a1, a2)) (fun a1 a2 h => ih (a1, a2) h) s.1 s.2 hF) K9 (x1, x2) hF)
set_option maxRecDepth 100000 in
set_option maxHeartbeats 4000000 in
theorem kX5_countFixed_47 (l : Launch) (G : gG) {ex : gEx} (hZ : ∀ s : State, G.2.2.2 s → kC ex (gA G zC.1) s) (hG : gOK G zC.1) (hT : G.2.2.1.map (fun q => q.2) = zC.2.1) (σ : gS) (out : Int32) (hF : fX5_countFixed_47 σ = some out) : gCi l yX5_countFixed wsX5_countFixed rmX5_countFixed G zC [.ref (G.2.1 47)] σ out σ :=
  gEnter (by decide) rfl ⟨rfl, rfl⟩ hG hT (Nat.le_of_ble_eq_true rfl) rfl (fun M X hl => wX5_countFixed_47 X hZ σ hF)
noncomputable def bX9_countDropped_4 (σ : gS) (rec4 : Int32 → Int32 → Option (Int32)) (a1 : Int32) (a2 : Int32) : Option (Int32) :=
  gd (gb 3 6) <| nm (σ.1 3 ((3 : Int32).toNatClampNeg)) fun v3 => (if v3 ≤ a2 then some a1 else bd (fX5_uses_47 σ a2) fun r6 => (if r6 = 0 then nm (a1 + 1 : Int32) fun x9 => nm (a2 + 1 : Int32) fun x10 => rec4 x9 x10 else nm (a2 + 1 : Int32) fun x8 => rec4 a1 x8))
noncomputable def fX9_countDropped (σ : gS) : Option (Int32) :=
  nm (0 : Int32) fun x1 => nm (0 : Int32) fun x2 => lpc (S := Int32 × Int32) K9 (fun rec s => bX9_countDropped_4 σ (fun a1 a2 => rec (a1, a2)) s.1 s.2) (x1, x2)
noncomputable abbrev rmX9_countDropped : Room := { frames := 1, cells := 0, slots := 0, locals := 21 }
set_option maxRecDepth 100000 in
set_option maxHeartbeats 4000000 in
theorem wbX9_countDropped_4 {M : gM} {G : gG} {out : Int32} (X : gX M G zC cX9_countDropped RX9 3 wsX9_countDropped rmX9_countDropped (some .int)) {ex : gEx} (hZ : ∀ s : State, G.2.2.2 s → kC ex (gA G zC.1) s) (σ : gS) (rec4 : Int32 → Int32 → Option (Int32)) (ih4 : ∀ (a1 : Int32) (a2 : Int32), rec4 a1 a2 = some out → WW M (gQi M G zC out σ) G zC 3 σ 4 [(0, .ref (G.2.1 0)), (1, .int a1), (2, .int a2)] []) (a1 : Int32) (a2 : Int32) (hF : bX9_countDropped_4 σ rec4 a1 a2 = some out) : WW M (gQi M G zC out σ) G zC 3 σ 4 [(0, .ref (G.2.1 0)), (1, .int a1), (2, .int a2)] [] := by
  unfold bX9_countDropped_4 at hF
  refine ww_iload_n (pc := 4) X (j := 2) dX9_countDropped_4 rfl rfl ?_
  refine ww_aload_n (pc := 5) X (j := 0) dX9_countDropped_5 rfl rfl ?_
  refine ww_get (pc := 6) X (ref := "PictureBlock") (T := TX9) (j := 2) dX9_countDropped_6 inX9_countDropped_RX9 shzC_0 clzC_9 (by decide) rfl (List.mem_of_getElem? (i := 1) rfl) rfl ?_
  refine ww_get (pc := 9) X (ref := "PictureBlock$Told") (T := TX8) (j := 0) dX9_countDropped_9 inX9_countDropped_RX8 shzC_2 clzC_8 (by decide) rfl (List.mem_of_getElem? (i := 2) rfl) rfl ?_
  refine ww_iconst (pc := 12) X (v := 3) dX9_countDropped_12 (by decide) ?_
  refine ww_iald (pc := 13) X dX9_countDropped_13 shzC_3 rfl hF (fun v3 ev3 bv3 hF => ?_)
  refine ww_icmp_ge (pc := 14) (tgt := 37) X dX9_countDropped_14 (by decide) hF (fun h4 hF => ?_) (fun h4 hF => ?_)
  · refine ww_iload_n (pc := 37) X (j := 1) dX9_countDropped_37 rfl rfl ?_
    exact ww_iret (pc := 38) X dX9_countDropped_38 (Option.some.inj hF) rfl
  · refine ww_aload_n (pc := 17) X (j := 0) dX9_countDropped_17 rfl rfl ?_
    refine ww_get (pc := 18) X (ref := "PictureBlock") (T := TX9) (j := 5) dX9_countDropped_18 inX9_countDropped_RX9 shzC_0 clzC_9 (by decide) rfl (List.mem_of_getElem? (i := 3) rfl) rfl ?_
    refine ww_iload_n (pc := 21) X (j := 2) dX9_countDropped_21 rfl rfl ?_
    obtain ⟨r6, h5, hF⟩ := bd_some hF
    refine ww_callVi (pc := 22) X (As := [.int a2]) (rest := []) dX9_countDropped_22 (kX5_uses_47 (mL M) G hZ X.2.2.2.2.2.2.1 X.2.2.2.2.2.2.2.1 σ a2 r6 h5) rfl shzC_47 clzC_5 gX9_countDropped_X5_uses hyX5_uses ⟨rfl, rfl⟩ ⟨Nat.le_of_ble_eq_true rfl, Nat.le_of_ble_eq_true rfl⟩ rfl rfl (Nat.le_of_ble_eq_true rfl) ?_
    refine ww_if_ne (pc := 25) (tgt := 31) X dX9_countDropped_25 (by decide) hF (fun h7 hF => ?_) (fun h7 hF => ?_)
    · refine ww_iinc (pc := 31) X (j := 2) (v := 1) (lv' := [(0, .ref (G.2.1 0)), (1, .int a1)]) dX9_countDropped_31 rfl rfl (by decide) rfl hF (fun x8 ex8 hF => ?_)
      refine ww_goto (pc := 34) X (tgt := 4) dX9_countDropped_34 (by decide) ?_
      exact ww_sub [1, 2, 0] rfl (ih4 a1 x8 hF)
    · refine ww_iinc (pc := 28) X (j := 1) (v := 1) (lv' := [(0, .ref (G.2.1 0)), (2, .int a2)]) dX9_countDropped_28 rfl rfl (by decide) rfl hF (fun x9 ex9 hF => ?_)
      refine ww_iinc (pc := 31) X (j := 2) (v := 1) (lv' := [(1, .int x9), (0, .ref (G.2.1 0))]) dX9_countDropped_31 rfl rfl (by decide) rfl hF (fun x10 ex10 hF => ?_)
      refine ww_goto (pc := 34) X (tgt := 4) dX9_countDropped_34 (by decide) ?_
      exact ww_sub [2, 1, 0] rfl (ih4 x9 x10 hF)
set_option maxRecDepth 100000 in
set_option maxHeartbeats 4000000 in
theorem wX9_countDropped {M : gM} {G : gG} {out : Int32} (X : gX M G zC cX9_countDropped RX9 3 wsX9_countDropped rmX9_countDropped (some .int)) {ex : gEx} (hZ : ∀ s : State, G.2.2.2 s → kC ex (gA G zC.1) s) (σ : gS) (hF : fX9_countDropped σ = some out) : WW M (gQi M G zC out σ) G zC 3 σ 0 [(0, .ref (G.2.1 0))] [] := by
  unfold fX9_countDropped at hF
  refine ww_iconst (pc := 0) X (v := 0) dX9_countDropped_0 (by decide) ?_
  refine ww_istore_n (pc := 1) X (lv' := [(0, .ref (G.2.1 0))]) dX9_countDropped_1 rfl (by decide) rfl hF (fun x1 ex1 hF => ?_)
  refine ww_iconst (pc := 2) X (v := 0) dX9_countDropped_2 (by decide) ?_
  refine ww_istore_n (pc := 3) X (lv' := [(1, .int x1), (0, .ref (G.2.1 0))]) dX9_countDropped_3 rfl (by decide) rfl hF (fun x2 ex2 hF => ?_)
  exact ww_sub [2, 1, 0] rfl (lpc_ind (P := (fun (s : Int32 × Int32) => WW M (gQi M G zC out σ) G zC 3 σ 4 [(0, .ref (G.2.1 0)), (1, .int s.1), (2, .int s.2)] [])) (fun rec s ih hF => wbX9_countDropped_4 X hZ σ (fun a1 a2 => rec (a1, a2)) (fun a1 a2 h => ih (a1, a2) h) s.1 s.2 hF) K9 (x1, x2) hF)
set_option maxRecDepth 100000 in
set_option maxHeartbeats 4000000 in
theorem kX9_countDropped (l : Launch) (G : gG) {ex : gEx} (hZ : ∀ s : State, G.2.2.2 s → kC ex (gA G zC.1) s) (hG : gOK G zC.1) (hT : G.2.2.1.map (fun q => q.2) = zC.2.1) (σ : gS) (out : Int32) (hF : fX9_countDropped σ = some out) : gCi l yX9_countDropped wsX9_countDropped rmX9_countDropped G zC [.ref (G.2.1 0)] σ out σ :=
  gEnter (by decide) rfl ⟨rfl, rfl⟩ hG hT (Nat.le_of_ble_eq_true rfl) rfl (fun M X hl => wX9_countDropped X hZ σ hF)
noncomputable def jX9_has_19 (σ : gS) (a1 : Int32) : Option (Int32) :=
  if a1 = 6 then bd (fX9_countDropped σ) fun r8 => some r8 else if a1 = 7 then some (σ.1 47 1) else if a1 = 8 then bd (fX5_countFixed_47 σ) fun r6 => some r6 else some ((-1))
noncomputable def fX9_has (σ : gS) (p1 : Int32) : Option (Int32) :=
  if p1 < 0 then jX9_has_19 σ p1 else if 5 < p1 then jX9_has_19 σ p1 else gd (gb p1 6) <| nm (σ.1 3 p1.toNatClampNeg) fun v10 => some v10
noncomputable abbrev rmX9_has : Room := { frames := 2, cells := 0, slots := 0, locals := 43 }
set_option maxRecDepth 100000 in
set_option maxHeartbeats 4000000 in
theorem wjX9_has_19 {M : gM} {G : gG} {out : Int32} (X : gX M G zC cX9_has RX9 2 wsX9_has rmX9_has (some .int)) {ex : gEx} (hZ : ∀ s : State, G.2.2.2 s → kC ex (gA G zC.1) s) (σ : gS) (a1 : Int32) (hF : jX9_has_19 σ a1 = some out) : WW M (gQi M G zC out σ) G zC 2 σ 19 [(0, .ref (G.2.1 0)), (1, .int a1)] [] := by
  unfold jX9_has_19 at hF
  refine ww_iload_n (pc := 19) X (j := 1) dX9_has_19 rfl rfl ?_
  refine ww_bipush (pc := 20) X (v := 6) dX9_has_20 (by decide) ?_
  refine ww_icmp_ne (pc := 22) (tgt := 30) X dX9_has_22 (by decide) hF (fun h2 hF => ?_) (fun h2 hF => ?_)
  · refine ww_iload_n (pc := 30) X (j := 1) dX9_has_30 rfl rfl ?_
    refine ww_bipush (pc := 31) X (v := 7) dX9_has_31 (by decide) ?_
    refine ww_icmp_ne (pc := 33) (tgt := 44) X dX9_has_33 (by decide) hF (fun h3 hF => ?_) (fun h3 hF => ?_)
    · refine ww_iload_n (pc := 44) X (j := 1) dX9_has_44 rfl rfl ?_
      refine ww_bipush (pc := 45) X (v := 8) dX9_has_45 (by decide) ?_
      refine ww_icmp_ne (pc := 47) (tgt := 58) X dX9_has_47 (by decide) hF (fun h4 hF => ?_) (fun h4 hF => ?_)
      · refine ww_iconst (pc := 58) X (v := (-1)) dX9_has_58 (by decide) ?_
        exact ww_iret (pc := 59) X dX9_has_59 (Option.some.inj hF) rfl
      · refine ww_aload_n (pc := 50) X (j := 0) dX9_has_50 rfl rfl ?_
        refine ww_get (pc := 51) X (ref := "PictureBlock") (T := TX9) (j := 5) dX9_has_51 inX9_has_RX9 shzC_0 clzC_9 (by decide) rfl (List.mem_of_getElem? (i := 3) rfl) rfl ?_
        obtain ⟨r6, h5, hF⟩ := bd_some hF
        refine ww_callVi (pc := 54) X (As := []) (rest := []) dX9_has_54 (kX5_countFixed_47 (mL M) G hZ X.2.2.2.2.2.2.1 X.2.2.2.2.2.2.2.1 σ r6 h5) rfl shzC_47 clzC_5 gX9_has_X5_countFixed hyX5_countFixed ⟨rfl, rfl⟩ ⟨Nat.le_of_ble_eq_true rfl, Nat.le_of_ble_eq_true rfl⟩ rfl rfl (Nat.le_of_ble_eq_true rfl) ?_
        exact ww_iret (pc := 57) X dX9_has_57 (Option.some.inj hF) rfl
    · refine ww_aload_n (pc := 36) X (j := 0) dX9_has_36 rfl rfl ?_
      refine ww_get (pc := 37) X (ref := "PictureBlock") (T := TX9) (j := 5) dX9_has_37 inX9_has_RX9 shzC_0 clzC_9 (by decide) rfl (List.mem_of_getElem? (i := 3) rfl) rfl ?_
      refine ww_get (pc := 40) X (ref := "PictureBlock$Stand") (T := TX5) (j := 1) dX9_has_40 inX9_has_RX5 shzC_47 clzC_5 (by decide) rfl (List.mem_of_getElem? (i := 4) rfl) rfl ?_
      exact ww_iret (pc := 43) X dX9_has_43 (Option.some.inj hF) rfl
  · refine ww_aload_n (pc := 25) X (j := 0) dX9_has_25 rfl rfl ?_
    obtain ⟨r8, h7, hF⟩ := bd_some hF
    refine ww_callVi (pc := 26) X (As := []) (rest := []) dX9_has_26 (kX9_countDropped (mL M) G hZ X.2.2.2.2.2.2.1 X.2.2.2.2.2.2.2.1 σ r8 h7) rfl shzC_0 clzC_9 gX9_has_X9_countDropped hyX9_countDropped ⟨rfl, rfl⟩ ⟨Nat.le_of_ble_eq_true rfl, Nat.le_of_ble_eq_true rfl⟩ rfl rfl (Nat.le_of_ble_eq_true rfl) ?_
    exact ww_iret (pc := 29) X dX9_has_29 (Option.some.inj hF) rfl
set_option maxRecDepth 100000 in
set_option maxHeartbeats 4000000 in
theorem wX9_has {M : gM} {G : gG} {out : Int32} (X : gX M G zC cX9_has RX9 2 wsX9_has rmX9_has (some .int)) {ex : gEx} (hZ : ∀ s : State, G.2.2.2 s → kC ex (gA G zC.1) s) (σ : gS) (p1 : Int32) (hF : fX9_has σ p1 = some out) : WW M (gQi M G zC out σ) G zC 2 σ 0 [(0, .ref (G.2.1 0)), (1, .int p1)] [] := by
  unfold fX9_has at hF
  refine ww_iload_n (pc := 0) X (j := 1) dX9_has_0 rfl rfl ?_
  refine ww_if_lt (pc := 1) (tgt := 19) X dX9_has_1 (by decide) hF (fun h1 hF => ?_) (fun h1 hF => ?_)
  · exact ww_sub [0, 1] rfl (wjX9_has_19 X hZ σ p1 hF)
  · refine ww_iload_n (pc := 4) X (j := 1) dX9_has_4 rfl rfl ?_
    refine ww_iconst (pc := 5) X (v := 5) dX9_has_5 (by decide) ?_
    refine ww_icmp_gt (pc := 6) (tgt := 19) X dX9_has_6 (by decide) hF (fun h9 hF => ?_) (fun h9 hF => ?_)
    · exact ww_sub [0, 1] rfl (wjX9_has_19 X hZ σ p1 hF)
    · refine ww_aload_n (pc := 9) X (j := 0) dX9_has_9 rfl rfl ?_
      refine ww_get (pc := 10) X (ref := "PictureBlock") (T := TX9) (j := 2) dX9_has_10 inX9_has_RX9 shzC_0 clzC_9 (by decide) rfl (List.mem_of_getElem? (i := 1) rfl) rfl ?_
      refine ww_get (pc := 13) X (ref := "PictureBlock$Told") (T := TX8) (j := 0) dX9_has_13 inX9_has_RX8 shzC_2 clzC_8 (by decide) rfl (List.mem_of_getElem? (i := 2) rfl) rfl ?_
      refine ww_iload_n (pc := 16) X (j := 1) dX9_has_16 rfl rfl ?_
      refine ww_iald (pc := 17) X dX9_has_17 shzC_3 rfl hF (fun v10 ev10 bv10 hF => ?_)
      exact ww_iret (pc := 18) X dX9_has_18 (Option.some.inj hF) rfl
set_option maxRecDepth 100000 in
set_option maxHeartbeats 4000000 in
theorem kX9_has (l : Launch) (G : gG) {ex : gEx} (hZ : ∀ s : State, G.2.2.2 s → kC ex (gA G zC.1) s) (hG : gOK G zC.1) (hT : G.2.2.1.map (fun q => q.2) = zC.2.1) (σ : gS) (p1 : Int32) (out : Int32) (hF : fX9_has σ p1 = some out) : gCi l yX9_has wsX9_has rmX9_has G zC [.ref (G.2.1 0), .int p1] σ out σ :=
  gEnter (by decide) rfl ⟨rfl, rfl⟩ hG hT (Nat.le_of_ble_eq_true rfl) rfl (fun M X hl => wX9_has X hZ σ p1 hF)
noncomputable def fX8_exists_2 (σ : gS) (p1 : Int32) (p2 : Int32) : Option (Int32) :=
  if p2 < 0 then some 0 else gd (gb p1 6) <| nm (σ.1 3 p1.toNatClampNeg) fun v2 => (if v2 ≤ p2 then some 0 else some 1)
noncomputable abbrev rmX8_exists : Room := { frames := 0, cells := 0, slots := 0, locals := 0 }
set_option maxRecDepth 100000 in
set_option maxHeartbeats 4000000 in
theorem wX8_exists_2 {M : gM} {G : gG} {out : Int32} (X : gX M G zC cX8_exists RX8 3 wsX8_exists rmX8_exists (some .boolean)) {ex : gEx} (hZ : ∀ s : State, G.2.2.2 s → kC ex (gA G zC.1) s) (σ : gS) (p1 : Int32) (p2 : Int32) (hF : fX8_exists_2 σ p1 p2 = some out) : WW M (gQi M G zC out σ) G zC 3 σ 0 [(0, .ref (G.2.1 2)), (1, .int p1), (2, .int p2)] [] := by
  unfold fX8_exists_2 at hF
  refine ww_iload_n (pc := 0) X (j := 2) dX8_exists_0 rfl rfl ?_
  refine ww_if_lt (pc := 1) (tgt := 18) X dX8_exists_1 (by decide) hF (fun h1 hF => ?_) (fun h1 hF => ?_)
  · refine ww_iconst (pc := 18) X (v := 0) dX8_exists_18 (by decide) ?_
    exact ww_zret (pc := 19) X dX8_exists_19 (by cases hF; rfl) rfl
  · refine ww_iload_n (pc := 4) X (j := 2) dX8_exists_4 rfl rfl ?_
    refine ww_aload_n (pc := 5) X (j := 0) dX8_exists_5 rfl rfl ?_
    refine ww_get (pc := 6) X (ref := "PictureBlock$Told") (T := TX8) (j := 0) dX8_exists_6 inX8_exists_RX8 shzC_2 clzC_8 (by decide) rfl (List.mem_of_getElem? (i := 1) rfl) rfl ?_
    refine ww_iload_n (pc := 9) X (j := 1) dX8_exists_9 rfl rfl ?_
    refine ww_iald (pc := 10) X dX8_exists_10 shzC_3 rfl hF (fun v2 ev2 bv2 hF => ?_)
    refine ww_icmp_ge (pc := 11) (tgt := 18) X dX8_exists_11 (by decide) hF (fun h3 hF => ?_) (fun h3 hF => ?_)
    · refine ww_iconst (pc := 18) X (v := 0) dX8_exists_18 (by decide) ?_
      exact ww_zret (pc := 19) X dX8_exists_19 (by cases hF; rfl) rfl
    · refine ww_iconst (pc := 14) X (v := 1) dX8_exists_14 (by decide) ?_
      refine ww_goto (pc := 15) X (tgt := 19) dX8_exists_15 (by decide) ?_
      exact ww_zret (pc := 19) X dX8_exists_19 (by cases hF; rfl) rfl
set_option maxRecDepth 100000 in
set_option maxHeartbeats 4000000 in
theorem kX8_exists_2 (l : Launch) (G : gG) {ex : gEx} (hZ : ∀ s : State, G.2.2.2 s → kC ex (gA G zC.1) s) (hG : gOK G zC.1) (hT : G.2.2.1.map (fun q => q.2) = zC.2.1) (σ : gS) (p1 : Int32) (p2 : Int32) (out : Int32) (hF : fX8_exists_2 σ p1 p2 = some out) : gCi l yX8_exists wsX8_exists rmX8_exists G zC [.ref (G.2.1 2), .int p1, .int p2] σ out σ :=
  gEnter (by decide) rfl ⟨rfl, rfl⟩ hG hT (Nat.le_of_ble_eq_true rfl) rfl (fun M X hl => wX8_exists_2 X hZ σ p1 p2 hF)
noncomputable def bX9_letter_51 (σ : gS) (c51_3 : Int32) (rec51 : Int32 → Int32 → Option (Int32)) (a4 : Int32) (a5 : Int32) : Option (Int32) :=
  if a5 ≤ c51_3 then some (irm a4 27) else nm (a4 / 27 : Int32) fun x13 => nm (a5 + (-1) : Int32) fun x14 => rec51 x13 x14
noncomputable def fX9_letter (σ : gS) (p1 : Int32) (p2 : Int32) (p3 : Int32) : Option (Int32) :=
  if p1 < 0 then some ((-1)) else if 2 < p1 then some ((-1)) else bd (fX8_exists_2 σ p1 p2) fun r4 => (if r4 = 0 then some ((-1)) else if p3 < 0 then some ((-1)) else if p3 < 6 then gd (gb p1 3) <| gd (gb p2 20) <| nm (σ.1 (5 + p1.toNatClampNeg) p2.toNatClampNeg) fun v9 => nm (v9 : Int32) fun x10 => nm (5 : Int32) fun x11 => lpc (S := Int32 × Int32) K9 (fun rec s => bX9_letter_51 σ p3 (fun a4 a5 => rec (a4, a5)) s.1 s.2) (x10, x11) else some ((-1)))
noncomputable abbrev rmX9_letter : Room := { frames := 1, cells := 0, slots := 0, locals := 22 }
set_option maxRecDepth 100000 in
set_option maxHeartbeats 4000000 in
theorem wbX9_letter_51 {M : gM} {G : gG} {out : Int32} (X : gX M G zC cX9_letter RX9 6 wsX9_letter rmX9_letter (some .int)) {ex : gEx} (hZ : ∀ s : State, G.2.2.2 s → kC ex (gA G zC.1) s) (σ : gS) (c51_3 : Int32) (rec51 : Int32 → Int32 → Option (Int32)) (ih51 : ∀ (a4 : Int32) (a5 : Int32), rec51 a4 a5 = some out → WW M (gQi M G zC out σ) G zC 6 σ 51 [(3, .int c51_3), (4, .int a4), (5, .int a5)] []) (a4 : Int32) (a5 : Int32) (hF : bX9_letter_51 σ c51_3 rec51 a4 a5 = some out) : WW M (gQi M G zC out σ) G zC 6 σ 51 [(3, .int c51_3), (4, .int a4), (5, .int a5)] [] := by
  unfold bX9_letter_51 at hF
  refine ww_iload (pc := 51) X (j := 2) dX9_letter_51 rfl ?_
  refine ww_iload_n (pc := 53) X (j := 0) dX9_letter_53 rfl rfl ?_
  refine ww_icmp_le (pc := 54) (tgt := 70) X dX9_letter_54 (by decide) hF (fun h12 hF => ?_) (fun h12 hF => ?_)
  · refine ww_iload (pc := 70) X (j := 1) dX9_letter_70 rfl ?_
    refine ww_bipush (pc := 72) X (v := 27) dX9_letter_72 (by decide) ?_
    refine ww_irem (pc := 74) X dX9_letter_74 (by decide) ?_
    exact ww_iret (pc := 75) X dX9_letter_75 (Option.some.inj hF) rfl
  · refine ww_iload (pc := 57) X (j := 1) dX9_letter_57 rfl ?_
    refine ww_bipush (pc := 59) X (v := 27) dX9_letter_59 (by decide) ?_
    refine ww_idiv (pc := 61) X dX9_letter_61 (by decide) ?_
    refine ww_istore (pc := 62) X (lv' := [(3, .int c51_3), (5, .int a5)]) dX9_letter_62 (by decide) rfl hF (fun x13 ex13 hF => ?_)
    refine ww_iinc (pc := 64) X (j := 2) (v := (-1)) (lv' := [(4, .int x13), (3, .int c51_3)]) dX9_letter_64 rfl rfl (by decide) rfl hF (fun x14 ex14 hF => ?_)
    refine ww_goto (pc := 67) X (tgt := 51) dX9_letter_67 (by decide) ?_
    exact ww_sub [2, 1, 0] rfl (ih51 x13 x14 hF)
set_option maxRecDepth 100000 in
set_option maxHeartbeats 4000000 in
theorem wX9_letter {M : gM} {G : gG} {out : Int32} (X : gX M G zC cX9_letter RX9 6 wsX9_letter rmX9_letter (some .int)) {ex : gEx} (hZ : ∀ s : State, G.2.2.2 s → kC ex (gA G zC.1) s) (σ : gS) (p1 : Int32) (p2 : Int32) (p3 : Int32) (hF : fX9_letter σ p1 p2 p3 = some out) : WW M (gQi M G zC out σ) G zC 6 σ 0 [(0, .ref (G.2.1 0)), (1, .int p1), (2, .int p2), (3, .int p3)] [] := by
  unfold fX9_letter at hF
  refine ww_iload_n (pc := 0) X (j := 1) dX9_letter_0 rfl rfl ?_
  refine ww_if_lt (pc := 1) (tgt := 21) X dX9_letter_1 (by decide) hF (fun h1 hF => ?_) (fun h1 hF => ?_)
  · refine ww_iconst (pc := 21) X (v := (-1)) dX9_letter_21 (by decide) ?_
    exact ww_iret (pc := 22) X dX9_letter_22 (Option.some.inj hF) rfl
  · refine ww_iload_n (pc := 4) X (j := 1) dX9_letter_4 rfl rfl ?_
    refine ww_iconst (pc := 5) X (v := 2) dX9_letter_5 (by decide) ?_
    refine ww_icmp_gt (pc := 6) (tgt := 21) X dX9_letter_6 (by decide) hF (fun h2 hF => ?_) (fun h2 hF => ?_)
    · refine ww_iconst (pc := 21) X (v := (-1)) dX9_letter_21 (by decide) ?_
      exact ww_iret (pc := 22) X dX9_letter_22 (Option.some.inj hF) rfl
    · refine ww_aload_n (pc := 9) X (j := 0) dX9_letter_9 rfl rfl ?_
      refine ww_get (pc := 10) X (ref := "PictureBlock") (T := TX9) (j := 2) dX9_letter_10 inX9_letter_RX9 shzC_0 clzC_9 (by decide) rfl (List.mem_of_getElem? (i := 1) rfl) rfl ?_
      refine ww_iload_n (pc := 13) X (j := 1) dX9_letter_13 rfl rfl ?_
      refine ww_iload_n (pc := 14) X (j := 2) dX9_letter_14 rfl rfl ?_
      obtain ⟨r4, h3, hF⟩ := bd_some hF
      refine ww_callVi (pc := 15) X (As := [.int p1, .int p2]) (rest := []) dX9_letter_15 (kX8_exists_2 (mL M) G hZ X.2.2.2.2.2.2.1 X.2.2.2.2.2.2.2.1 σ p1 p2 r4 h3) rfl shzC_2 clzC_8 gX9_letter_X8_exists hyX8_exists ⟨rfl, rfl⟩ ⟨Nat.le_of_ble_eq_true rfl, Nat.le_of_ble_eq_true rfl⟩ rfl rfl (Nat.le_of_ble_eq_true rfl) ?_
      refine ww_if_ne (pc := 18) (tgt := 23) X dX9_letter_18 (by decide) hF (fun h5 hF => ?_) (fun h5 hF => ?_)
      · refine ww_iload_n (pc := 23) X (j := 3) dX9_letter_23 rfl rfl ?_
        refine ww_if_lt (pc := 24) (tgt := 33) X dX9_letter_24 (by decide) hF (fun h6 hF => ?_) (fun h6 hF => ?_)
        · refine ww_iconst (pc := 33) X (v := (-1)) dX9_letter_33 (by decide) ?_
          exact ww_iret (pc := 34) X dX9_letter_34 (Option.some.inj hF) rfl
        · refine ww_iload_n (pc := 27) X (j := 3) dX9_letter_27 rfl rfl ?_
          refine ww_bipush (pc := 28) X (v := 6) dX9_letter_28 (by decide) ?_
          refine ww_icmp_lt (pc := 30) (tgt := 35) X dX9_letter_30 (by decide) hF (fun h7 hF => ?_) (fun h7 hF => ?_)
          · refine ww_aload_n (pc := 35) X (j := 0) dX9_letter_35 rfl rfl ?_
            refine ww_get (pc := 36) X (ref := "PictureBlock") (T := TX9) (j := 2) dX9_letter_36 inX9_letter_RX9 shzC_0 clzC_9 (by decide) rfl (List.mem_of_getElem? (i := 1) rfl) rfl ?_
            refine ww_get (pc := 39) X (ref := "PictureBlock$Told") (T := TX8) (j := 1) dX9_letter_39 inX9_letter_RX8 shzC_2 clzC_8 (by decide) rfl (List.mem_of_getElem? (i := 2) rfl) rfl ?_
            refine ww_iload_n (pc := 42) X (j := 1) dX9_letter_42 rfl rfl ?_
            refine ww_aald (pc := 43) X dX9_letter_43 shzC_4 rfl hF (fun h8 hF => ?_)
            refine ww_iload_n (pc := 44) X (j := 2) dX9_letter_44 rfl rfl ?_
            refine ww_iald (pc := 45) X dX9_letter_45 (rwzC_4 _ (gb_lt h8)) rfl hF (fun v9 ev9 bv9 hF => ?_)
            refine ww_istore (pc := 46) X (lv' := [(0, .ref (G.2.1 0)), (1, .int p1), (2, .int p2), (3, .int p3)]) dX9_letter_46 (by decide) rfl hF (fun x10 ex10 hF => ?_)
            refine ww_iconst (pc := 48) X (v := 5) dX9_letter_48 (by decide) ?_
            refine ww_istore (pc := 49) X (lv' := [(4, .int x10), (0, .ref (G.2.1 0)), (1, .int p1), (2, .int p2), (3, .int p3)]) dX9_letter_49 (by decide) rfl hF (fun x11 ex11 hF => ?_)
            exact ww_sub [5, 1, 0] rfl (lpc_ind (P := (fun (s : Int32 × Int32) => WW M (gQi M G zC out σ) G zC 6 σ 51 [(3, .int p3), (4, .int s.1), (5, .int s.2)] [])) (fun rec s ih hF => wbX9_letter_51 X hZ σ p3 (fun a4 a5 => rec (a4, a5)) (fun a4 a5 h => ih (a4, a5) h) s.1 s.2 hF) K9 (x10, x11) hF)
          · refine ww_iconst (pc := 33) X (v := (-1)) dX9_letter_33 (by decide) ?_
            exact ww_iret (pc := 34) X dX9_letter_34 (Option.some.inj hF) rfl
      · refine ww_iconst (pc := 21) X (v := (-1)) dX9_letter_21 (by decide) ?_
        exact ww_iret (pc := 22) X dX9_letter_22 (Option.some.inj hF) rfl
set_option maxRecDepth 100000 in
set_option maxHeartbeats 4000000 in
theorem kX9_letter (l : Launch) (G : gG) {ex : gEx} (hZ : ∀ s : State, G.2.2.2 s → kC ex (gA G zC.1) s) (hG : gOK G zC.1) (hT : G.2.2.1.map (fun q => q.2) = zC.2.1) (σ : gS) (p1 : Int32) (p2 : Int32) (p3 : Int32) (out : Int32) (hF : fX9_letter σ p1 p2 p3 = some out) : gCi l yX9_letter wsX9_letter rmX9_letter G zC [.ref (G.2.1 0), .int p1, .int p2, .int p3] σ out σ :=
  gEnter (by decide) rfl ⟨rfl, rfl⟩ hG hT (Nat.le_of_ble_eq_true rfl) rfl (fun M X hl => wX9_letter X hZ σ p1 p2 p3 hF)
