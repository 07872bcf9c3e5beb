noncomputable def bX5_countRows_47_5 (σ : gS) (c5_1 : Nat) (c5_2 : Int32) (rec5 : Int32 → Int32 → Option (Int32)) (a3 : Int32) (a4 : Int32) : Option (Int32) :=
  gd (gb 3 6) <| nm (σ.1 3 ((3 : Int32).toNatClampNeg)) fun v3 => (if v3 ≤ a4 then some a3 else gd (gb a4 (gsz zC.1 0 0 c5_1)) <| nm (σ.1 c5_1 a4.toNatClampNeg) fun v5 => (if v5 = c5_2 then bd (fX5_uses_47 σ a4) fun r9 => (if r9 = 0 then nm (a4 + 1 : Int32) fun x11 => rec5 a3 x11 else nm (a3 + 1 : Int32) fun x12 => nm (a4 + 1 : Int32) fun x13 => rec5 x12 x13) else nm (a4 + 1 : Int32) fun x7 => rec5 a3 x7))
noncomputable def fX5_countRows_47 (σ : gS) (p1 : Nat) (p2 : Int32) : Option (Int32) :=
  nm (0 : Int32) fun x1 => nm (0 : Int32) fun x2 => lpc (S := Int32 × Int32) K9 (fun rec s => bX5_countRows_47_5 σ p1 p2 (fun a3 a4 => rec (a3, a4)) s.1 s.2) (x1, x2)
noncomputable abbrev rmX5_countRows : Room := { frames := 1, cells := 0, slots := 0, locals := 21 }
set_option maxRecDepth 100000 in
set_option maxHeartbeats 4000000 in
theorem wbX5_countRows_47_5 {M : gM} {G : gG} {out : Int32} (X : gX M G zC cX5_countRows RX5 5 wsX5_countRows rmX5_countRows (some .int)) {ex : gEx} (hZ : ∀ s : State, G.2.2.2 s → kC ex (gA G zC.1) s) (σ : gS) (c5_1 : Nat) (c5_2 : Int32) (rec5 : Int32 → Int32 → Option (Int32)) (ih5 : ∀ (a3 : Int32) (a4 : Int32), rec5 a3 a4 = some out → WW M (gQi M G zC out σ) G zC 5 σ 5 [(0, .ref (G.2.1 47)), (1, .ref (G.2.1 c5_1)), (2, .int c5_2), (3, .int a3), (4, .int a4)] []) (a3 : Int32) (a4 : Int32) (hF : bX5_countRows_47_5 σ c5_1 c5_2 rec5 a3 a4 = some out) : WW M (gQi M G zC out σ) G zC 5 σ 5 [(0, .ref (G.2.1 47)), (1, .ref (G.2.1 c5_1)), (2, .int c5_2), (3, .int a3), (4, .int a4)] [] := by
  unfold bX5_countRows_47_5 at hF
  refine ww_iload (pc := 5) X (j := 4) dX5_countRows_5 rfl ?_
  refine ww_aload_n (pc := 7) X (j := 0) dX5_countRows_7 rfl rfl ?_
  refine ww_get (pc := 8) X (ref := "PictureBlock$Stand") (T := TX5) (j := 0) dX5_countRows_8 inX5_countRows_RX5 shzC_47 clzC_5 (by decide) rfl (List.mem_of_getElem? (i := 1) rfl) rfl ?_
  refine ww_get (pc := 11) X (ref := "PictureBlock$Told") (T := TX8) (j := 0) dX5_countRows_11 inX5_countRows_RX8 shzC_2 clzC_8 (by decide) rfl (List.mem_of_getElem? (i := 2) rfl) rfl ?_
  refine ww_iconst (pc := 14) X (v := 3) dX5_countRows_14 (by decide) ?_
  refine ww_iald (pc := 15) X dX5_countRows_15 shzC_3 rfl hF (fun v3 ev3 bv3 hF => ?_)
  refine ww_icmp_ge (pc := 16) (tgt := 45) X dX5_countRows_16 (by decide) hF (fun h4 hF => ?_) (fun h4 hF => ?_)
  · refine ww_iload_n (pc := 45) X (j := 3) dX5_countRows_45 rfl rfl ?_
    exact ww_iret (pc := 46) X dX5_countRows_46 (Option.some.inj hF) rfl
  · refine ww_aload_n (pc := 19) X (j := 1) dX5_countRows_19 rfl rfl ?_
    refine ww_iload (pc := 20) X (j := 4) dX5_countRows_20 rfl ?_
    refine ww_ialdS (pc := 22) X dX5_countRows_22  (t := 0) rfl hF (fun v5 ev5 bv5 hF => ?_)
    refine ww_iload_n (pc := 23) X (j := 2) dX5_countRows_23 rfl rfl ?_
    refine ww_icmp_ne (pc := 24) (tgt := 39) X dX5_countRows_24 (by decide) hF (fun h6 hF => ?_) (fun h6 hF => ?_)
    · refine ww_iinc (pc := 39) X (j := 4) (v := 1) (lv' := [(0, .ref (G.2.1 47)), (1, .ref (G.2.1 c5_1)), (2, .int c5_2), (3, .int a3)]) dX5_countRows_39 rfl rfl (by decide) rfl hF (fun x7 ex7 hF => ?_)
      refine ww_goto (pc := 42) X (tgt := 5) dX5_countRows_42 (by decide) ?_
      exact ww_sub [1, 2, 3, 4, 0] rfl (ih5 a3 x7 hF)
    · refine ww_aload_n (pc := 27) X (j := 0) dX5_countRows_27 rfl rfl ?_
      refine ww_iload (pc := 28) X (j := 4) dX5_countRows_28 rfl ?_
      obtain ⟨r9, h8, hF⟩ := bd_some hF
      refine ww_callVi (pc := 30) X (As := [.int a4]) (rest := []) dX5_countRows_30 (kX5_uses_47 (mL M) G hZ X.2.2.2.2.2.2.1 X.2.2.2.2.2.2.2.1 σ a4 r9 h8) rfl shzC_47 clzC_5 gX5_countRows_X5_uses hyX5_uses ⟨rfl, rfl⟩ ⟨Nat.le_of_ble_eq_true rfl, Nat.le_of_ble_eq_true rfl⟩ rfl rfl (Nat.le_of_ble_eq_true rfl) ?_
      refine ww_if_eq (pc := 33) (tgt := 39) X dX5_countRows_33 (by decide) hF (fun h10 hF => ?_) (fun h10 hF => ?_)
      · refine ww_iinc (pc := 39) X (j := 4) (v := 1) (lv' := [(0, .ref (G.2.1 47)), (1, .ref (G.2.1 c5_1)), (2, .int c5_2), (3, .int a3)]) dX5_countRows_39 rfl rfl (by decide) rfl hF (fun x11 ex11 hF => ?_)
        refine ww_goto (pc := 42) X (tgt := 5) dX5_countRows_42 (by decide) ?_
        exact ww_sub [1, 2, 3, 4, 0] rfl (ih5 a3 x11 hF)
      · refine ww_iinc (pc := 36) X (j := 3) (v := 1) (lv' := [(0, .ref (G.2.1 47)), (1, .ref (G.2.1 c5_1)), (2, .int c5_2), (4, .int a4)]) dX5_countRows_36 rfl rfl (by decide) rfl hF (fun x12 ex12 hF => ?_)
        refine ww_iinc (pc := 39) X (j := 4) (v := 1) (lv' := [(3, .int x12), (0, .ref (G.2.1 47)), (1, .ref (G.2.1 c5_1)), (2, .int c5_2)]) dX5_countRows_39 rfl rfl (by decide) rfl hF (fun x13 ex13 hF => ?_)
        refine ww_goto (pc := 42) X (tgt := 5) dX5_countRows_42 (by decide) ?_
        exact ww_sub [2, 3, 4, 1, 0] rfl (ih5 x12 x13 hF)
set_option maxRecDepth 100000 in
set_option maxHeartbeats 4000000 in
theorem wX5_countRows_47 {M : gM} {G : gG} {out : Int32} (X : gX M G zC cX5_countRows RX5 5 wsX5_countRows rmX5_countRows (some .int)) {ex : gEx} (hZ : ∀ s : State, G.2.2.2 s → kC ex (gA G zC.1) s) (σ : gS) (p1 : Nat) (p2 : Int32) (hF : fX5_countRows_47 σ p1 p2 = some out) : WW M (gQi M G zC out σ) G zC 5 σ 0 [(0, .ref (G.2.1 47)), (1, .ref (G.2.1 p1)), (2, .int p2)] [] := by
  unfold fX5_countRows_47 at hF
  refine ww_iconst (pc := 0) X (v := 0) dX5_countRows_0 (by decide) ?_
  refine ww_istore_n (pc := 1) X (lv' := [(0, .ref (G.2.1 47)), (1, .ref (G.2.1 p1)), (2, .int p2)]) dX5_countRows_1 rfl (by decide) rfl hF (fun x1 ex1 hF => ?_)
  refine ww_iconst (pc := 2) X (v := 0) dX5_countRows_2 (by decide) ?_
  refine ww_istore (pc := 3) X (lv' := [(3, .int x1), (0, .ref (G.2.1 47)), (1, .ref (G.2.1 p1)), (2, .int p2)]) dX5_countRows_3 (by decide) rfl hF (fun x2 ex2 hF => ?_)
  exact ww_sub [2, 3, 4, 1, 0] rfl (lpc_ind (P := (fun (s : Int32 × Int32) => WW M (gQi M G zC out σ) G zC 5 σ 5 [(0, .ref (G.2.1 47)), (1, .ref (G.2.1 p1)), (2, .int p2), (3, .int s.1), (4, .int s.2)] [])) (fun rec s ih hF => wbX5_countRows_47_5 X hZ σ p1 p2 (fun a3 a4 => rec (a3, a4)) (fun a3 a4 h => ih (a3, a4) h) s.1 s.2 hF) K9 (x1, x2) hF)
set_option maxRecDepth 100000 in
set_option maxHeartbeats 4000000 in
theorem kX5_countRows_47 (l : Launch) (G : gG) {ex : gEx} (hZ : ∀ s : State, G.2.2.2 s → kC ex (gA G zC.1) s) (hG : gOK G zC.1) (hT : G.2.2.1.map (fun q => q.2) = zC.2.1) (σ : gS) (p1 : Nat) (p2 : Int32) (out : Int32) (hF : fX5_countRows_47 σ p1 p2 = some out) : gCi l yX5_countRows wsX5_countRows rmX5_countRows G zC [.ref (G.2.1 47), .ref (G.2.1 p1), .int p2] σ out σ :=
  gEnter (by decide) rfl ⟨rfl, rfl⟩ hG hT (Nat.le_of_ble_eq_true rfl) rfl (fun M X hl => wX5_countRows_47 X hZ σ p1 p2 hF)
noncomputable def bX2_firstCentre_2 (σ : gS) (c2_1 : Int32) (rec2 : Int32 → Option (Int32)) (a2 : Int32) : Option (Int32) :=
  gd (gb 1 6) <| nm (σ.1 3 ((1 : Int32).toNatClampNeg)) fun v2 => (if v2 ≤ a2 then some ((-1)) else gd (gb a2 12) <| nm (σ.1 8 a2.toNatClampNeg) fun v4 => (if v4 = c2_1 then gd (gb a2 12) <| nm (σ.1 20 a2.toNatClampNeg) fun v7 => (if v7 ≤ 0 then nm (a2 + 1 : Int32) fun x9 => rec2 x9 else some a2) else nm (a2 + 1 : Int32) fun x6 => rec2 x6))
noncomputable def fX2_firstCentre (σ : gS) (p1 : Int32) : Option (Int32) :=
  nm (0 : Int32) fun x1 => lpc (S := Int32) K9 (fun rec s => bX2_firstCentre_2 σ p1 (fun a2 => rec (a2)) s) (x1)
noncomputable abbrev rmX2_firstCentre : Room := { frames := 0, cells := 0, slots := 0, locals := 0 }
set_option maxRecDepth 100000 in
set_option maxHeartbeats 4000000 in
theorem wbX2_firstCentre_2 {M : gM} {G : gG} {out : Int32} (X : gX M G zC cX2_firstCentre RX2 3 wsX2_firstCentre rmX2_firstCentre (some .int)) {ex : gEx} (hZ : ∀ s : State, G.2.2.2 s → kC ex (gA G zC.1) s) (σ : gS) (c2_1 : Int32) (rec2 : Int32 → Option (Int32)) (ih2 : ∀ (a2 : Int32), rec2 a2 = some out → WW M (gQi M G zC out σ) G zC 3 σ 2 [(0, .ref (G.2.1 137)), (1, .int c2_1), (2, .int a2)] []) (a2 : Int32) (hF : bX2_firstCentre_2 σ c2_1 rec2 a2 = some out) : WW M (gQi M G zC out σ) G zC 3 σ 2 [(0, .ref (G.2.1 137)), (1, .int c2_1), (2, .int a2)] [] := by
  unfold bX2_firstCentre_2 at hF
  refine ww_iload_n (pc := 2) X (j := 2) dX2_firstCentre_2 rfl rfl ?_
  refine ww_aload_n (pc := 3) X (j := 0) dX2_firstCentre_3 rfl rfl ?_
  refine ww_get (pc := 4) X (ref := "PictureBlock$Net") (T := TX2) (j := 0) dX2_firstCentre_4 inX2_firstCentre_RX2 shzC_137 clzC_2 (by decide) rfl (List.mem_of_getElem? (i := 1) rfl) rfl ?_
  refine ww_get (pc := 7) X (ref := "PictureBlock$Told") (T := TX8) (j := 0) dX2_firstCentre_7 inX2_firstCentre_RX8 shzC_2 clzC_8 (by decide) rfl (List.mem_of_getElem? (i := 2) rfl) rfl ?_
  refine ww_iconst (pc := 10) X (v := 1) dX2_firstCentre_10 (by decide) ?_
  refine ww_iald (pc := 11) X dX2_firstCentre_11 shzC_3 rfl hF (fun v2 ev2 bv2 hF => ?_)
  refine ww_icmp_ge (pc := 12) (tgt := 48) X dX2_firstCentre_12 (by decide) hF (fun h3 hF => ?_) (fun h3 hF => ?_)
  · refine ww_iconst (pc := 48) X (v := (-1)) dX2_firstCentre_48 (by decide) ?_
    exact ww_iret (pc := 49) X dX2_firstCentre_49 (Option.some.inj hF) rfl
  · refine ww_aload_n (pc := 15) X (j := 0) dX2_firstCentre_15 rfl rfl ?_
    refine ww_get (pc := 16) X (ref := "PictureBlock$Net") (T := TX2) (j := 0) dX2_firstCentre_16 inX2_firstCentre_RX2 shzC_137 clzC_2 (by decide) rfl (List.mem_of_getElem? (i := 1) rfl) rfl ?_
    refine ww_get (pc := 19) X (ref := "PictureBlock$Told") (T := TX8) (j := 2) dX2_firstCentre_19 inX2_firstCentre_RX8 shzC_2 clzC_8 (by decide) rfl (List.mem_of_getElem? (i := 3) rfl) rfl ?_
    refine ww_iload_n (pc := 22) X (j := 2) dX2_firstCentre_22 rfl rfl ?_
    refine ww_iald (pc := 23) X dX2_firstCentre_23 shzC_8 rfl hF (fun v4 ev4 bv4 hF => ?_)
    refine ww_iload_n (pc := 24) X (j := 1) dX2_firstCentre_24 rfl rfl ?_
    refine ww_icmp_ne (pc := 25) (tgt := 42) X dX2_firstCentre_25 (by decide) hF (fun h5 hF => ?_) (fun h5 hF => ?_)
    · refine ww_iinc (pc := 42) X (j := 2) (v := 1) (lv' := [(0, .ref (G.2.1 137)), (1, .int c2_1)]) dX2_firstCentre_42 rfl rfl (by decide) rfl hF (fun x6 ex6 hF => ?_)
      refine ww_goto (pc := 45) X (tgt := 2) dX2_firstCentre_45 (by decide) ?_
      exact ww_sub [1, 2, 0] rfl (ih2 x6 hF)
    · refine ww_aload_n (pc := 28) X (j := 0) dX2_firstCentre_28 rfl rfl ?_
      refine ww_get (pc := 29) X (ref := "PictureBlock$Net") (T := TX2) (j := 0) dX2_firstCentre_29 inX2_firstCentre_RX2 shzC_137 clzC_2 (by decide) rfl (List.mem_of_getElem? (i := 1) rfl) rfl ?_
      refine ww_get (pc := 32) X (ref := "PictureBlock$Told") (T := TX8) (j := 10) dX2_firstCentre_32 inX2_firstCentre_RX8 shzC_2 clzC_8 (by decide) rfl (List.mem_of_getElem? (i := 4) rfl) rfl ?_
      refine ww_iload_n (pc := 35) X (j := 2) dX2_firstCentre_35 rfl rfl ?_
      refine ww_iald (pc := 36) X dX2_firstCentre_36 shzC_20 rfl hF (fun v7 ev7 bv7 hF => ?_)
      refine ww_if_le (pc := 37) (tgt := 42) X dX2_firstCentre_37 (by decide) hF (fun h8 hF => ?_) (fun h8 hF => ?_)
      · refine ww_iinc (pc := 42) X (j := 2) (v := 1) (lv' := [(0, .ref (G.2.1 137)), (1, .int c2_1)]) dX2_firstCentre_42 rfl rfl (by decide) rfl hF (fun x9 ex9 hF => ?_)
        refine ww_goto (pc := 45) X (tgt := 2) dX2_firstCentre_45 (by decide) ?_
        exact ww_sub [1, 2, 0] rfl (ih2 x9 hF)
      · refine ww_iload_n (pc := 40) X (j := 2) dX2_firstCentre_40 rfl rfl ?_
        exact ww_iret (pc := 41) X dX2_firstCentre_41 (Option.some.inj hF) rfl
set_option maxRecDepth 100000 in
set_option maxHeartbeats 4000000 in
theorem wX2_firstCentre {M : gM} {G : gG} {out : Int32} (X : gX M G zC cX2_firstCentre RX2 3 wsX2_firstCentre rmX2_firstCentre (some .int)) {ex : gEx} (hZ : ∀ s : State, G.2.2.2 s → kC ex (gA G zC.1) s) (σ : gS) (p1 : Int32) (hF : fX2_firstCentre σ p1 = some out) : WW M (gQi M G zC out σ) G zC 3 σ 0 [(0, .ref (G.2.1 137)), (1, .int p1)] [] := by
  unfold fX2_firstCentre at hF
  refine ww_iconst (pc := 0) X (v := 0) dX2_firstCentre_0 (by decide) ?_
  refine ww_istore_n (pc := 1) X (lv' := [(0, .ref (G.2.1 137)), (1, .int p1)]) dX2_firstCentre_1 rfl (by decide) rfl hF (fun x1 ex1 hF => ?_)
  exact ww_sub [1, 2, 0] rfl (lpc_ind (P := (fun (s : Int32) => WW M (gQi M G zC out σ) G zC 3 σ 2 [(0, .ref (G.2.1 137)), (1, .int p1), (2, .int s)] [])) (fun rec s ih hF => wbX2_firstCentre_2 X hZ σ p1 (fun a2 => rec (a2)) (fun a2 h => ih (a2) h) s hF) K9 (x1) hF)
set_option maxRecDepth 100000 in
set_option maxHeartbeats 4000000 in
theorem kX2_firstCentre (l : Launch) (G : gG) {ex : gEx} (hZ : ∀ s : State, G.2.2.2 s → kC ex (gA G zC.1) s) (hG : gOK G zC.1) (hT : G.2.2.1.map (fun q => q.2) = zC.2.1) (σ : gS) (p1 : Int32) (out : Int32) (hF : fX2_firstCentre σ p1 = some out) : gCi l yX2_firstCentre wsX2_firstCentre rmX2_firstCentre G zC [.ref (G.2.1 137), .int p1] σ out σ :=
  gEnter (by decide) rfl ⟨rfl, rfl⟩ hG hT (Nat.le_of_ble_eq_true rfl) rfl (fun M X hl => wX2_firstCentre X hZ σ p1 hF)
noncomputable def bX2_join_31 (σ : gS) (c31_1 : Int32) (c31_3 : Int32) (rec31 : Int32 → gS → Option (gS)) (a4 : Int32) (σ1 : gS) : Option (gS) :=
  if 32 ≤ a4 then some σ1 else gd (gb a4 32) <| nm (σ1.1 138 a4.toNatClampNeg) fun v9 => (if v9 = c31_3 then gd (gb c31_1 32) <| nm (σ1.1 138 c31_1.toNatClampNeg) fun v12 => gd (gb a4 32) <| nm (gsI σ1 138 a4.toNatClampNeg v12) fun σ13 => nm (a4 + 1 : Int32) fun x14 => rec31 x14 σ13 else nm (a4 + 1 : Int32) fun x11 => rec31 x11 σ1)
noncomputable def fX2_join (σ : gS) (p1 : Int32) (p2 : Int32) : Option (gS) :=
  if p1 = ((-1)) then some σ else gd (gb p1 32) <| nm (σ.1 138 p1.toNatClampNeg) fun v2 => gd (gb p2 32) <| nm (σ.1 138 p2.toNatClampNeg) fun v3 => (if v2 = v3 then some σ else gd (gb p2 32) <| nm (σ.1 138 p2.toNatClampNeg) fun v5 => nm (v5 : Int32) fun x6 => nm (0 : Int32) fun x7 => lpc (S := Int32 × gS) K9 (fun rec s => bX2_join_31 σ p1 x6 (fun a4 σ1 => rec (a4, σ1)) s.1 s.2) (x7, σ))
noncomputable abbrev rmX2_join : Room := { frames := 0, cells := 0, slots := 0, locals := 0 }
set_option maxRecDepth 100000 in
set_option maxHeartbeats 4000000 in
theorem wbX2_join_31 {M : gM} {G : gG} {out : gS} (X : gX M G zC cX2_join RX2 5 wsX2_join rmX2_join none) {ex : gEx} (hZ : ∀ s : State, G.2.2.2 s → kC ex (gA G zC.1) s) (σ : gS) (c31_1 : Int32) (c31_3 : Int32) (rec31 : Int32 → gS → Option (gS)) (ih31 : ∀ (a4 : Int32) (σ1 : gS), rec31 a4 σ1 = some out → WW M (gQv M G zC out) G zC 5 σ1 31 [(0, .ref (G.2.1 137)), (1, .int c31_1), (3, .int c31_3), (4, .int a4)] []) (a4 : Int32) (σ1 : gS) (hF : bX2_join_31 σ c31_1 c31_3 rec31 a4 σ1 = some out) : WW M (gQv M G zC out) G zC 5 σ1 31 [(0, .ref (G.2.1 137)), (1, .int c31_1), (3, .int c31_3), (4, .int a4)] [] := by
  unfold bX2_join_31 at hF
  refine ww_iload (pc := 31) X (j := 3) dX2_join_31 rfl ?_
  refine ww_aload_n (pc := 33) X (j := 0) dX2_join_33 rfl rfl ?_
  refine ww_get (pc := 34) X (ref := "PictureBlock$Net") (T := TX2) (j := 2) dX2_join_34 inX2_join_RX2 shzC_137 clzC_2 (by decide) rfl (List.mem_of_getElem? (i := 1) rfl) rfl ?_
  refine ww_alen (pc := 37) X (v := 32) (by decide) dX2_join_37 shzC_138 rfl (by decide) ?_
  refine ww_icmp_ge (pc := 38) (tgt := 71) X dX2_join_38 (by decide) hF (fun h8 hF => ?_) (fun h8 hF => ?_)
  · exact ww_vret (pc := 71) X dX2_join_71 (by cases hF; rfl)
  · refine ww_aload_n (pc := 41) X (j := 0) dX2_join_41 rfl rfl ?_
    refine ww_get (pc := 42) X (ref := "PictureBlock$Net") (T := TX2) (j := 2) dX2_join_42 inX2_join_RX2 shzC_137 clzC_2 (by decide) rfl (List.mem_of_getElem? (i := 1) rfl) rfl ?_
    refine ww_iload (pc := 45) X (j := 3) dX2_join_45 rfl ?_
    refine ww_iald (pc := 47) X dX2_join_47 shzC_138 rfl hF (fun v9 ev9 bv9 hF => ?_)
    refine ww_iload_n (pc := 48) X (j := 2) dX2_join_48 rfl rfl ?_
    refine ww_icmp_ne (pc := 49) (tgt := 65) X dX2_join_49 (by decide) hF (fun h10 hF => ?_) (fun h10 hF => ?_)
    · refine ww_iinc (pc := 65) X (j := 3) (v := 1) (lv' := [(0, .ref (G.2.1 137)), (1, .int c31_1), (3, .int c31_3)]) dX2_join_65 rfl rfl (by decide) rfl hF (fun x11 ex11 hF => ?_)
      refine ww_goto (pc := 68) X (tgt := 31) dX2_join_68 (by decide) ?_
      exact ww_sub [1, 2, 3, 0] rfl (ih31 x11 σ1 hF)
    · refine ww_aload_n (pc := 52) X (j := 0) dX2_join_52 rfl rfl ?_
      refine ww_get (pc := 53) X (ref := "PictureBlock$Net") (T := TX2) (j := 2) dX2_join_53 inX2_join_RX2 shzC_137 clzC_2 (by decide) rfl (List.mem_of_getElem? (i := 1) rfl) rfl ?_
      refine ww_iload (pc := 56) X (j := 3) dX2_join_56 rfl ?_
      refine ww_aload_n (pc := 58) X (j := 0) dX2_join_58 rfl rfl ?_
      refine ww_get (pc := 59) X (ref := "PictureBlock$Net") (T := TX2) (j := 2) dX2_join_59 inX2_join_RX2 shzC_137 clzC_2 (by decide) rfl (List.mem_of_getElem? (i := 1) rfl) rfl ?_
      refine ww_iload_n (pc := 62) X (j := 1) dX2_join_62 rfl rfl ?_
      refine ww_iald (pc := 63) X dX2_join_63 shzC_138 rfl hF (fun v12 ev12 bv12 hF => ?_)
      refine ww_iast (pc := 64) X dX2_join_64 shzC_138 rfl hF (fun σ13 eσ13 bσ13 hF => ?_)
      refine ww_iinc (pc := 65) X (j := 3) (v := 1) (lv' := [(0, .ref (G.2.1 137)), (1, .int c31_1), (3, .int c31_3)]) dX2_join_65 rfl rfl (by decide) rfl hF (fun x14 ex14 hF => ?_)
      refine ww_goto (pc := 68) X (tgt := 31) dX2_join_68 (by decide) ?_
      exact ww_sub [1, 2, 3, 0] rfl (ih31 x14 σ13 hF)
set_option maxRecDepth 100000 in
set_option maxHeartbeats 4000000 in
theorem wX2_join {M : gM} {G : gG} {out : gS} (X : gX M G zC cX2_join RX2 5 wsX2_join rmX2_join none) {ex : gEx} (hZ : ∀ s : State, G.2.2.2 s → kC ex (gA G zC.1) s) (σ : gS) (p1 : Int32) (p2 : Int32) (hF : fX2_join σ p1 p2 = some out) : WW M (gQv M G zC out) G zC 5 σ 0 [(0, .ref (G.2.1 137)), (1, .int p1), (2, .int p2)] [] := by
  unfold fX2_join at hF
  refine ww_iload_n (pc := 0) X (j := 1) dX2_join_0 rfl rfl ?_
  refine ww_iconst (pc := 1) X (v := (-1)) dX2_join_1 (by decide) ?_
  refine ww_icmp_eq (pc := 2) (tgt := 20) X dX2_join_2 (by decide) hF (fun h1 hF => ?_) (fun h1 hF => ?_)
  · exact ww_vret (pc := 20) X dX2_join_20 (by cases hF; rfl)
  · refine ww_aload_n (pc := 5) X (j := 0) dX2_join_5 rfl rfl ?_
    refine ww_get (pc := 6) X (ref := "PictureBlock$Net") (T := TX2) (j := 2) dX2_join_6 inX2_join_RX2 shzC_137 clzC_2 (by decide) rfl (List.mem_of_getElem? (i := 1) rfl) rfl ?_
    refine ww_iload_n (pc := 9) X (j := 1) dX2_join_9 rfl rfl ?_
    refine ww_iald (pc := 10) X dX2_join_10 shzC_138 rfl hF (fun v2 ev2 bv2 hF => ?_)
    refine ww_aload_n (pc := 11) X (j := 0) dX2_join_11 rfl rfl ?_
    refine ww_get (pc := 12) X (ref := "PictureBlock$Net") (T := TX2) (j := 2) dX2_join_12 inX2_join_RX2 shzC_137 clzC_2 (by decide) rfl (List.mem_of_getElem? (i := 1) rfl) rfl ?_
    refine ww_iload_n (pc := 15) X (j := 2) dX2_join_15 rfl rfl ?_
    refine ww_iald (pc := 16) X dX2_join_16 shzC_138 rfl hF (fun v3 ev3 bv3 hF => ?_)
    refine ww_icmp_ne (pc := 17) (tgt := 21) X dX2_join_17 (by decide) hF (fun h4 hF => ?_) (fun h4 hF => ?_)
    · refine ww_aload_n (pc := 21) X (j := 0) dX2_join_21 rfl rfl ?_
      refine ww_get (pc := 22) X (ref := "PictureBlock$Net") (T := TX2) (j := 2) dX2_join_22 inX2_join_RX2 shzC_137 clzC_2 (by decide) rfl (List.mem_of_getElem? (i := 1) rfl) rfl ?_
      refine ww_iload_n (pc := 25) X (j := 2) dX2_join_25 rfl rfl ?_
      refine ww_iald (pc := 26) X dX2_join_26 shzC_138 rfl hF (fun v5 ev5 bv5 hF => ?_)
      refine ww_istore_n (pc := 27) X (lv' := [(0, .ref (G.2.1 137)), (1, .int p1), (2, .int p2)]) dX2_join_27 rfl (by decide) rfl hF (fun x6 ex6 hF => ?_)
      refine ww_iconst (pc := 28) X (v := 0) dX2_join_28 (by decide) ?_
      refine ww_istore (pc := 29) X (lv' := [(3, .int x6), (0, .ref (G.2.1 137)), (1, .int p1), (2, .int p2)]) dX2_join_29 (by decide) rfl hF (fun x7 ex7 hF => ?_)
      exact ww_sub [2, 3, 1, 0] rfl (lpc_ind (P := (fun (s : Int32 × gS) => WW M (gQv M G zC out) G zC 5 s.2 31 [(0, .ref (G.2.1 137)), (1, .int p1), (3, .int x6), (4, .int s.1)] [])) (fun rec s ih hF => wbX2_join_31 X hZ σ p1 x6 (fun a4 σ1 => rec (a4, σ1)) (fun a4 σ1 h => ih (a4, σ1) h) s.1 s.2 hF) K9 (x7, σ) hF)
    · exact ww_vret (pc := 20) X dX2_join_20 (by cases hF; rfl)
set_option maxRecDepth 100000 in
set_option maxHeartbeats 4000000 in
theorem kX2_join (l : Launch) (G : gG) {ex : gEx} (hZ : ∀ s : State, G.2.2.2 s → kC ex (gA G zC.1) s) (hG : gOK G zC.1) (hT : G.2.2.1.map (fun q => q.2) = zC.2.1) (σ : gS) (p1 : Int32) (p2 : Int32) (out : gS) (hF : fX2_join σ p1 p2 = some out) : gCv l yX2_join wsX2_join rmX2_join G zC [.ref (G.2.1 137), .int p1, .int p2] σ out :=
  gEnter (by decide) rfl ⟨rfl, rfl⟩ hG hT (Nat.le_of_ble_eq_true rfl) rfl (fun M X hl => wX2_join X hZ σ p1 p2 hF)
noncomputable def bX2_joinAll_147 (σ : gS) (rec147 : Int32 → gS → Option (gS)) (a2 : Int32) (σ1 : gS) : Option (gS) :=
  gd (gb 2 6) <| nm (σ1.1 3 ((2 : Int32).toNatClampNeg)) fun v12 => (if v12 ≤ a2 then some σ1 else bd (fX5_isFixed_47 σ1 a2) fun r15 => (if r15 = 0 then nm (a2 + 1 : Int32) fun x17 => rec147 x17 σ1 else gd (gb (12 + a2) 32) <| nm (σ1.1 138 (12 + a2).toNatClampNeg) fun v18 => gd (gb v18 32) <| nm (gsI σ1 139 v18.toNatClampNeg 1) fun σ19 => nm (a2 + 1 : Int32) fun x20 => rec147 x20 σ19))
noncomputable def bX2_joinAll_88 (σ : gS) (rec88 : Int32 → gS → Option (gS)) (a2 : Int32) (σ1 : gS) : Option (gS) :=
  gd (gb 1 6) <| nm (σ1.1 3 ((1 : Int32).toNatClampNeg)) fun v7 => (if v7 ≤ a2 then bd (fJ7_fill_53178 σ1 139 0) fun σ10 => nm (0 : Int32) fun x11 => lpc (S := Int32 × gS) K9 (fun rec s => bX2_joinAll_147 σ10 (fun a2 σ1 => rec (a2, σ1)) s.1 s.2) (x11, σ10) else gd (gb a2 12) <| nm (σ1.1 20 a2.toNatClampNeg) fun v21 => (if v21 ≤ 0 then nm (a2 + 1 : Int32) fun x23 => rec88 x23 σ1 else gd (gb a2 12) <| nm (σ1.1 8 a2.toNatClampNeg) fun v24 => bd (fX2_firstCentre σ1 v24) fun r26 => bd (fX2_join σ1 r26 a2) fun σ28 => nm (a2 + 1 : Int32) fun x29 => rec88 x29 σ28))
noncomputable def bX2_joinAll_26 (σ : gS) (c26_1 : Int32) (rec26 : Int32 → gS → Option (gS)) (a2 : Int32) (σ1 : gS) : Option (gS) :=
  gd (gb 3 6) <| nm (σ1.1 3 ((3 : Int32).toNatClampNeg)) fun v4 => (if v4 ≤ a2 then nm (0 : Int32) fun x6 => lpc (S := Int32 × gS) K9 (fun rec s => bX2_joinAll_88 σ1 (fun a2 σ1 => rec (a2, σ1)) s.1 s.2) (x6, σ1) else if a2 = c26_1 then nm (a2 + 1 : Int32) fun x31 => rec26 x31 σ1 else bd (fX5_uses_47 σ1 a2) fun r33 => (if r33 = 0 then nm (a2 + 1 : Int32) fun x35 => rec26 x35 σ1 else gd (gb a2 60) <| nm (σ1.1 10 a2.toNatClampNeg) fun v36 => gd (gb a2 60) <| nm (σ1.1 11 a2.toNatClampNeg) fun v37 => bd (fX2_join σ1 v36 (12 + v37)) fun σ39 => nm (a2 + 1 : Int32) fun x40 => rec26 x40 σ39))
noncomputable def bX2_joinAll_2 (σ : gS) (c2_1 : Int32) (rec2 : Int32 → gS → Option (gS)) (a2 : Int32) (σ1 : gS) : Option (gS) :=
  if 32 ≤ a2 then nm (0 : Int32) fun x3 => lpc (S := Int32 × gS) K9 (fun rec s => bX2_joinAll_26 σ1 c2_1 (fun a2 σ1 => rec (a2, σ1)) s.1 s.2) (x3, σ1) else gd (gb a2 32) <| nm (gsI σ1 138 a2.toNatClampNeg a2) fun σ41 => nm (a2 + 1 : Int32) fun x42 => rec2 x42 σ41
noncomputable def fX2_joinAll (σ : gS) (p1 : Int32) : Option (gS) :=
  nm (0 : Int32) fun x1 => lpc (S := Int32 × gS) K9 (fun rec s => bX2_joinAll_2 σ p1 (fun a2 σ1 => rec (a2, σ1)) s.1 s.2) (x1, σ)
noncomputable abbrev rmX2_joinAll : Room := { frames := 1, cells := 0, slots := 0, locals := 24 }
set_option maxRecDepth 100000 in
set_option maxHeartbeats 4000000 in
theorem wbX2_joinAll_147 {M : gM} {G : gG} {out : gS} (X : gX M G zC cX2_joinAll RX2 3 wsX2_joinAll rmX2_joinAll none) {ex : gEx} (hZ : ∀ s : State, G.2.2.2 s → kC ex (gA G zC.1) s) (σ : gS) (rec147 : Int32 → gS → Option (gS)) (ih147 : ∀ (a2 : Int32) (σ1 : gS), rec147 a2 σ1 = some out → WW M (gQv M G zC out) G zC 3 σ1 147 [(0, .ref (G.2.1 137)), (2, .int a2)] []) (a2 : Int32) (σ1 : gS) (hF : bX2_joinAll_147 σ rec147 a2 σ1 = some out) : WW M (gQv M G zC out) G zC 3 σ1 147 [(0, .ref (G.2.1 137)), (2, .int a2)] [] := by
  unfold bX2_joinAll_147 at hF
  refine ww_iload_n (pc := 147) X (j := 1) dX2_joinAll_147 rfl rfl ?_
  refine ww_aload_n (pc := 148) X (j := 0) dX2_joinAll_148 rfl rfl ?_
  refine ww_get (pc := 149) X (ref := "PictureBlock$Net") (T := TX2) (j := 0) dX2_joinAll_149 inX2_joinAll_RX2 shzC_137 clzC_2 (by decide) rfl (List.mem_of_getElem? (i := 2) rfl) rfl ?_
  refine ww_get (pc := 152) X (ref := "PictureBlock$Told") (T := TX8) (j := 0) dX2_joinAll_152 inX2_joinAll_RX8 shzC_2 clzC_8 (by decide) rfl (List.mem_of_getElem? (i := 3) rfl) rfl ?_
  refine ww_iconst (pc := 155) X (v := 2) dX2_joinAll_155 (by decide) ?_
  refine ww_iald (pc := 156) X dX2_joinAll_156 shzC_3 rfl hF (fun v12 ev12 bv12 hF => ?_)
  refine ww_icmp_ge (pc := 157) (tgt := 192) X dX2_joinAll_157 (by decide) hF (fun h13 hF => ?_) (fun h13 hF => ?_)
  · exact ww_vret (pc := 192) X dX2_joinAll_192 (by cases hF; rfl)
  · refine ww_aload_n (pc := 160) X (j := 0) dX2_joinAll_160 rfl rfl ?_
    refine ww_get (pc := 161) X (ref := "PictureBlock$Net") (T := TX2) (j := 1) dX2_joinAll_161 inX2_joinAll_RX2 shzC_137 clzC_2 (by decide) rfl (List.mem_of_getElem? (i := 4) rfl) rfl ?_
    refine ww_iload_n (pc := 164) X (j := 1) dX2_joinAll_164 rfl rfl ?_
    obtain ⟨r15, h14, hF⟩ := bd_some hF
    refine ww_callVi (pc := 165) X (As := [.int a2]) (rest := []) dX2_joinAll_165 (kX5_isFixed_47 (mL M) G hZ X.2.2.2.2.2.2.1 X.2.2.2.2.2.2.2.1 σ1 a2 r15 h14) rfl shzC_47 clzC_5 gX2_joinAll_X5_isFixed hyX5_isFixed ⟨rfl, rfl⟩ ⟨Nat.le_of_ble_eq_true rfl, Nat.le_of_ble_eq_true rfl⟩ rfl rfl (Nat.le_of_ble_eq_true rfl) ?_
    refine ww_if_eq (pc := 168) (tgt := 186) X dX2_joinAll_168 (by decide) hF (fun h16 hF => ?_) (fun h16 hF => ?_)
    · refine ww_iinc (pc := 186) X (j := 1) (v := 1) (lv' := [(0, .ref (G.2.1 137))]) dX2_joinAll_186 rfl rfl (by decide) rfl hF (fun x17 ex17 hF => ?_)
      refine ww_goto (pc := 189) X (tgt := 147) dX2_joinAll_189 (by decide) ?_
      exact ww_sub [1, 0] rfl (ih147 x17 σ1 hF)
    · refine ww_aload_n (pc := 171) X (j := 0) dX2_joinAll_171 rfl rfl ?_
      refine ww_get (pc := 172) X (ref := "PictureBlock$Net") (T := TX2) (j := 3) dX2_joinAll_172 inX2_joinAll_RX2 shzC_137 clzC_2 (by decide) rfl (List.mem_of_getElem? (i := 9) rfl) rfl ?_
      refine ww_aload_n (pc := 175) X (j := 0) dX2_joinAll_175 rfl rfl ?_
      refine ww_get (pc := 176) X (ref := "PictureBlock$Net") (T := TX2) (j := 2) dX2_joinAll_176 inX2_joinAll_RX2 shzC_137 clzC_2 (by decide) rfl (List.mem_of_getElem? (i := 1) rfl) rfl ?_
      refine ww_bipush (pc := 179) X (v := 12) dX2_joinAll_179 (by decide) ?_
      refine ww_iload_n (pc := 181) X (j := 1) dX2_joinAll_181 rfl rfl ?_
      refine ww_iadd (pc := 182) X dX2_joinAll_182 ?_
      refine ww_iald (pc := 183) X dX2_joinAll_183 shzC_138 rfl hF (fun v18 ev18 bv18 hF => ?_)
      refine ww_iconst (pc := 184) X (v := 1) dX2_joinAll_184 (by decide) ?_
      refine ww_iast (pc := 185) X dX2_joinAll_185 shzC_139 rfl hF (fun σ19 eσ19 bσ19 hF => ?_)
      refine ww_iinc (pc := 186) X (j := 1) (v := 1) (lv' := [(0, .ref (G.2.1 137))]) dX2_joinAll_186 rfl rfl (by decide) rfl hF (fun x20 ex20 hF => ?_)
      refine ww_goto (pc := 189) X (tgt := 147) dX2_joinAll_189 (by decide) ?_
      exact ww_sub [1, 0] rfl (ih147 x20 σ19 hF)
set_option maxRecDepth 100000 in
set_option maxHeartbeats 4000000 in
theorem wbX2_joinAll_88 {M : gM} {G : gG} {out : gS} (X : gX M G zC cX2_joinAll RX2 3 wsX2_joinAll rmX2_joinAll none) {ex : gEx} (hZ : ∀ s : State, G.2.2.2 s → kC ex (gA G zC.1) s) (σ : gS) (rec88 : Int32 → gS → Option (gS)) (ih88 : ∀ (a2 : Int32) (σ1 : gS), rec88 a2 σ1 = some out → WW M (gQv M G zC out) G zC 3 σ1 88 [(0, .ref (G.2.1 137)), (2, .int a2)] []) (a2 : Int32) (σ1 : gS) (hF : bX2_joinAll_88 σ rec88 a2 σ1 = some out) : WW M (gQv M G zC out) G zC 3 σ1 88 [(0, .ref (G.2.1 137)), (2, .int a2)] [] := by
  unfold bX2_joinAll_88 at hF
  refine ww_iload_n (pc := 88) X (j := 1) dX2_joinAll_88 rfl rfl ?_
  refine ww_aload_n (pc := 89) X (j := 0) dX2_joinAll_89 rfl rfl ?_
  refine ww_get (pc := 90) X (ref := "PictureBlock$Net") (T := TX2) (j := 0) dX2_joinAll_90 inX2_joinAll_RX2 shzC_137 clzC_2 (by decide) rfl (List.mem_of_getElem? (i := 2) rfl) rfl ?_
  refine ww_get (pc := 93) X (ref := "PictureBlock$Told") (T := TX8) (j := 0) dX2_joinAll_93 inX2_joinAll_RX8 shzC_2 clzC_8 (by decide) rfl (List.mem_of_getElem? (i := 3) rfl) rfl ?_
  refine ww_iconst (pc := 96) X (v := 1) dX2_joinAll_96 (by decide) ?_
  refine ww_iald (pc := 97) X dX2_joinAll_97 shzC_3 rfl hF (fun v7 ev7 bv7 hF => ?_)
  refine ww_icmp_ge (pc := 98) (tgt := 137) X dX2_joinAll_98 (by decide) hF (fun h8 hF => ?_) (fun h8 hF => ?_)
  · refine ww_aload_n (pc := 137) X (j := 0) dX2_joinAll_137 rfl rfl ?_
    refine ww_get (pc := 138) X (ref := "PictureBlock$Net") (T := TX2) (j := 3) dX2_joinAll_138 inX2_joinAll_RX2 shzC_137 clzC_2 (by decide) rfl (List.mem_of_getElem? (i := 9) rfl) rfl ?_
    refine ww_iconst (pc := 141) X (v := 0) dX2_joinAll_141 (by decide) ?_
    obtain ⟨σ10, h9, hF⟩ := bd_some hF
    refine ww_callSv (pc := 142) X (As := [.ref (G.2.1 139), .int 0]) (rest := []) dX2_joinAll_142 (kJ7_fill_53178 (mL M) G hZ X.2.2.2.2.2.2.1 X.2.2.2.2.2.2.2.1 σ1 139 0 σ10 h9) rfl gX2_joinAll_J7_fill_53178 hyJ7_fill_53178 ⟨rfl, rfl⟩ ⟨Nat.le_of_ble_eq_true rfl, Nat.le_of_ble_eq_true rfl⟩ rfl rfl (Nat.le_of_ble_eq_true rfl) ?_
    refine ww_iconst (pc := 145) X (v := 0) dX2_joinAll_145 (by decide) ?_
    refine ww_istore_n (pc := 146) X (lv' := [(0, .ref (G.2.1 137))]) dX2_joinAll_146 rfl (by decide) rfl hF (fun x11 ex11 hF => ?_)
    exact ww_sub [1, 0] rfl (lpc_ind (P := (fun (s : Int32 × gS) => WW M (gQv M G zC out) G zC 3 s.2 147 [(0, .ref (G.2.1 137)), (2, .int s.1)] [])) (fun rec s ih hF => wbX2_joinAll_147 X hZ σ10 (fun a2 σ1 => rec (a2, σ1)) (fun a2 σ1 h => ih (a2, σ1) h) s.1 s.2 hF) K9 (x11, σ10) hF)
  · refine ww_aload_n (pc := 101) X (j := 0) dX2_joinAll_101 rfl rfl ?_
    refine ww_get (pc := 102) X (ref := "PictureBlock$Net") (T := TX2) (j := 0) dX2_joinAll_102 inX2_joinAll_RX2 shzC_137 clzC_2 (by decide) rfl (List.mem_of_getElem? (i := 2) rfl) rfl ?_
    refine ww_get (pc := 105) X (ref := "PictureBlock$Told") (T := TX8) (j := 10) dX2_joinAll_105 inX2_joinAll_RX8 shzC_2 clzC_8 (by decide) rfl (List.mem_of_getElem? (i := 7) rfl) rfl ?_
    refine ww_iload_n (pc := 108) X (j := 1) dX2_joinAll_108 rfl rfl ?_
    refine ww_iald (pc := 109) X dX2_joinAll_109 shzC_20 rfl hF (fun v21 ev21 bv21 hF => ?_)
    refine ww_if_le (pc := 110) (tgt := 131) X dX2_joinAll_110 (by decide) hF (fun h22 hF => ?_) (fun h22 hF => ?_)
    · refine ww_iinc (pc := 131) X (j := 1) (v := 1) (lv' := [(0, .ref (G.2.1 137))]) dX2_joinAll_131 rfl rfl (by decide) rfl hF (fun x23 ex23 hF => ?_)
      refine ww_goto (pc := 134) X (tgt := 88) dX2_joinAll_134 (by decide) ?_
      exact ww_sub [1, 0] rfl (ih88 x23 σ1 hF)
    · refine ww_aload_n (pc := 113) X (j := 0) dX2_joinAll_113 rfl rfl ?_
      refine ww_aload_n (pc := 114) X (j := 0) dX2_joinAll_114 rfl rfl ?_
      refine ww_aload_n (pc := 115) X (j := 0) dX2_joinAll_115 rfl rfl ?_
      refine ww_get (pc := 116) X (ref := "PictureBlock$Net") (T := TX2) (j := 0) dX2_joinAll_116 inX2_joinAll_RX2 shzC_137 clzC_2 (by decide) rfl (List.mem_of_getElem? (i := 2) rfl) rfl ?_
      refine ww_get (pc := 119) X (ref := "PictureBlock$Told") (T := TX8) (j := 2) dX2_joinAll_119 inX2_joinAll_RX8 shzC_2 clzC_8 (by decide) rfl (List.mem_of_getElem? (i := 8) rfl) rfl ?_
      refine ww_iload_n (pc := 122) X (j := 1) dX2_joinAll_122 rfl rfl ?_
      refine ww_iald (pc := 123) X dX2_joinAll_123 shzC_8 rfl hF (fun v24 ev24 bv24 hF => ?_)
      obtain ⟨r26, h25, hF⟩ := bd_some hF
      refine ww_callVi (pc := 124) X (As := [.int v24]) (rest := [.ref (G.2.1 137)]) dX2_joinAll_124 (kX2_firstCentre (mL M) G hZ X.2.2.2.2.2.2.1 X.2.2.2.2.2.2.2.1 σ1 v24 r26 h25) rfl shzC_137 clzC_2 gX2_joinAll_X2_firstCentre hyX2_firstCentre ⟨rfl, rfl⟩ ⟨Nat.le_of_ble_eq_true rfl, Nat.le_of_ble_eq_true rfl⟩ rfl rfl (Nat.le_of_ble_eq_true rfl) ?_
      refine ww_iload_n (pc := 127) X (j := 1) dX2_joinAll_127 rfl rfl ?_
      obtain ⟨σ28, h27, hF⟩ := bd_some hF
      refine ww_callVv (pc := 128) X (As := [.int r26, .int a2]) (rest := []) dX2_joinAll_128 (kX2_join (mL M) G hZ X.2.2.2.2.2.2.1 X.2.2.2.2.2.2.2.1 σ1 r26 a2 σ28 h27) rfl shzC_137 clzC_2 gX2_joinAll_X2_join hyX2_join ⟨rfl, rfl⟩ ⟨Nat.le_of_ble_eq_true rfl, Nat.le_of_ble_eq_true rfl⟩ rfl rfl (Nat.le_of_ble_eq_true rfl) ?_
      refine ww_iinc (pc := 131) X (j := 1) (v := 1) (lv' := [(0, .ref (G.2.1 137))]) dX2_joinAll_131 rfl rfl (by decide) rfl hF (fun x29 ex29 hF => ?_)
      refine ww_goto (pc := 134) X (tgt := 88) dX2_joinAll_134 (by decide) ?_
      exact ww_sub [1, 0] rfl (ih88 x29 σ28 hF)
set_option maxRecDepth 100000 in
set_option maxHeartbeats 4000000 in
theorem wbX2_joinAll_26 {M : gM} {G : gG} {out : gS} (X : gX M G zC cX2_joinAll RX2 3 wsX2_joinAll rmX2_joinAll none) {ex : gEx} (hZ : ∀ s : State, G.2.2.2 s → kC ex (gA G zC.1) s) (σ : gS) (c26_1 : Int32) (rec26 : Int32 → gS → Option (gS)) (ih26 : ∀ (a2 : Int32) (σ1 : gS), rec26 a2 σ1 = some out → WW M (gQv M G zC out) G zC 3 σ1 26 [(0, .ref (G.2.1 137)), (1, .int c26_1), (2, .int a2)] []) (a2 : Int32) (σ1 : gS) (hF : bX2_joinAll_26 σ c26_1 rec26 a2 σ1 = some out) : WW M (gQv M G zC out) G zC 3 σ1 26 [(0, .ref (G.2.1 137)), (1, .int c26_1), (2, .int a2)] [] := by
  unfold bX2_joinAll_26 at hF
  refine ww_iload_n (pc := 26) X (j := 2) dX2_joinAll_26 rfl rfl ?_
  refine ww_aload_n (pc := 27) X (j := 0) dX2_joinAll_27 rfl rfl ?_
  refine ww_get (pc := 28) X (ref := "PictureBlock$Net") (T := TX2) (j := 0) dX2_joinAll_28 inX2_joinAll_RX2 shzC_137 clzC_2 (by decide) rfl (List.mem_of_getElem? (i := 2) rfl) rfl ?_
  refine ww_get (pc := 31) X (ref := "PictureBlock$Told") (T := TX8) (j := 0) dX2_joinAll_31 inX2_joinAll_RX8 shzC_2 clzC_8 (by decide) rfl (List.mem_of_getElem? (i := 3) rfl) rfl ?_
  refine ww_iconst (pc := 34) X (v := 3) dX2_joinAll_34 (by decide) ?_
  refine ww_iald (pc := 35) X dX2_joinAll_35 shzC_3 rfl hF (fun v4 ev4 bv4 hF => ?_)
  refine ww_icmp_ge (pc := 36) (tgt := 86) X dX2_joinAll_36 (by decide) hF (fun h5 hF => ?_) (fun h5 hF => ?_)
  · refine ww_iconst (pc := 86) X (v := 0) dX2_joinAll_86 (by decide) ?_
    refine ww_istore_n (pc := 87) X (lv' := [(0, .ref (G.2.1 137)), (1, .int c26_1)]) dX2_joinAll_87 rfl (by decide) rfl hF (fun x6 ex6 hF => ?_)
    exact ww_sub [1, 0] rfl (lpc_ind (P := (fun (s : Int32 × gS) => WW M (gQv M G zC out) G zC 3 s.2 88 [(0, .ref (G.2.1 137)), (2, .int s.1)] [])) (fun rec s ih hF => wbX2_joinAll_88 X hZ σ1 (fun a2 σ1 => rec (a2, σ1)) (fun a2 σ1 h => ih (a2, σ1) h) s.1 s.2 hF) K9 (x6, σ1) hF)
  · refine ww_iload_n (pc := 39) X (j := 2) dX2_joinAll_39 rfl rfl ?_
    refine ww_iload_n (pc := 40) X (j := 1) dX2_joinAll_40 rfl rfl ?_
    refine ww_icmp_eq (pc := 41) (tgt := 80) X dX2_joinAll_41 (by decide) hF (fun h30 hF => ?_) (fun h30 hF => ?_)
    · refine ww_iinc (pc := 80) X (j := 2) (v := 1) (lv' := [(0, .ref (G.2.1 137)), (1, .int c26_1)]) dX2_joinAll_80 rfl rfl (by decide) rfl hF (fun x31 ex31 hF => ?_)
      refine ww_goto (pc := 83) X (tgt := 26) dX2_joinAll_83 (by decide) ?_
      exact ww_sub [1, 2, 0] rfl (ih26 x31 σ1 hF)
    · refine ww_aload_n (pc := 44) X (j := 0) dX2_joinAll_44 rfl rfl ?_
      refine ww_get (pc := 45) X (ref := "PictureBlock$Net") (T := TX2) (j := 1) dX2_joinAll_45 inX2_joinAll_RX2 shzC_137 clzC_2 (by decide) rfl (List.mem_of_getElem? (i := 4) rfl) rfl ?_
      refine ww_iload_n (pc := 48) X (j := 2) dX2_joinAll_48 rfl rfl ?_
      obtain ⟨r33, h32, hF⟩ := bd_some hF
      refine ww_callVi (pc := 49) X (As := [.int a2]) (rest := []) dX2_joinAll_49 (kX5_uses_47 (mL M) G hZ X.2.2.2.2.2.2.1 X.2.2.2.2.2.2.2.1 σ1 a2 r33 h32) rfl shzC_47 clzC_5 gX2_joinAll_X5_uses hyX5_uses ⟨rfl, rfl⟩ ⟨Nat.le_of_ble_eq_true rfl, Nat.le_of_ble_eq_true rfl⟩ rfl rfl (Nat.le_of_ble_eq_true rfl) ?_
      refine ww_if_eq (pc := 52) (tgt := 80) X dX2_joinAll_52 (by decide) hF (fun h34 hF => ?_) (fun h34 hF => ?_)
      · refine ww_iinc (pc := 80) X (j := 2) (v := 1) (lv' := [(0, .ref (G.2.1 137)), (1, .int c26_1)]) dX2_joinAll_80 rfl rfl (by decide) rfl hF (fun x35 ex35 hF => ?_)
        refine ww_goto (pc := 83) X (tgt := 26) dX2_joinAll_83 (by decide) ?_
        exact ww_sub [1, 2, 0] rfl (ih26 x35 σ1 hF)
      · refine ww_aload_n (pc := 55) X (j := 0) dX2_joinAll_55 rfl rfl ?_
        refine ww_aload_n (pc := 56) X (j := 0) dX2_joinAll_56 rfl rfl ?_
        refine ww_get (pc := 57) X (ref := "PictureBlock$Net") (T := TX2) (j := 0) dX2_joinAll_57 inX2_joinAll_RX2 shzC_137 clzC_2 (by decide) rfl (List.mem_of_getElem? (i := 2) rfl) rfl ?_
        refine ww_get (pc := 60) X (ref := "PictureBlock$Told") (T := TX8) (j := 4) dX2_joinAll_60 inX2_joinAll_RX8 shzC_2 clzC_8 (by decide) rfl (List.mem_of_getElem? (i := 5) rfl) rfl ?_
        refine ww_iload_n (pc := 63) X (j := 2) dX2_joinAll_63 rfl rfl ?_
        refine ww_iald (pc := 64) X dX2_joinAll_64 shzC_10 rfl hF (fun v36 ev36 bv36 hF => ?_)
        refine ww_bipush (pc := 65) X (v := 12) dX2_joinAll_65 (by decide) ?_
        refine ww_aload_n (pc := 67) X (j := 0) dX2_joinAll_67 rfl rfl ?_
        refine ww_get (pc := 68) X (ref := "PictureBlock$Net") (T := TX2) (j := 0) dX2_joinAll_68 inX2_joinAll_RX2 shzC_137 clzC_2 (by decide) rfl (List.mem_of_getElem? (i := 2) rfl) rfl ?_
        refine ww_get (pc := 71) X (ref := "PictureBlock$Told") (T := TX8) (j := 5) dX2_joinAll_71 inX2_joinAll_RX8 shzC_2 clzC_8 (by decide) rfl (List.mem_of_getElem? (i := 6) rfl) rfl ?_
        refine ww_iload_n (pc := 74) X (j := 2) dX2_joinAll_74 rfl rfl ?_
        refine ww_iald (pc := 75) X dX2_joinAll_75 shzC_11 rfl hF (fun v37 ev37 bv37 hF => ?_)
        refine ww_iadd (pc := 76) X dX2_joinAll_76 ?_
        obtain ⟨σ39, h38, hF⟩ := bd_some hF
        refine ww_callVv (pc := 77) X (As := [.int v36, .int (12 + v37)]) (rest := []) dX2_joinAll_77 (kX2_join (mL M) G hZ X.2.2.2.2.2.2.1 X.2.2.2.2.2.2.2.1 σ1 v36 (12 + v37) σ39 h38) rfl shzC_137 clzC_2 gX2_joinAll_X2_join hyX2_join ⟨rfl, rfl⟩ ⟨Nat.le_of_ble_eq_true rfl, Nat.le_of_ble_eq_true rfl⟩ rfl rfl (Nat.le_of_ble_eq_true rfl) ?_
        refine ww_iinc (pc := 80) X (j := 2) (v := 1) (lv' := [(0, .ref (G.2.1 137)), (1, .int c26_1)]) dX2_joinAll_80 rfl rfl (by decide) rfl hF (fun x40 ex40 hF => ?_)
        refine ww_goto (pc := 83) X (tgt := 26) dX2_joinAll_83 (by decide) ?_
        exact ww_sub [1, 2, 0] rfl (ih26 x40 σ39 hF)
set_option maxRecDepth 100000 in
set_option maxHeartbeats 4000000 in
theorem wbX2_joinAll_2 {M : gM} {G : gG} {out : gS} (X : gX M G zC cX2_joinAll RX2 3 wsX2_joinAll rmX2_joinAll none) {ex : gEx} (hZ : ∀ s : State, G.2.2.2 s → kC ex (gA G zC.1) s) (σ : gS) (c2_1 : Int32) (rec2 : Int32 → gS → Option (gS)) (ih2 : ∀ (a2 : Int32) (σ1 : gS), rec2 a2 σ1 = some out → WW M (gQv M G zC out) G zC 3 σ1 2 [(0, .ref (G.2.1 137)), (1, .int c2_1), (2, .int a2)] []) (a2 : Int32) (σ1 : gS) (hF : bX2_joinAll_2 σ c2_1 rec2 a2 σ1 = some out) : WW M (gQv M G zC out) G zC 3 σ1 2 [(0, .ref (G.2.1 137)), (1, .int c2_1), (2, .int a2)] [] := by
  unfold bX2_joinAll_2 at hF
  refine ww_iload_n (pc := 2) X (j := 2) dX2_joinAll_2 rfl rfl ?_
  refine ww_aload_n (pc := 3) X (j := 0) dX2_joinAll_3 rfl rfl ?_
  refine ww_get (pc := 4) X (ref := "PictureBlock$Net") (T := TX2) (j := 2) dX2_joinAll_4 inX2_joinAll_RX2 shzC_137 clzC_2 (by decide) rfl (List.mem_of_getElem? (i := 1) rfl) rfl ?_
  refine ww_alen (pc := 7) X (v := 32) (by decide) dX2_joinAll_7 shzC_138 rfl (by decide) ?_
  refine ww_icmp_ge (pc := 8) (tgt := 24) X dX2_joinAll_8 (by decide) hF (fun h2 hF => ?_) (fun h2 hF => ?_)
  · refine ww_iconst (pc := 24) X (v := 0) dX2_joinAll_24 (by decide) ?_
    refine ww_istore_n (pc := 25) X (lv' := [(0, .ref (G.2.1 137)), (1, .int c2_1)]) dX2_joinAll_25 rfl (by decide) rfl hF (fun x3 ex3 hF => ?_)
    exact ww_sub [1, 2, 0] rfl (lpc_ind (P := (fun (s : Int32 × gS) => WW M (gQv M G zC out) G zC 3 s.2 26 [(0, .ref (G.2.1 137)), (1, .int c2_1), (2, .int s.1)] [])) (fun rec s ih hF => wbX2_joinAll_26 X hZ σ1 c2_1 (fun a2 σ1 => rec (a2, σ1)) (fun a2 σ1 h => ih (a2, σ1) h) s.1 s.2 hF) K9 (x3, σ1) hF)
  · refine ww_aload_n (pc := 11) X (j := 0) dX2_joinAll_11 rfl rfl ?_
    refine ww_get (pc := 12) X (ref := "PictureBlock$Net") (T := TX2) (j := 2) dX2_joinAll_12 inX2_joinAll_RX2 shzC_137 clzC_2 (by decide) rfl (List.mem_of_getElem? (i := 1) rfl) rfl ?_
    refine ww_iload_n (pc := 15) X (j := 2) dX2_joinAll_15 rfl rfl ?_
    refine ww_iload_n (pc := 16) X (j := 2) dX2_joinAll_16 rfl rfl ?_
    refine ww_iast (pc := 17) X dX2_joinAll_17 shzC_138 rfl hF (fun σ41 eσ41 bσ41 hF => ?_)
    refine ww_iinc (pc := 18) X (j := 2) (v := 1) (lv' := [(0, .ref (G.2.1 137)), (1, .int c2_1)]) dX2_joinAll_18 rfl rfl (by decide) rfl hF (fun x42 ex42 hF => ?_)
    refine ww_goto (pc := 21) X (tgt := 2) dX2_joinAll_21 (by decide) ?_
    exact ww_sub [1, 2, 0] rfl (ih2 x42 σ41 hF)
set_option maxRecDepth 100000 in
set_option maxHeartbeats 4000000 in
theorem wX2_joinAll {M : gM} {G : gG} {out : gS} (X : gX M G zC cX2_joinAll RX2 3 wsX2_joinAll rmX2_joinAll none) {ex : gEx} (hZ : ∀ s : State, G.2.2.2 s → kC ex (gA G zC.1) s) (σ : gS) (p1 : Int32) (hF : fX2_joinAll σ p1 = some out) : WW M (gQv M G zC out) G zC 3 σ 0 [(0, .ref (G.2.1 137)), (1, .int p1)] [] := by
  unfold fX2_joinAll at hF
  refine ww_iconst (pc := 0) X (v := 0) dX2_joinAll_0 (by decide) ?_
  refine ww_istore_n (pc := 1) X (lv' := [(0, .ref (G.2.1 137)), (1, .int p1)]) dX2_joinAll_1 rfl (by decide) rfl hF (fun x1 ex1 hF => ?_)
  exact ww_sub [1, 2, 0] rfl (lpc_ind (P := (fun (s : Int32 × gS) => WW M (gQv M G zC out) G zC 3 s.2 2 [(0, .ref (G.2.1 137)), (1, .int p1), (2, .int s.1)] [])) (fun rec s ih hF => wbX2_joinAll_2 X hZ σ p1 (fun a2 σ1 => rec (a2, σ1)) (fun a2 σ1 h => ih (a2, σ1) h) s.1 s.2 hF) K9 (x1, σ) hF)
set_option maxRecDepth 100000 in
set_option maxHeartbeats 4000000 in
theorem kX2_joinAll (l : Launch) (G : gG) {ex : gEx} (hZ : ∀ s : State, G.2.2.2 s → kC ex (gA G zC.1) s) (hG : gOK G zC.1) (hT : G.2.2.1.map (fun q => q.2) = zC.2.1) (σ : gS) (p1 : Int32) (out : gS) (hF : fX2_joinAll σ p1 = some out) : gCv l yX2_joinAll wsX2_joinAll rmX2_joinAll G zC [.ref (G.2.1 137), .int p1] σ out :=
  gEnter (by decide) rfl ⟨rfl, rfl⟩ hG hT (Nat.le_of_ble_eq_true rfl) rfl (fun M X hl => wX2_joinAll X hZ σ p1 hF)
noncomputable def fX2_isLoose (σ : gS) (p1 : Int32) : Option (Int32) :=
  gd (gb p1 32) <| nm (σ.1 138 p1.toNatClampNeg) fun v1 => gd (gb v1 32) <| nm (σ.1 139 v1.toNatClampNeg) fun v2 => (if v2 = 0 then some 1 else some 0)
noncomputable abbrev rmX2_isLoose : Room := { frames := 0, cells := 0, slots := 0, locals := 0 }
set_option maxRecDepth 100000 in
set_option maxHeartbeats 4000000 in
theorem wX2_isLoose {M : gM} {G : gG} {out : Int32} (X : gX M G zC cX2_isLoose RX2 2 wsX2_isLoose rmX2_isLoose (some .boolean)) {ex : gEx} (hZ : ∀ s : State, G.2.2.2 s → kC ex (gA G zC.1) s) (σ : gS) (p1 : Int32) (hF : fX2_isLoose σ p1 = some out) : WW M (gQi M G zC out σ) G zC 2 σ 0 [(0, .ref (G.2.1 137)), (1, .int p1)] [] := by
  unfold fX2_isLoose at hF
  refine ww_aload_n (pc := 0) X (j := 0) dX2_isLoose_0 rfl rfl ?_
  refine ww_get (pc := 1) X (ref := "PictureBlock$Net") (T := TX2) (j := 3) dX2_isLoose_1 inX2_isLoose_RX2 shzC_137 clzC_2 (by decide) rfl (List.mem_of_getElem? (i := 1) rfl) rfl ?_
  refine ww_aload_n (pc := 4) X (j := 0) dX2_isLoose_4 rfl rfl ?_
  refine ww_get (pc := 5) X (ref := "PictureBlock$Net") (T := TX2) (j := 2) dX2_isLoose_5 inX2_isLoose_RX2 shzC_137 clzC_2 (by decide) rfl (List.mem_of_getElem? (i := 2) rfl) rfl ?_
  refine ww_iload_n (pc := 8) X (j := 1) dX2_isLoose_8 rfl rfl ?_
  refine ww_iald (pc := 9) X dX2_isLoose_9 shzC_138 rfl hF (fun v1 ev1 bv1 hF => ?_)
  refine ww_iald (pc := 10) X dX2_isLoose_10 shzC_139 rfl hF (fun v2 ev2 bv2 hF => ?_)
  refine ww_if_ne (pc := 11) (tgt := 18) X dX2_isLoose_11 (by decide) hF (fun h3 hF => ?_) (fun h3 hF => ?_)
  · refine ww_iconst (pc := 18) X (v := 0) dX2_isLoose_18 (by decide) ?_
    exact ww_zret (pc := 19) X dX2_isLoose_19 (by cases hF; rfl) rfl
  · refine ww_iconst (pc := 14) X (v := 1) dX2_isLoose_14 (by decide) ?_
    refine ww_goto (pc := 15) X (tgt := 19) dX2_isLoose_15 (by decide) ?_
    exact ww_zret (pc := 19) X dX2_isLoose_19 (by cases hF; rfl) rfl
set_option maxRecDepth 100000 in
set_option maxHeartbeats 4000000 in
theorem kX2_isLoose (l : Launch) (G : gG) {ex : gEx} (hZ : ∀ s : State, G.2.2.2 s → kC ex (gA G zC.1) s) (hG : gOK G zC.1) (hT : G.2.2.1.map (fun q => q.2) = zC.2.1) (σ : gS) (p1 : Int32) (out : Int32) (hF : fX2_isLoose σ p1 = some out) : gCi l yX2_isLoose wsX2_isLoose rmX2_isLoose G zC [.ref (G.2.1 137), .int p1] σ out σ :=
  gEnter (by decide) rfl ⟨rfl, rfl⟩ hG hT (Nat.le_of_ble_eq_true rfl) rfl (fun M X hl => wX2_isLoose X hZ σ p1 hF)
noncomputable def fX2_isPictureLoose (σ : gS) (p1 : Int32) : Option (Int32 × gS) :=
  bd (fX2_joinAll σ ((-1))) fun σ2 => bd (fX2_isLoose σ2 p1) fun r4 => some (vp_nar .boolean r4, σ2)
noncomputable abbrev rmX2_isPictureLoose : Room := { frames := 2, cells := 0, slots := 0, locals := 46 }
set_option maxRecDepth 100000 in
set_option maxHeartbeats 4000000 in
theorem wX2_isPictureLoose {M : gM} {G : gG} {out : Int32 × gS} (X : gX M G zC cX2_isPictureLoose RX2 2 wsX2_isPictureLoose rmX2_isPictureLoose (some .boolean)) {ex : gEx} (hZ : ∀ s : State, G.2.2.2 s → kC ex (gA G zC.1) s) (σ : gS) (p1 : Int32) (hF : fX2_isPictureLoose σ p1 = some out) : WW M (gQi M G zC out.1 out.2) G zC 2 σ 0 [(0, .ref (G.2.1 137)), (1, .int p1)] [] := by
  unfold fX2_isPictureLoose at hF
  refine ww_aload_n (pc := 0) X (j := 0) dX2_isPictureLoose_0 rfl rfl ?_
  refine ww_iconst (pc := 1) X (v := (-1)) dX2_isPictureLoose_1 (by decide) ?_
  obtain ⟨σ2, h1, hF⟩ := bd_some hF
  refine ww_callVv (pc := 2) X (As := [.int ((-1))]) (rest := []) dX2_isPictureLoose_2 (kX2_joinAll (mL M) G hZ X.2.2.2.2.2.2.1 X.2.2.2.2.2.2.2.1 σ ((-1)) σ2 h1) rfl shzC_137 clzC_2 gX2_isPictureLoose_X2_joinAll hyX2_joinAll ⟨rfl, rfl⟩ ⟨Nat.le_of_ble_eq_true rfl, Nat.le_of_ble_eq_true rfl⟩ rfl rfl (Nat.le_of_ble_eq_true rfl) ?_
  refine ww_aload_n (pc := 5) X (j := 0) dX2_isPictureLoose_5 rfl rfl ?_
  refine ww_iload_n (pc := 6) X (j := 1) dX2_isPictureLoose_6 rfl rfl ?_
  obtain ⟨r4, h3, hF⟩ := bd_some hF
  refine ww_callVi (pc := 7) X (As := [.int p1]) (rest := []) dX2_isPictureLoose_7 (kX2_isLoose (mL M) G hZ X.2.2.2.2.2.2.1 X.2.2.2.2.2.2.2.1 σ2 p1 r4 h3) rfl shzC_137 clzC_2 gX2_isPictureLoose_X2_isLoose hyX2_isLoose ⟨rfl, rfl⟩ ⟨Nat.le_of_ble_eq_true rfl, Nat.le_of_ble_eq_true rfl⟩ rfl rfl (Nat.le_of_ble_eq_true rfl) ?_
  exact ww_zret (pc := 10) X dX2_isPictureLoose_10 (by cases hF; rfl) (by cases hF; rfl)
set_option maxRecDepth 100000 in
set_option maxHeartbeats 4000000 in
theorem kX2_isPictureLoose (l : Launch) (G : gG) {ex : gEx} (hZ : ∀ s : State, G.2.2.2 s → kC ex (gA G zC.1) s) (hG : gOK G zC.1) (hT : G.2.2.1.map (fun q => q.2) = zC.2.1) (σ : gS) (p1 : Int32) (out : Int32 × gS) (hF : fX2_isPictureLoose σ p1 = some out) : gCi l yX2_isPictureLoose wsX2_isPictureLoose rmX2_isPictureLoose G zC [.ref (G.2.1 137), .int p1] σ out.1 out.2 :=
  gEnter (by decide) rfl ⟨rfl, rfl⟩ hG hT (Nat.le_of_ble_eq_true rfl) rfl (fun M X hl => wX2_isPictureLoose X hZ σ p1 hF)
noncomputable def fX9_picture (σ : gS) (p1 : Int32) (p2 : Int32) : Option (Int32 × gS) :=
  bd (fX8_exists_2 σ 1 p1) fun r2 => (if r2 = 0 then some ((-1000000000), σ) else if p2 = 0 then gd (gb p1 12) <| nm (σ.1 8 p1.toNatClampNeg) fun v4 => some (v4, σ) else if p2 = 1 then gd (gb p1 12) <| nm (σ.1 48 p1.toNatClampNeg) fun v6 => some (v6, σ) else if p2 = 2 then gd (gb p1 12) <| nm (σ.1 9 p1.toNatClampNeg) fun v8 => (if v8 = 4 then some (1, σ) else some (0, σ)) else if p2 = 3 then gd (gb 0 2) <| gd (gb p1 12) <| nm (σ.1 50 p1.toNatClampNeg) fun v12 => some (v12, σ) else if p2 = 4 then gd (gb 1 2) <| gd (gb p1 12) <| nm (σ.1 51 p1.toNatClampNeg) fun v15 => some (v15, σ) else if p2 = 5 then bd (fX5_countRows_47 σ 10 p1) fun r18 => some (r18, σ) else if p2 = 6 then bd2 (fX2_isPictureLoose σ p1) fun r21 σ22 => (if r21 = 0 then some (0, σ22) else some (1, σ22)) else if p2 = 7 then gd (gb p1 12) <| nm (σ.1 20 p1.toNatClampNeg) fun v25 => (if v25 ≤ 0 then some (0, σ) else some (1, σ)) else some ((-1000000000), σ))
noncomputable abbrev rmX9_picture : Room := { frames := 3, cells := 0, slots := 0, locals := 67 }
set_option maxRecDepth 100000 in
set_option maxHeartbeats 4000000 in
theorem wX9_picture {M : gM} {G : gG} {out : Int32 × gS} (X : gX M G zC cX9_picture RX9 3 wsX9_picture rmX9_picture (some .int)) {ex : gEx} (hZ : ∀ s : State, G.2.2.2 s → kC ex (gA G zC.1) s) (σ : gS) (p1 : Int32) (p2 : Int32) (hF : fX9_picture σ p1 p2 = some out) : WW M (gQi M G zC out.1 out.2) G zC 3 σ 0 [(0, .ref (G.2.1 0)), (1, .int p1), (2, .int p2)] [] := by
  unfold fX9_picture at hF
  refine ww_aload_n (pc := 0) X (j := 0) dX9_picture_0 rfl rfl ?_
  refine ww_get (pc := 1) X (ref := "PictureBlock") (T := TX9) (j := 2) dX9_picture_1 inX9_picture_RX9 shzC_0 clzC_9 (by decide) rfl (List.mem_of_getElem? (i := 1) rfl) rfl ?_
  refine ww_iconst (pc := 4) X (v := 1) dX9_picture_4 (by decide) ?_
  refine ww_iload_n (pc := 5) X (j := 1) dX9_picture_5 rfl rfl ?_
  obtain ⟨r2, h1, hF⟩ := bd_some hF
  refine ww_callVi (pc := 6) X (As := [.int 1, .int p1]) (rest := []) dX9_picture_6 (kX8_exists_2 (mL M) G hZ X.2.2.2.2.2.2.1 X.2.2.2.2.2.2.2.1 σ 1 p1 r2 h1) rfl shzC_2 clzC_8 gX9_picture_X8_exists hyX8_exists ⟨rfl, rfl⟩ ⟨Nat.le_of_ble_eq_true rfl, Nat.le_of_ble_eq_true rfl⟩ rfl rfl (Nat.le_of_ble_eq_true rfl) ?_
  refine ww_if_ne (pc := 9) (tgt := 15) X dX9_picture_9 (by decide) hF (fun h3 hF => ?_) (fun h3 hF => ?_)
  · refine ww_iload_n (pc := 15) X (j := 2) dX9_picture_15 rfl rfl ?_
    refine ww_case (v := 0) hF (fun h5 hF => ?_) (fun h5 hF => ?_)
    · refine ww_tin (pc := 16) X (off := 48) (tgt := 64) dX9_picture_16 (by decide) (by decide) (by decide) (by decide) ?_
      refine ww_aload_n (pc := 64) X (j := 0) dX9_picture_64 rfl rfl ?_
      refine ww_get (pc := 65) X (ref := "PictureBlock") (T := TX9) (j := 2) dX9_picture_65 inX9_picture_RX9 shzC_0 clzC_9 (by decide) rfl (List.mem_of_getElem? (i := 1) rfl) rfl ?_
      refine ww_get (pc := 68) X (ref := "PictureBlock$Told") (T := TX8) (j := 2) dX9_picture_68 inX9_picture_RX8 shzC_2 clzC_8 (by decide) rfl (List.mem_of_getElem? (i := 3) rfl) rfl ?_
      refine ww_iload_n (pc := 71) X (j := 1) dX9_picture_71 rfl rfl ?_
      refine ww_iald (pc := 72) X dX9_picture_72 shzC_8 rfl hF (fun v4 ev4 bv4 hF => ?_)
      exact ww_iret (pc := 73) X dX9_picture_73 (fst_of hF) (snd_of hF)
    refine ww_case (v := 1) hF (fun h7 hF => ?_) (fun h7 hF => ?_)
    · refine ww_tin (pc := 16) X (off := 58) (tgt := 74) dX9_picture_16 (by decide) (by decide) (by decide) (by decide) ?_
      refine ww_aload_n (pc := 74) X (j := 0) dX9_picture_74 rfl rfl ?_
      refine ww_get (pc := 75) X (ref := "PictureBlock") (T := TX9) (j := 5) dX9_picture_75 inX9_picture_RX9 shzC_0 clzC_9 (by decide) rfl (List.mem_of_getElem? (i := 4) rfl) rfl ?_
      refine ww_get (pc := 78) X (ref := "PictureBlock$Stand") (T := TX5) (j := 2) dX9_picture_78 inX9_picture_RX5 shzC_47 clzC_5 (by decide) rfl (List.mem_of_getElem? (i := 5) rfl) rfl ?_
      refine ww_iload_n (pc := 81) X (j := 1) dX9_picture_81 rfl rfl ?_
      refine ww_iald (pc := 82) X dX9_picture_82 shzC_48 rfl hF (fun v6 ev6 bv6 hF => ?_)
      exact ww_iret (pc := 83) X dX9_picture_83 (fst_of hF) (snd_of hF)
    refine ww_case (v := 2) hF (fun h10 hF => ?_) (fun h10 hF => ?_)
    · refine ww_tin (pc := 16) X (off := 68) (tgt := 84) dX9_picture_16 (by decide) (by decide) (by decide) (by decide) ?_
      refine ww_aload_n (pc := 84) X (j := 0) dX9_picture_84 rfl rfl ?_
      refine ww_get (pc := 85) X (ref := "PictureBlock") (T := TX9) (j := 2) dX9_picture_85 inX9_picture_RX9 shzC_0 clzC_9 (by decide) rfl (List.mem_of_getElem? (i := 1) rfl) rfl ?_
      refine ww_get (pc := 88) X (ref := "PictureBlock$Told") (T := TX8) (j := 3) dX9_picture_88 inX9_picture_RX8 shzC_2 clzC_8 (by decide) rfl (List.mem_of_getElem? (i := 6) rfl) rfl ?_
      refine ww_iload_n (pc := 91) X (j := 1) dX9_picture_91 rfl rfl ?_
      refine ww_iald (pc := 92) X dX9_picture_92 shzC_9 rfl hF (fun v8 ev8 bv8 hF => ?_)
      refine ww_iconst (pc := 93) X (v := 4) dX9_picture_93 (by decide) ?_
      refine ww_icmp_ne (pc := 94) (tgt := 101) X dX9_picture_94 (by decide) hF (fun h9 hF => ?_) (fun h9 hF => ?_)
      · refine ww_iconst (pc := 101) X (v := 0) dX9_picture_101 (by decide) ?_
        exact ww_iret (pc := 102) X dX9_picture_102 (fst_of hF) (snd_of hF)
      · refine ww_iconst (pc := 97) X (v := 1) dX9_picture_97 (by decide) ?_
        refine ww_goto (pc := 98) X (tgt := 102) dX9_picture_98 (by decide) ?_
        exact ww_iret (pc := 102) X dX9_picture_102 (fst_of hF) (snd_of hF)
    refine ww_case (v := 3) hF (fun h13 hF => ?_) (fun h13 hF => ?_)
    · refine ww_tin (pc := 16) X (off := 87) (tgt := 103) dX9_picture_16 (by decide) (by decide) (by decide) (by decide) ?_
      refine ww_aload_n (pc := 103) X (j := 0) dX9_picture_103 rfl rfl ?_
      refine ww_get (pc := 104) X (ref := "PictureBlock") (T := TX9) (j := 5) dX9_picture_104 inX9_picture_RX9 shzC_0 clzC_9 (by decide) rfl (List.mem_of_getElem? (i := 4) rfl) rfl ?_
      refine ww_get (pc := 107) X (ref := "PictureBlock$Stand") (T := TX5) (j := 3) dX9_picture_107 inX9_picture_RX5 shzC_47 clzC_5 (by decide) rfl (List.mem_of_getElem? (i := 7) rfl) rfl ?_
      refine ww_iconst (pc := 110) X (v := 0) dX9_picture_110 (by decide) ?_
      refine ww_aald (pc := 111) X dX9_picture_111 shzC_49 rfl hF (fun h11 hF => ?_)
      show WW M _ G zC _ _ _ _ (.ref (G.2.1 50) :: _)
      refine ww_iload_n (pc := 112) X (j := 1) dX9_picture_112 rfl rfl ?_
      refine ww_iald (pc := 113) X dX9_picture_113 shzC_50 rfl hF (fun v12 ev12 bv12 hF => ?_)
      exact ww_iret (pc := 114) X dX9_picture_114 (fst_of hF) (snd_of hF)
    refine ww_case (v := 4) hF (fun h16 hF => ?_) (fun h16 hF => ?_)
    · refine ww_tin (pc := 16) X (off := 99) (tgt := 115) dX9_picture_16 (by decide) (by decide) (by decide) (by decide) ?_
      refine ww_aload_n (pc := 115) X (j := 0) dX9_picture_115 rfl rfl ?_
      refine ww_get (pc := 116) X (ref := "PictureBlock") (T := TX9) (j := 5) dX9_picture_116 inX9_picture_RX9 shzC_0 clzC_9 (by decide) rfl (List.mem_of_getElem? (i := 4) rfl) rfl ?_
      refine ww_get (pc := 119) X (ref := "PictureBlock$Stand") (T := TX5) (j := 3) dX9_picture_119 inX9_picture_RX5 shzC_47 clzC_5 (by decide) rfl (List.mem_of_getElem? (i := 7) rfl) rfl ?_
      refine ww_iconst (pc := 122) X (v := 1) dX9_picture_122 (by decide) ?_
      refine ww_aald (pc := 123) X dX9_picture_123 shzC_49 rfl hF (fun h14 hF => ?_)
      show WW M _ G zC _ _ _ _ (.ref (G.2.1 51) :: _)
      refine ww_iload_n (pc := 124) X (j := 1) dX9_picture_124 rfl rfl ?_
      refine ww_iald (pc := 125) X dX9_picture_125 shzC_51 rfl hF (fun v15 ev15 bv15 hF => ?_)
      exact ww_iret (pc := 126) X dX9_picture_126 (fst_of hF) (snd_of hF)
    refine ww_case (v := 5) hF (fun h19 hF => ?_) (fun h19 hF => ?_)
    · refine ww_tin (pc := 16) X (off := 111) (tgt := 127) dX9_picture_16 (by decide) (by decide) (by decide) (by decide) ?_
      refine ww_aload_n (pc := 127) X (j := 0) dX9_picture_127 rfl rfl ?_
      refine ww_get (pc := 128) X (ref := "PictureBlock") (T := TX9) (j := 5) dX9_picture_128 inX9_picture_RX9 shzC_0 clzC_9 (by decide) rfl (List.mem_of_getElem? (i := 4) rfl) rfl ?_
      refine ww_aload_n (pc := 131) X (j := 0) dX9_picture_131 rfl rfl ?_
      refine ww_get (pc := 132) X (ref := "PictureBlock") (T := TX9) (j := 2) dX9_picture_132 inX9_picture_RX9 shzC_0 clzC_9 (by decide) rfl (List.mem_of_getElem? (i := 1) rfl) rfl ?_
      refine ww_get (pc := 135) X (ref := "PictureBlock$Told") (T := TX8) (j := 4) dX9_picture_135 inX9_picture_RX8 shzC_2 clzC_8 (by decide) rfl (List.mem_of_getElem? (i := 8) rfl) rfl ?_
      refine ww_iload_n (pc := 138) X (j := 1) dX9_picture_138 rfl rfl ?_
      obtain ⟨r18, h17, hF⟩ := bd_some hF
      refine ww_callVi (pc := 139) X (As := [.ref (G.2.1 10), .int p1]) (rest := []) dX9_picture_139 (kX5_countRows_47 (mL M) G hZ X.2.2.2.2.2.2.1 X.2.2.2.2.2.2.2.1 σ 10 p1 r18 h17) rfl shzC_47 clzC_5 gX9_picture_X5_countRows hyX5_countRows ⟨rfl, rfl⟩ ⟨Nat.le_of_ble_eq_true rfl, Nat.le_of_ble_eq_true rfl⟩ rfl rfl (Nat.le_of_ble_eq_true rfl) ?_
      exact ww_iret (pc := 142) X dX9_picture_142 (fst_of hF) (snd_of hF)
    refine ww_case (v := 6) hF (fun h24 hF => ?_) (fun h24 hF => ?_)
    · refine ww_tin (pc := 16) X (off := 127) (tgt := 143) dX9_picture_16 (by decide) (by decide) (by decide) (by decide) ?_
      refine ww_aload_n (pc := 143) X (j := 0) dX9_picture_143 rfl rfl ?_
      refine ww_get (pc := 144) X (ref := "PictureBlock") (T := TX9) (j := 11) dX9_picture_144 inX9_picture_RX9 shzC_0 clzC_9 (by decide) rfl (List.mem_of_getElem? (i := 9) rfl) rfl ?_
      refine ww_iload_n (pc := 147) X (j := 1) dX9_picture_147 rfl rfl ?_
      obtain ⟨r21, σ22, h20, hF⟩ := bd2_some hF
      refine ww_callVi (pc := 148) X (As := [.int p1]) (rest := []) dX9_picture_148 (kX2_isPictureLoose (mL M) G hZ X.2.2.2.2.2.2.1 X.2.2.2.2.2.2.2.1 σ p1 (r21, σ22) h20) rfl shzC_137 clzC_2 gX9_picture_X2_isPictureLoose hyX2_isPictureLoose ⟨rfl, rfl⟩ ⟨Nat.le_of_ble_eq_true rfl, Nat.le_of_ble_eq_true rfl⟩ rfl rfl (Nat.le_of_ble_eq_true rfl) ?_
      refine ww_if_eq (pc := 151) (tgt := 158) X dX9_picture_151 (by decide) hF (fun h23 hF => ?_) (fun h23 hF => ?_)
      · refine ww_iconst (pc := 158) X (v := 0) dX9_picture_158 (by decide) ?_
        exact ww_iret (pc := 159) X dX9_picture_159 (fst_of hF) (snd_of hF)
      · refine ww_iconst (pc := 154) X (v := 1) dX9_picture_154 (by decide) ?_
        refine ww_goto (pc := 155) X (tgt := 159) dX9_picture_155 (by decide) ?_
        exact ww_iret (pc := 159) X dX9_picture_159 (fst_of hF) (snd_of hF)
    refine ww_case (v := 7) hF (fun h27 hF => ?_) (fun h27 hF => ?_)
    · refine ww_tin (pc := 16) X (off := 144) (tgt := 160) dX9_picture_16 (by decide) (by decide) (by decide) (by decide) ?_
      refine ww_aload_n (pc := 160) X (j := 0) dX9_picture_160 rfl rfl ?_
      refine ww_get (pc := 161) X (ref := "PictureBlock") (T := TX9) (j := 2) dX9_picture_161 inX9_picture_RX9 shzC_0 clzC_9 (by decide) rfl (List.mem_of_getElem? (i := 1) rfl) rfl ?_
      refine ww_get (pc := 164) X (ref := "PictureBlock$Told") (T := TX8) (j := 10) dX9_picture_164 inX9_picture_RX8 shzC_2 clzC_8 (by decide) rfl (List.mem_of_getElem? (i := 10) rfl) rfl ?_
      refine ww_iload_n (pc := 167) X (j := 1) dX9_picture_167 rfl rfl ?_
      refine ww_iald (pc := 168) X dX9_picture_168 shzC_20 rfl hF (fun v25 ev25 bv25 hF => ?_)
      refine ww_if_le (pc := 169) (tgt := 176) X dX9_picture_169 (by decide) hF (fun h26 hF => ?_) (fun h26 hF => ?_)
      · refine ww_iconst (pc := 176) X (v := 0) dX9_picture_176 (by decide) ?_
        exact ww_iret (pc := 177) X dX9_picture_177 (fst_of hF) (snd_of hF)
      · refine ww_iconst (pc := 172) X (v := 1) dX9_picture_172 (by decide) ?_
        refine ww_goto (pc := 173) X (tgt := 177) dX9_picture_173 (by decide) ?_
        exact ww_iret (pc := 177) X dX9_picture_177 (fst_of hF) (snd_of hF)
    refine ww_tout (pc := 16) X (tgt := 178) dX9_picture_16 (sw_out 0 7 (fun i q1 q2 => by rcases (show i = 0 ∨ i = 1 ∨ i = 2 ∨ i = 3 ∨ i = 4 ∨ i = 5 ∨ i = 6 ∨ i = 7 by omega) with rfl | rfl | rfl | rfl | rfl | rfl | rfl | rfl <;> first | exact lv_neT h5 (by decide) | exact lv_neT h7 (by decide) | exact lv_neT h10 (by decide) | exact lv_neT h13 (by decide) | exact lv_neT h16 (by decide) | exact lv_neT h19 (by decide) | exact lv_neT h24 (by decide) | exact lv_neT h27 (by decide))) (by decide) ?_
    refine ww_ldc (pc := 178) X (v := (-1000000000)) (List.mem_of_getElem? (i := 2) rfl) dX9_picture_178 ?_
    exact ww_iret (pc := 180) X dX9_picture_180 (fst_of hF) (snd_of hF)
  · refine ww_ldc (pc := 12) X (v := (-1000000000)) (List.mem_of_getElem? (i := 2) rfl) dX9_picture_12 ?_
    exact ww_iret (pc := 14) X dX9_picture_14 (fst_of hF) (snd_of hF)
set_option maxRecDepth 100000 in
set_option maxHeartbeats 4000000 in
theorem kX9_picture (l : Launch) (G : gG) {ex : gEx} (hZ : ∀ s : State, G.2.2.2 s → kC ex (gA G zC.1) s) (hG : gOK G zC.1) (hT : G.2.2.1.map (fun q => q.2) = zC.2.1) (σ : gS) (p1 : Int32) (p2 : Int32) (out : Int32 × gS) (hF : fX9_picture σ p1 p2 = some out) : gCi l yX9_picture wsX9_picture rmX9_picture G zC [.ref (G.2.1 0), .int p1, .int p2] σ out.1 out.2 :=
  gEnter (by decide) rfl ⟨rfl, rfl⟩ hG hT (Nat.le_of_ble_eq_true rfl) rfl (fun M X hl => wX9_picture X hZ σ p1 p2 hF)
noncomputable def fX2_isPointLoose (σ : gS) (p1 : Int32) : Option (Int32 × gS) :=
  bd (fX2_joinAll σ ((-1))) fun σ2 => bd (fX2_isLoose σ2 (12 + p1)) fun r4 => some (vp_nar .boolean r4, σ2)
noncomputable abbrev rmX2_isPointLoose : Room := { frames := 2, cells := 0, slots := 0, locals := 46 }
set_option maxRecDepth 100000 in
set_option maxHeartbeats 4000000 in
theorem wX2_isPointLoose {M : gM} {G : gG} {out : Int32 × gS} (X : gX M G zC cX2_isPointLoose RX2 2 wsX2_isPointLoose rmX2_isPointLoose (some .boolean)) {ex : gEx} (hZ : ∀ s : State, G.2.2.2 s → kC ex (gA G zC.1) s) (σ : gS) (p1 : Int32) (hF : fX2_isPointLoose σ p1 = some out) : WW M (gQi M G zC out.1 out.2) G zC 2 σ 0 [(0, .ref (G.2.1 137)), (1, .int p1)] [] := by
  unfold fX2_isPointLoose at hF
  refine ww_aload_n (pc := 0) X (j := 0) dX2_isPointLoose_0 rfl rfl ?_
  refine ww_iconst (pc := 1) X (v := (-1)) dX2_isPointLoose_1 (by decide) ?_
  obtain ⟨σ2, h1, hF⟩ := bd_some hF
  refine ww_callVv (pc := 2) X (As := [.int ((-1))]) (rest := []) dX2_isPointLoose_2 (kX2_joinAll (mL M) G hZ X.2.2.2.2.2.2.1 X.2.2.2.2.2.2.2.1 σ ((-1)) σ2 h1) rfl shzC_137 clzC_2 gX2_isPointLoose_X2_joinAll hyX2_joinAll ⟨rfl, rfl⟩ ⟨Nat.le_of_ble_eq_true rfl, Nat.le_of_ble_eq_true rfl⟩ rfl rfl (Nat.le_of_ble_eq_true rfl) ?_
  refine ww_aload_n (pc := 5) X (j := 0) dX2_isPointLoose_5 rfl rfl ?_
  refine ww_bipush (pc := 6) X (v := 12) dX2_isPointLoose_6 (by decide) ?_
  refine ww_iload_n (pc := 8) X (j := 1) dX2_isPointLoose_8 rfl rfl ?_
  refine ww_iadd (pc := 9) X dX2_isPointLoose_9 ?_
  obtain ⟨r4, h3, hF⟩ := bd_some hF
  refine ww_callVi (pc := 10) X (As := [.int (12 + p1)]) (rest := []) dX2_isPointLoose_10 (kX2_isLoose (mL M) G hZ X.2.2.2.2.2.2.1 X.2.2.2.2.2.2.2.1 σ2 (12 + p1) r4 h3) rfl shzC_137 clzC_2 gX2_isPointLoose_X2_isLoose hyX2_isLoose ⟨rfl, rfl⟩ ⟨Nat.le_of_ble_eq_true rfl, Nat.le_of_ble_eq_true rfl⟩ rfl rfl (Nat.le_of_ble_eq_true rfl) ?_
  exact ww_zret (pc := 13) X dX2_isPointLoose_13 (by cases hF; rfl) (by cases hF; rfl)
set_option maxRecDepth 100000 in
set_option maxHeartbeats 4000000 in
theorem kX2_isPointLoose (l : Launch) (G : gG) {ex : gEx} (hZ : ∀ s : State, G.2.2.2 s → kC ex (gA G zC.1) s) (hG : gOK G zC.1) (hT : G.2.2.1.map (fun q => q.2) = zC.2.1) (σ : gS) (p1 : Int32) (out : Int32 × gS) (hF : fX2_isPointLoose σ p1 = some out) : gCi l yX2_isPointLoose wsX2_isPointLoose rmX2_isPointLoose G zC [.ref (G.2.1 137), .int p1] σ out.1 out.2 :=
  gEnter (by decide) rfl ⟨rfl, rfl⟩ hG hT (Nat.le_of_ble_eq_true rfl) rfl (fun M X hl => wX2_isPointLoose X hZ σ p1 hF)
noncomputable def fX9_point (σ : gS) (p1 : Int32) (p2 : Int32) : Option (Int32 × gS) :=
  bd (fX8_exists_2 σ 2 p1) fun r2 => (if r2 = 0 then some ((-1000000000), σ) else if p2 = 0 then gd (gb 0 2) <| gd (gb p1 20) <| nm (σ.1 53 p1.toNatClampNeg) fun v5 => some (v5, σ) else if p2 = 1 then gd (gb 1 2) <| gd (gb p1 20) <| nm (σ.1 54 p1.toNatClampNeg) fun v8 => some (v8, σ) else if p2 = 2 then bd (fX5_countRows_47 σ 11 p1) fun r11 => some (r11, σ) else if p2 = 3 then gd (gb p1 20) <| nm (σ.1 16 p1.toNatClampNeg) fun v13 => (if v13 = 0 then some (0, σ) else some (1, σ)) else if p2 = 4 then bd (fX5_isFixed_47 σ p1) fun r17 => (if r17 = 0 then some (0, σ) else some (1, σ)) else if p2 = 5 then bd2 (fX2_isPointLoose σ p1) fun r21 σ22 => (if r21 = 0 then some (0, σ22) else some (1, σ22)) else some ((-1000000000), σ))
noncomputable abbrev rmX9_point : Room := { frames := 3, cells := 0, slots := 0, locals := 67 }
set_option maxRecDepth 100000 in
set_option maxHeartbeats 4000000 in
theorem wX9_point {M : gM} {G : gG} {out : Int32 × gS} (X : gX M G zC cX9_point RX9 3 wsX9_point rmX9_point (some .int)) {ex : gEx} (hZ : ∀ s : State, G.2.2.2 s → kC ex (gA G zC.1) s) (σ : gS) (p1 : Int32) (p2 : Int32) (hF : fX9_point σ p1 p2 = some out) : WW M (gQi M G zC out.1 out.2) G zC 3 σ 0 [(0, .ref (G.2.1 0)), (1, .int p1), (2, .int p2)] [] := by
  unfold fX9_point at hF
  refine ww_aload_n (pc := 0) X (j := 0) dX9_point_0 rfl rfl ?_
  refine ww_get (pc := 1) X (ref := "PictureBlock") (T := TX9) (j := 2) dX9_point_1 inX9_point_RX9 shzC_0 clzC_9 (by decide) rfl (List.mem_of_getElem? (i := 1) rfl) rfl ?_
  refine ww_iconst (pc := 4) X (v := 2) dX9_point_4 (by decide) ?_
  refine ww_iload_n (pc := 5) X (j := 1) dX9_point_5 rfl rfl ?_
  obtain ⟨r2, h1, hF⟩ := bd_some hF
  refine ww_callVi (pc := 6) X (As := [.int 2, .int p1]) (rest := []) dX9_point_6 (kX8_exists_2 (mL M) G hZ X.2.2.2.2.2.2.1 X.2.2.2.2.2.2.2.1 σ 2 p1 r2 h1) rfl shzC_2 clzC_8 gX9_point_X8_exists hyX8_exists ⟨rfl, rfl⟩ ⟨Nat.le_of_ble_eq_true rfl, Nat.le_of_ble_eq_true rfl⟩ rfl rfl (Nat.le_of_ble_eq_true rfl) ?_
  refine ww_if_ne (pc := 9) (tgt := 15) X dX9_point_9 (by decide) hF (fun h3 hF => ?_) (fun h3 hF => ?_)
  · refine ww_iload_n (pc := 15) X (j := 2) dX9_point_15 rfl rfl ?_
    refine ww_case (v := 0) hF (fun h6 hF => ?_) (fun h6 hF => ?_)
    · refine ww_tin (pc := 16) X (off := 40) (tgt := 56) dX9_point_16 (by decide) (by decide) (by decide) (by decide) ?_
      refine ww_aload_n (pc := 56) X (j := 0) dX9_point_56 rfl rfl ?_
      refine ww_get (pc := 57) X (ref := "PictureBlock") (T := TX9) (j := 5) dX9_point_57 inX9_point_RX9 shzC_0 clzC_9 (by decide) rfl (List.mem_of_getElem? (i := 3) rfl) rfl ?_
      refine ww_get (pc := 60) X (ref := "PictureBlock$Stand") (T := TX5) (j := 4) dX9_point_60 inX9_point_RX5 shzC_47 clzC_5 (by decide) rfl (List.mem_of_getElem? (i := 4) rfl) rfl ?_
      refine ww_iconst (pc := 63) X (v := 0) dX9_point_63 (by decide) ?_
      refine ww_aald (pc := 64) X dX9_point_64 shzC_52 rfl hF (fun h4 hF => ?_)
      show WW M _ G zC _ _ _ _ (.ref (G.2.1 53) :: _)
      refine ww_iload_n (pc := 65) X (j := 1) dX9_point_65 rfl rfl ?_
      refine ww_iald (pc := 66) X dX9_point_66 shzC_53 rfl hF (fun v5 ev5 bv5 hF => ?_)
      exact ww_iret (pc := 67) X dX9_point_67 (fst_of hF) (snd_of hF)
    refine ww_case (v := 1) hF (fun h9 hF => ?_) (fun h9 hF => ?_)
    · refine ww_tin (pc := 16) X (off := 52) (tgt := 68) dX9_point_16 (by decide) (by decide) (by decide) (by decide) ?_
      refine ww_aload_n (pc := 68) X (j := 0) dX9_point_68 rfl rfl ?_
      refine ww_get (pc := 69) X (ref := "PictureBlock") (T := TX9) (j := 5) dX9_point_69 inX9_point_RX9 shzC_0 clzC_9 (by decide) rfl (List.mem_of_getElem? (i := 3) rfl) rfl ?_
      refine ww_get (pc := 72) X (ref := "PictureBlock$Stand") (T := TX5) (j := 4) dX9_point_72 inX9_point_RX5 shzC_47 clzC_5 (by decide) rfl (List.mem_of_getElem? (i := 4) rfl) rfl ?_
      refine ww_iconst (pc := 75) X (v := 1) dX9_point_75 (by decide) ?_
      refine ww_aald (pc := 76) X dX9_point_76 shzC_52 rfl hF (fun h7 hF => ?_)
      show WW M _ G zC _ _ _ _ (.ref (G.2.1 54) :: _)
      refine ww_iload_n (pc := 77) X (j := 1) dX9_point_77 rfl rfl ?_
      refine ww_iald (pc := 78) X dX9_point_78 shzC_54 rfl hF (fun v8 ev8 bv8 hF => ?_)
      exact ww_iret (pc := 79) X dX9_point_79 (fst_of hF) (snd_of hF)
    refine ww_case (v := 2) hF (fun h12 hF => ?_) (fun h12 hF => ?_)
    · refine ww_tin (pc := 16) X (off := 64) (tgt := 80) dX9_point_16 (by decide) (by decide) (by decide) (by decide) ?_
      refine ww_aload_n (pc := 80) X (j := 0) dX9_point_80 rfl rfl ?_
      refine ww_get (pc := 81) X (ref := "PictureBlock") (T := TX9) (j := 5) dX9_point_81 inX9_point_RX9 shzC_0 clzC_9 (by decide) rfl (List.mem_of_getElem? (i := 3) rfl) rfl ?_
      refine ww_aload_n (pc := 84) X (j := 0) dX9_point_84 rfl rfl ?_
      refine ww_get (pc := 85) X (ref := "PictureBlock") (T := TX9) (j := 2) dX9_point_85 inX9_point_RX9 shzC_0 clzC_9 (by decide) rfl (List.mem_of_getElem? (i := 1) rfl) rfl ?_
      refine ww_get (pc := 88) X (ref := "PictureBlock$Told") (T := TX8) (j := 5) dX9_point_88 inX9_point_RX8 shzC_2 clzC_8 (by decide) rfl (List.mem_of_getElem? (i := 5) rfl) rfl ?_
      refine ww_iload_n (pc := 91) X (j := 1) dX9_point_91 rfl rfl ?_
      obtain ⟨r11, h10, hF⟩ := bd_some hF
      refine ww_callVi (pc := 92) X (As := [.ref (G.2.1 11), .int p1]) (rest := []) dX9_point_92 (kX5_countRows_47 (mL M) G hZ X.2.2.2.2.2.2.1 X.2.2.2.2.2.2.2.1 σ 11 p1 r11 h10) rfl shzC_47 clzC_5 gX9_point_X5_countRows hyX5_countRows ⟨rfl, rfl⟩ ⟨Nat.le_of_ble_eq_true rfl, Nat.le_of_ble_eq_true rfl⟩ rfl rfl (Nat.le_of_ble_eq_true rfl) ?_
      exact ww_iret (pc := 95) X dX9_point_95 (fst_of hF) (snd_of hF)
    refine ww_case (v := 3) hF (fun h15 hF => ?_) (fun h15 hF => ?_)
    · refine ww_tin (pc := 16) X (off := 80) (tgt := 96) dX9_point_16 (by decide) (by decide) (by decide) (by decide) ?_
      refine ww_aload_n (pc := 96) X (j := 0) dX9_point_96 rfl rfl ?_
      refine ww_get (pc := 97) X (ref := "PictureBlock") (T := TX9) (j := 2) dX9_point_97 inX9_point_RX9 shzC_0 clzC_9 (by decide) rfl (List.mem_of_getElem? (i := 1) rfl) rfl ?_
      refine ww_get (pc := 100) X (ref := "PictureBlock$Told") (T := TX8) (j := 8) dX9_point_100 inX9_point_RX8 shzC_2 clzC_8 (by decide) rfl (List.mem_of_getElem? (i := 6) rfl) rfl ?_
      refine ww_iload_n (pc := 103) X (j := 1) dX9_point_103 rfl rfl ?_
      refine ww_iald (pc := 104) X dX9_point_104 shzC_16 rfl hF (fun v13 ev13 bv13 hF => ?_)
      refine ww_if_eq (pc := 105) (tgt := 112) X dX9_point_105 (by decide) hF (fun h14 hF => ?_) (fun h14 hF => ?_)
      · refine ww_iconst (pc := 112) X (v := 0) dX9_point_112 (by decide) ?_
        exact ww_iret (pc := 113) X dX9_point_113 (fst_of hF) (snd_of hF)
      · refine ww_iconst (pc := 108) X (v := 1) dX9_point_108 (by decide) ?_
        refine ww_goto (pc := 109) X (tgt := 113) dX9_point_109 (by decide) ?_
        exact ww_iret (pc := 113) X dX9_point_113 (fst_of hF) (snd_of hF)
    refine ww_case (v := 4) hF (fun h19 hF => ?_) (fun h19 hF => ?_)
    · refine ww_tin (pc := 16) X (off := 98) (tgt := 114) dX9_point_16 (by decide) (by decide) (by decide) (by decide) ?_
      refine ww_aload_n (pc := 114) X (j := 0) dX9_point_114 rfl rfl ?_
      refine ww_get (pc := 115) X (ref := "PictureBlock") (T := TX9) (j := 5) dX9_point_115 inX9_point_RX9 shzC_0 clzC_9 (by decide) rfl (List.mem_of_getElem? (i := 3) rfl) rfl ?_
      refine ww_iload_n (pc := 118) X (j := 1) dX9_point_118 rfl rfl ?_
      obtain ⟨r17, h16, hF⟩ := bd_some hF
      refine ww_callVi (pc := 119) X (As := [.int p1]) (rest := []) dX9_point_119 (kX5_isFixed_47 (mL M) G hZ X.2.2.2.2.2.2.1 X.2.2.2.2.2.2.2.1 σ p1 r17 h16) rfl shzC_47 clzC_5 gX9_point_X5_isFixed hyX5_isFixed ⟨rfl, rfl⟩ ⟨Nat.le_of_ble_eq_true rfl, Nat.le_of_ble_eq_true rfl⟩ rfl rfl (Nat.le_of_ble_eq_true rfl) ?_
      refine ww_if_eq (pc := 122) (tgt := 129) X dX9_point_122 (by decide) hF (fun h18 hF => ?_) (fun h18 hF => ?_)
      · refine ww_iconst (pc := 129) X (v := 0) dX9_point_129 (by decide) ?_
        exact ww_iret (pc := 130) X dX9_point_130 (fst_of hF) (snd_of hF)
      · refine ww_iconst (pc := 125) X (v := 1) dX9_point_125 (by decide) ?_
        refine ww_goto (pc := 126) X (tgt := 130) dX9_point_126 (by decide) ?_
        exact ww_iret (pc := 130) X dX9_point_130 (fst_of hF) (snd_of hF)
    refine ww_case (v := 5) hF (fun h24 hF => ?_) (fun h24 hF => ?_)
    · refine ww_tin (pc := 16) X (off := 115) (tgt := 131) dX9_point_16 (by decide) (by decide) (by decide) (by decide) ?_
      refine ww_aload_n (pc := 131) X (j := 0) dX9_point_131 rfl rfl ?_
      refine ww_get (pc := 132) X (ref := "PictureBlock") (T := TX9) (j := 11) dX9_point_132 inX9_point_RX9 shzC_0 clzC_9 (by decide) rfl (List.mem_of_getElem? (i := 7) rfl) rfl ?_
      refine ww_iload_n (pc := 135) X (j := 1) dX9_point_135 rfl rfl ?_
      obtain ⟨r21, σ22, h20, hF⟩ := bd2_some hF
      refine ww_callVi (pc := 136) X (As := [.int p1]) (rest := []) dX9_point_136 (kX2_isPointLoose (mL M) G hZ X.2.2.2.2.2.2.1 X.2.2.2.2.2.2.2.1 σ p1 (r21, σ22) h20) rfl shzC_137 clzC_2 gX9_point_X2_isPointLoose hyX2_isPointLoose ⟨rfl, rfl⟩ ⟨Nat.le_of_ble_eq_true rfl, Nat.le_of_ble_eq_true rfl⟩ rfl rfl (Nat.le_of_ble_eq_true rfl) ?_
      refine ww_if_eq (pc := 139) (tgt := 146) X dX9_point_139 (by decide) hF (fun h23 hF => ?_) (fun h23 hF => ?_)
      · refine ww_iconst (pc := 146) X (v := 0) dX9_point_146 (by decide) ?_
        exact ww_iret (pc := 147) X dX9_point_147 (fst_of hF) (snd_of hF)
      · refine ww_iconst (pc := 142) X (v := 1) dX9_point_142 (by decide) ?_
        refine ww_goto (pc := 143) X (tgt := 147) dX9_point_143 (by decide) ?_
        exact ww_iret (pc := 147) X dX9_point_147 (fst_of hF) (snd_of hF)
    refine ww_tout (pc := 16) X (tgt := 148) dX9_point_16 (sw_out 0 5 (fun i q1 q2 => by rcases (show i = 0 ∨ i = 1 ∨ i = 2 ∨ i = 3 ∨ i = 4 ∨ i = 5 by omega) with rfl | rfl | rfl | rfl | rfl | rfl <;> first | exact lv_neT h6 (by decide) | exact lv_neT h9 (by decide) | exact lv_neT h12 (by decide) | exact lv_neT h15 (by decide) | exact lv_neT h19 (by decide) | exact lv_neT h24 (by decide))) (by decide) ?_
    refine ww_ldc (pc := 148) X (v := (-1000000000)) (List.mem_of_getElem? (i := 2) rfl) dX9_point_148 ?_
    exact ww_iret (pc := 150) X dX9_point_150 (fst_of hF) (snd_of hF)
  · refine ww_ldc (pc := 12) X (v := (-1000000000)) (List.mem_of_getElem? (i := 2) rfl) dX9_point_12 ?_
    exact ww_iret (pc := 14) X dX9_point_14 (fst_of hF) (snd_of hF)
set_option maxRecDepth 100000 in
set_option maxHeartbeats 4000000 in
theorem kX9_point (l : Launch) (G : gG) {ex : gEx} (hZ : ∀ s : State, G.2.2.2 s → kC ex (gA G zC.1) s) (hG : gOK G zC.1) (hT : G.2.2.1.map (fun q => q.2) = zC.2.1) (σ : gS) (p1 : Int32) (p2 : Int32) (out : Int32 × gS) (hF : fX9_point σ p1 p2 = some out) : gCi l yX9_point wsX9_point rmX9_point G zC [.ref (G.2.1 0), .int p1, .int p2] σ out.1 out.2 :=
  gEnter (by decide) rfl ⟨rfl, rfl⟩ hG hT (Nat.le_of_ble_eq_true rfl) rfl (fun M X hl => wX9_point X hZ σ p1 p2 hF)
noncomputable def fX5_miss_47 (σ : gS) (p1 : Int32) (p2 : Int32) : Option (Int32) :=
  gd (gb p2 2) <| gd (gb p1 60) <| nm (σ.1 11 p1.toNatClampNeg) fun v2 => gd (gb v2 20) <| nm (σ.1 (53 + p2.toNatClampNeg) v2.toNatClampNeg) fun v3 => bd (fX5_putAt_47 σ p1 p2) fun r5 => some (v3 - r5)
noncomputable abbrev rmX5_miss : Room := { frames := 2, cells := 0, slots := 0, locals := 49 }
set_option maxRecDepth 100000 in
set_option maxHeartbeats 4000000 in
theorem wX5_miss_47 {M : gM} {G : gG} {out : Int32} (X : gX M G zC cX5_miss RX5 3 wsX5_miss rmX5_miss (some .int)) {ex : gEx} (hZ : ∀ s : State, G.2.2.2 s → kC ex (gA G zC.1) s) (σ : gS) (p1 : Int32) (p2 : Int32) (hF : fX5_miss_47 σ p1 p2 = some out) : WW M (gQi M G zC out σ) G zC 3 σ 0 [(0, .ref (G.2.1 47)), (1, .int p1), (2, .int p2)] [] := by
  unfold fX5_miss_47 at hF
  refine ww_aload_n (pc := 0) X (j := 0) dX5_miss_0 rfl rfl ?_
  refine ww_get (pc := 1) X (ref := "PictureBlock$Stand") (T := TX5) (j := 4) dX5_miss_1 inX5_miss_RX5 shzC_47 clzC_5 (by decide) rfl (List.mem_of_getElem? (i := 1) rfl) rfl ?_
  refine ww_iload_n (pc := 4) X (j := 2) dX5_miss_4 rfl rfl ?_
  refine ww_aald (pc := 5) X dX5_miss_5 shzC_52 rfl hF (fun h1 hF => ?_)
  refine ww_aload_n (pc := 6) X (j := 0) dX5_miss_6 rfl rfl ?_
  refine ww_get (pc := 7) X (ref := "PictureBlock$Stand") (T := TX5) (j := 0) dX5_miss_7 inX5_miss_RX5 shzC_47 clzC_5 (by decide) rfl (List.mem_of_getElem? (i := 2) rfl) rfl ?_
  refine ww_get (pc := 10) X (ref := "PictureBlock$Told") (T := TX8) (j := 5) dX5_miss_10 inX5_miss_RX8 shzC_2 clzC_8 (by decide) rfl (List.mem_of_getElem? (i := 3) rfl) rfl ?_
  refine ww_iload_n (pc := 13) X (j := 1) dX5_miss_13 rfl rfl ?_
  refine ww_iald (pc := 14) X dX5_miss_14 shzC_11 rfl hF (fun v2 ev2 bv2 hF => ?_)
  refine ww_iald (pc := 15) X dX5_miss_15 (rwzC_52 _ (gb_lt h1)) rfl hF (fun v3 ev3 bv3 hF => ?_)
  refine ww_aload_n (pc := 16) X (j := 0) dX5_miss_16 rfl rfl ?_
  refine ww_iload_n (pc := 17) X (j := 1) dX5_miss_17 rfl rfl ?_
  refine ww_iload_n (pc := 18) X (j := 2) dX5_miss_18 rfl rfl ?_
  obtain ⟨r5, h4, hF⟩ := bd_some hF
  refine ww_callVi (pc := 19) X (As := [.int p1, .int p2]) (rest := [.int v3]) dX5_miss_19 (kX5_putAt_47 (mL M) G hZ X.2.2.2.2.2.2.1 X.2.2.2.2.2.2.2.1 σ p1 p2 r5 h4) rfl shzC_47 clzC_5 gX5_miss_X5_putAt hyX5_putAt ⟨rfl, rfl⟩ ⟨Nat.le_of_ble_eq_true rfl, Nat.le_of_ble_eq_true rfl⟩ rfl rfl (Nat.le_of_ble_eq_true rfl) ?_
  refine ww_isub (pc := 22) X dX5_miss_22 ?_
  exact ww_iret (pc := 23) X dX5_miss_23 (Option.some.inj hF) rfl
set_option maxRecDepth 100000 in
set_option maxHeartbeats 4000000 in
theorem kX5_miss_47 (l : Launch) (G : gG) {ex : gEx} (hZ : ∀ s : State, G.2.2.2 s → kC ex (gA G zC.1) s) (hG : gOK G zC.1) (hT : G.2.2.1.map (fun q => q.2) = zC.2.1) (σ : gS) (p1 : Int32) (p2 : Int32) (out : Int32) (hF : fX5_miss_47 σ p1 p2 = some out) : gCi l yX5_miss wsX5_miss rmX5_miss G zC [.ref (G.2.1 47), .int p1, .int p2] σ out σ :=
  gEnter (by decide) rfl ⟨rfl, rfl⟩ hG hT (Nat.le_of_ble_eq_true rfl) rfl (fun M X hl => wX5_miss_47 X hZ σ p1 p2 hF)
noncomputable def fX2_canShow (σ : gS) (p1 : Int32) : Option (Int32 × gS) :=
  bd (fX5_uses_47 σ p1) fun r2 => (if r2 = 0 then some (0, σ) else bd (fX2_joinAll σ p1) fun σ5 => gd (gb p1 60) <| nm (σ5.1 10 p1.toNatClampNeg) fun v6 => nm (v6 : Int32) fun x7 => gd (gb p1 60) <| nm (σ5.1 11 p1.toNatClampNeg) fun v8 => nm (12 + v8 : Int32) fun x9 => gd (gb x7 32) <| nm (σ5.1 138 x7.toNatClampNeg) fun v10 => gd (gb x9 32) <| nm (σ5.1 138 x9.toNatClampNeg) fun v11 => (if v10 = v11 then some (1, σ5) else bd (fX2_isLoose σ5 x7) fun r14 => (if r14 = 0 then bd (fX2_isLoose σ5 x9) fun r17 => (if r17 = 0 then some (1, σ5) else some (0, σ5)) else some (0, σ5))))
noncomputable abbrev rmX2_canShow : Room := { frames := 2, cells := 0, slots := 0, locals := 46 }
set_option maxRecDepth 100000 in
set_option maxHeartbeats 4000000 in
theorem wX2_canShow {M : gM} {G : gG} {out : Int32 × gS} (X : gX M G zC cX2_canShow RX2 4 wsX2_canShow rmX2_canShow (some .boolean)) {ex : gEx} (hZ : ∀ s : State, G.2.2.2 s → kC ex (gA G zC.1) s) (σ : gS) (p1 : Int32) (hF : fX2_canShow σ p1 = some out) : WW M (gQi M G zC out.1 out.2) G zC 4 σ 0 [(0, .ref (G.2.1 137)), (1, .int p1)] [] := by
  unfold fX2_canShow at hF
  refine ww_aload_n (pc := 0) X (j := 0) dX2_canShow_0 rfl rfl ?_
  refine ww_get (pc := 1) X (ref := "PictureBlock$Net") (T := TX2) (j := 1) dX2_canShow_1 inX2_canShow_RX2 shzC_137 clzC_2 (by decide) rfl (List.mem_of_getElem? (i := 1) rfl) rfl ?_
  refine ww_iload_n (pc := 4) X (j := 1) dX2_canShow_4 rfl rfl ?_
  obtain ⟨r2, h1, hF⟩ := bd_some hF
  refine ww_callVi (pc := 5) X (As := [.int p1]) (rest := []) dX2_canShow_5 (kX5_uses_47 (mL M) G hZ X.2.2.2.2.2.2.1 X.2.2.2.2.2.2.2.1 σ p1 r2 h1) rfl shzC_47 clzC_5 gX2_canShow_X5_uses hyX5_uses ⟨rfl, rfl⟩ ⟨Nat.le_of_ble_eq_true rfl, Nat.le_of_ble_eq_true rfl⟩ rfl rfl (Nat.le_of_ble_eq_true rfl) ?_
  refine ww_if_ne (pc := 8) (tgt := 13) X dX2_canShow_8 (by decide) hF (fun h3 hF => ?_) (fun h3 hF => ?_)
  · refine ww_aload_n (pc := 13) X (j := 0) dX2_canShow_13 rfl rfl ?_
    refine ww_iload_n (pc := 14) X (j := 1) dX2_canShow_14 rfl rfl ?_
    obtain ⟨σ5, h4, hF⟩ := bd_some hF
    refine ww_callVv (pc := 15) X (As := [.int p1]) (rest := []) dX2_canShow_15 (kX2_joinAll (mL M) G hZ X.2.2.2.2.2.2.1 X.2.2.2.2.2.2.2.1 σ p1 σ5 h4) rfl shzC_137 clzC_2 gX2_canShow_X2_joinAll hyX2_joinAll ⟨rfl, rfl⟩ ⟨Nat.le_of_ble_eq_true rfl, Nat.le_of_ble_eq_true rfl⟩ rfl rfl (Nat.le_of_ble_eq_true rfl) ?_
    refine ww_aload_n (pc := 18) X (j := 0) dX2_canShow_18 rfl rfl ?_
    refine ww_get (pc := 19) X (ref := "PictureBlock$Net") (T := TX2) (j := 0) dX2_canShow_19 inX2_canShow_RX2 shzC_137 clzC_2 (by decide) rfl (List.mem_of_getElem? (i := 2) rfl) rfl ?_
    refine ww_get (pc := 22) X (ref := "PictureBlock$Told") (T := TX8) (j := 4) dX2_canShow_22 inX2_canShow_RX8 shzC_2 clzC_8 (by decide) rfl (List.mem_of_getElem? (i := 3) rfl) rfl ?_
    refine ww_iload_n (pc := 25) X (j := 1) dX2_canShow_25 rfl rfl ?_
    refine ww_iald (pc := 26) X dX2_canShow_26 shzC_10 rfl hF (fun v6 ev6 bv6 hF => ?_)
    refine ww_istore_n (pc := 27) X (lv' := [(0, .ref (G.2.1 137)), (1, .int p1)]) dX2_canShow_27 rfl (by decide) rfl hF (fun x7 ex7 hF => ?_)
    refine ww_bipush (pc := 28) X (v := 12) dX2_canShow_28 (by decide) ?_
    refine ww_aload_n (pc := 30) X (j := 1) dX2_canShow_30 rfl rfl ?_
    refine ww_get (pc := 31) X (ref := "PictureBlock$Net") (T := TX2) (j := 0) dX2_canShow_31 inX2_canShow_RX2 shzC_137 clzC_2 (by decide) rfl (List.mem_of_getElem? (i := 2) rfl) rfl ?_
    refine ww_get (pc := 34) X (ref := "PictureBlock$Told") (T := TX8) (j := 5) dX2_canShow_34 inX2_canShow_RX8 shzC_2 clzC_8 (by decide) rfl (List.mem_of_getElem? (i := 4) rfl) rfl ?_
    refine ww_iload_n (pc := 37) X (j := 2) dX2_canShow_37 rfl rfl ?_
    refine ww_iald (pc := 38) X dX2_canShow_38 shzC_11 rfl hF (fun v8 ev8 bv8 hF => ?_)
    refine ww_iadd (pc := 39) X dX2_canShow_39 ?_
    refine ww_istore_n (pc := 40) X (lv' := [(2, .int x7), (0, .ref (G.2.1 137)), (1, .int p1)]) dX2_canShow_40 rfl (by decide) rfl hF (fun x9 ex9 hF => ?_)
    refine ww_aload_n (pc := 41) X (j := 2) dX2_canShow_41 rfl rfl ?_
    refine ww_get (pc := 42) X (ref := "PictureBlock$Net") (T := TX2) (j := 2) dX2_canShow_42 inX2_canShow_RX2 shzC_137 clzC_2 (by decide) rfl (List.mem_of_getElem? (i := 5) rfl) rfl ?_
    refine ww_iload_n (pc := 45) X (j := 1) dX2_canShow_45 rfl rfl ?_
    refine ww_iald (pc := 46) X dX2_canShow_46 shzC_138 rfl hF (fun v10 ev10 bv10 hF => ?_)
    refine ww_aload_n (pc := 47) X (j := 2) dX2_canShow_47 rfl rfl ?_
    refine ww_get (pc := 48) X (ref := "PictureBlock$Net") (T := TX2) (j := 2) dX2_canShow_48 inX2_canShow_RX2 shzC_137 clzC_2 (by decide) rfl (List.mem_of_getElem? (i := 5) rfl) rfl ?_
    refine ww_iload_n (pc := 51) X (j := 0) dX2_canShow_51 rfl rfl ?_
    refine ww_iald (pc := 52) X dX2_canShow_52 shzC_138 rfl hF (fun v11 ev11 bv11 hF => ?_)
    refine ww_icmp_eq (pc := 53) (tgt := 72) X dX2_canShow_53 (by decide) hF (fun h12 hF => ?_) (fun h12 hF => ?_)
    · refine ww_iconst (pc := 72) X (v := 1) dX2_canShow_72 (by decide) ?_
      refine ww_goto (pc := 73) X (tgt := 77) dX2_canShow_73 (by decide) ?_
      exact ww_zret (pc := 77) X dX2_canShow_77 (by cases hF; rfl) (by cases hF; rfl)
    · refine ww_aload_n (pc := 56) X (j := 2) dX2_canShow_56 rfl rfl ?_
      refine ww_iload_n (pc := 57) X (j := 1) dX2_canShow_57 rfl rfl ?_
      obtain ⟨r14, h13, hF⟩ := bd_some hF
      refine ww_callVi (pc := 58) X (As := [.int x7]) (rest := []) dX2_canShow_58 (kX2_isLoose (mL M) G hZ X.2.2.2.2.2.2.1 X.2.2.2.2.2.2.2.1 σ5 x7 r14 h13) rfl shzC_137 clzC_2 gX2_canShow_X2_isLoose hyX2_isLoose ⟨rfl, rfl⟩ ⟨Nat.le_of_ble_eq_true rfl, Nat.le_of_ble_eq_true rfl⟩ rfl rfl (Nat.le_of_ble_eq_true rfl) ?_
      refine ww_if_ne (pc := 61) (tgt := 76) X dX2_canShow_61 (by decide) hF (fun h15 hF => ?_) (fun h15 hF => ?_)
      · refine ww_iconst (pc := 76) X (v := 0) dX2_canShow_76 (by decide) ?_
        exact ww_zret (pc := 77) X dX2_canShow_77 (by cases hF; rfl) (by cases hF; rfl)
      · refine ww_aload_n (pc := 64) X (j := 2) dX2_canShow_64 rfl rfl ?_
        refine ww_iload_n (pc := 65) X (j := 0) dX2_canShow_65 rfl rfl ?_
        obtain ⟨r17, h16, hF⟩ := bd_some hF
        refine ww_callVi (pc := 66) X (As := [.int x9]) (rest := []) dX2_canShow_66 (kX2_isLoose (mL M) G hZ X.2.2.2.2.2.2.1 X.2.2.2.2.2.2.2.1 σ5 x9 r17 h16) rfl shzC_137 clzC_2 gX2_canShow_X2_isLoose hyX2_isLoose ⟨rfl, rfl⟩ ⟨Nat.le_of_ble_eq_true rfl, Nat.le_of_ble_eq_true rfl⟩ rfl rfl (Nat.le_of_ble_eq_true rfl) ?_
        refine ww_if_ne (pc := 69) (tgt := 76) X dX2_canShow_69 (by decide) hF (fun h18 hF => ?_) (fun h18 hF => ?_)
        · refine ww_iconst (pc := 76) X (v := 0) dX2_canShow_76 (by decide) ?_
          exact ww_zret (pc := 77) X dX2_canShow_77 (by cases hF; rfl) (by cases hF; rfl)
        · refine ww_iconst (pc := 72) X (v := 1) dX2_canShow_72 (by decide) ?_
          refine ww_goto (pc := 73) X (tgt := 77) dX2_canShow_73 (by decide) ?_
          exact ww_zret (pc := 77) X dX2_canShow_77 (by cases hF; rfl) (by cases hF; rfl)
  · refine ww_iconst (pc := 11) X (v := 0) dX2_canShow_11 (by decide) ?_
    exact ww_zret (pc := 12) X dX2_canShow_12 (by cases hF; rfl) (by cases hF; rfl)
set_option maxRecDepth 100000 in
set_option maxHeartbeats 4000000 in
theorem kX2_canShow (l : Launch) (G : gG) {ex : gEx} (hZ : ∀ s : State, G.2.2.2 s → kC ex (gA G zC.1) s) (hG : gOK G zC.1) (hT : G.2.2.1.map (fun q => q.2) = zC.2.1) (σ : gS) (p1 : Int32) (out : Int32 × gS) (hF : fX2_canShow σ p1 = some out) : gCi l yX2_canShow wsX2_canShow rmX2_canShow G zC [.ref (G.2.1 137), .int p1] σ out.1 out.2 :=
  gEnter (by decide) rfl ⟨rfl, rfl⟩ hG hT (Nat.le_of_ble_eq_true rfl) rfl (fun M X hl => wX2_canShow X hZ σ p1 hF)
noncomputable def fX9_row (σ : gS) (p1 : Int32) (p2 : Int32) : Option (Int32 × gS) :=
  bd (fX8_exists_2 σ 3 p1) fun r2 => (if r2 = 0 then some ((-1000000000), σ) else if p2 = 0 then gd (gb p1 60) <| nm (σ.1 10 p1.toNatClampNeg) fun v4 => some (v4, σ) else if p2 = 1 then gd (gb p1 60) <| nm (σ.1 11 p1.toNatClampNeg) fun v6 => some (v6, σ) else if p2 = 2 then gd (gb 0 2) <| gd (gb p1 60) <| nm (σ.1 13 p1.toNatClampNeg) fun v9 => some (v9, σ) else if p2 = 3 then gd (gb 1 2) <| gd (gb p1 60) <| nm (σ.1 14 p1.toNatClampNeg) fun v12 => some (v12, σ) else if p2 = 4 then gd (gb p1 60) <| nm (σ.1 15 p1.toNatClampNeg) fun v14 => some (v14, σ) else if p2 = 5 then gd (gb p1 60) <| nm (σ.1 58 p1.toNatClampNeg) fun v16 => some (v16, σ) else if p2 = 6 then bd (fX5_miss_47 σ p1 0) fun r19 => some (r19, σ) else if p2 = 7 then bd (fX5_miss_47 σ p1 1) fun r22 => some (r22, σ) else if p2 = 8 then bd2 (fX2_canShow σ p1) fun r25 σ26 => (if r25 = 0 then some (0, σ26) else some (1, σ26)) else some ((-1000000000), σ))
noncomputable abbrev rmX9_row : Room := { frames := 3, cells := 0, slots := 0, locals := 71 }
set_option maxRecDepth 100000 in
set_option maxHeartbeats 4000000 in
theorem wX9_row {M : gM} {G : gG} {out : Int32 × gS} (X : gX M G zC cX9_row RX9 3 wsX9_row rmX9_row (some .int)) {ex : gEx} (hZ : ∀ s : State, G.2.2.2 s → kC ex (gA G zC.1) s) (σ : gS) (p1 : Int32) (p2 : Int32) (hF : fX9_row σ p1 p2 = some out) : WW M (gQi M G zC out.1 out.2) G zC 3 σ 0 [(0, .ref (G.2.1 0)), (1, .int p1), (2, .int p2)] [] := by
  unfold fX9_row at hF
  refine ww_aload_n (pc := 0) X (j := 0) dX9_row_0 rfl rfl ?_
  refine ww_get (pc := 1) X (ref := "PictureBlock") (T := TX9) (j := 2) dX9_row_1 inX9_row_RX9 shzC_0 clzC_9 (by decide) rfl (List.mem_of_getElem? (i := 1) rfl) rfl ?_
  refine ww_iconst (pc := 4) X (v := 3) dX9_row_4 (by decide) ?_
  refine ww_iload_n (pc := 5) X (j := 1) dX9_row_5 rfl rfl ?_
  obtain ⟨r2, h1, hF⟩ := bd_some hF
  refine ww_callVi (pc := 6) X (As := [.int 3, .int p1]) (rest := []) dX9_row_6 (kX8_exists_2 (mL M) G hZ X.2.2.2.2.2.2.1 X.2.2.2.2.2.2.2.1 σ 3 p1 r2 h1) rfl shzC_2 clzC_8 gX9_row_X8_exists hyX8_exists ⟨rfl, rfl⟩ ⟨Nat.le_of_ble_eq_true rfl, Nat.le_of_ble_eq_true rfl⟩ rfl rfl (Nat.le_of_ble_eq_true rfl) ?_
  refine ww_if_ne (pc := 9) (tgt := 15) X dX9_row_9 (by decide) hF (fun h3 hF => ?_) (fun h3 hF => ?_)
  · refine ww_iload_n (pc := 15) X (j := 2) dX9_row_15 rfl rfl ?_
    refine ww_case (v := 0) hF (fun h5 hF => ?_) (fun h5 hF => ?_)
    · refine ww_tin (pc := 16) X (off := 52) (tgt := 68) dX9_row_16 (by decide) (by decide) (by decide) (by decide) ?_
      refine ww_aload_n (pc := 68) X (j := 0) dX9_row_68 rfl rfl ?_
      refine ww_get (pc := 69) X (ref := "PictureBlock") (T := TX9) (j := 2) dX9_row_69 inX9_row_RX9 shzC_0 clzC_9 (by decide) rfl (List.mem_of_getElem? (i := 1) rfl) rfl ?_
      refine ww_get (pc := 72) X (ref := "PictureBlock$Told") (T := TX8) (j := 4) dX9_row_72 inX9_row_RX8 shzC_2 clzC_8 (by decide) rfl (List.mem_of_getElem? (i := 3) rfl) rfl ?_
      refine ww_iload_n (pc := 75) X (j := 1) dX9_row_75 rfl rfl ?_
      refine ww_iald (pc := 76) X dX9_row_76 shzC_10 rfl hF (fun v4 ev4 bv4 hF => ?_)
      exact ww_iret (pc := 77) X dX9_row_77 (fst_of hF) (snd_of hF)
    refine ww_case (v := 1) hF (fun h7 hF => ?_) (fun h7 hF => ?_)
    · refine ww_tin (pc := 16) X (off := 62) (tgt := 78) dX9_row_16 (by decide) (by decide) (by decide) (by decide) ?_
      refine ww_aload_n (pc := 78) X (j := 0) dX9_row_78 rfl rfl ?_
      refine ww_get (pc := 79) X (ref := "PictureBlock") (T := TX9) (j := 2) dX9_row_79 inX9_row_RX9 shzC_0 clzC_9 (by decide) rfl (List.mem_of_getElem? (i := 1) rfl) rfl ?_
      refine ww_get (pc := 82) X (ref := "PictureBlock$Told") (T := TX8) (j := 5) dX9_row_82 inX9_row_RX8 shzC_2 clzC_8 (by decide) rfl (List.mem_of_getElem? (i := 4) rfl) rfl ?_
      refine ww_iload_n (pc := 85) X (j := 1) dX9_row_85 rfl rfl ?_
      refine ww_iald (pc := 86) X dX9_row_86 shzC_11 rfl hF (fun v6 ev6 bv6 hF => ?_)
      exact ww_iret (pc := 87) X dX9_row_87 (fst_of hF) (snd_of hF)
    refine ww_case (v := 2) hF (fun h10 hF => ?_) (fun h10 hF => ?_)
    · refine ww_tin (pc := 16) X (off := 72) (tgt := 88) dX9_row_16 (by decide) (by decide) (by decide) (by decide) ?_
      refine ww_aload_n (pc := 88) X (j := 0) dX9_row_88 rfl rfl ?_
      refine ww_get (pc := 89) X (ref := "PictureBlock") (T := TX9) (j := 2) dX9_row_89 inX9_row_RX9 shzC_0 clzC_9 (by decide) rfl (List.mem_of_getElem? (i := 1) rfl) rfl ?_
      refine ww_get (pc := 92) X (ref := "PictureBlock$Told") (T := TX8) (j := 6) dX9_row_92 inX9_row_RX8 shzC_2 clzC_8 (by decide) rfl (List.mem_of_getElem? (i := 5) rfl) rfl ?_
      refine ww_iconst (pc := 95) X (v := 0) dX9_row_95 (by decide) ?_
      refine ww_aald (pc := 96) X dX9_row_96 shzC_12 rfl hF (fun h8 hF => ?_)
      show WW M _ G zC _ _ _ _ (.ref (G.2.1 13) :: _)
      refine ww_iload_n (pc := 97) X (j := 1) dX9_row_97 rfl rfl ?_
      refine ww_iald (pc := 98) X dX9_row_98 shzC_13 rfl hF (fun v9 ev9 bv9 hF => ?_)
      exact ww_iret (pc := 99) X dX9_row_99 (fst_of hF) (snd_of hF)
    refine ww_case (v := 3) hF (fun h13 hF => ?_) (fun h13 hF => ?_)
    · refine ww_tin (pc := 16) X (off := 84) (tgt := 100) dX9_row_16 (by decide) (by decide) (by decide) (by decide) ?_
      refine ww_aload_n (pc := 100) X (j := 0) dX9_row_100 rfl rfl ?_
      refine ww_get (pc := 101) X (ref := "PictureBlock") (T := TX9) (j := 2) dX9_row_101 inX9_row_RX9 shzC_0 clzC_9 (by decide) rfl (List.mem_of_getElem? (i := 1) rfl) rfl ?_
      refine ww_get (pc := 104) X (ref := "PictureBlock$Told") (T := TX8) (j := 6) dX9_row_104 inX9_row_RX8 shzC_2 clzC_8 (by decide) rfl (List.mem_of_getElem? (i := 5) rfl) rfl ?_
      refine ww_iconst (pc := 107) X (v := 1) dX9_row_107 (by decide) ?_
      refine ww_aald (pc := 108) X dX9_row_108 shzC_12 rfl hF (fun h11 hF => ?_)
      show WW M _ G zC _ _ _ _ (.ref (G.2.1 14) :: _)
      refine ww_iload_n (pc := 109) X (j := 1) dX9_row_109 rfl rfl ?_
      refine ww_iald (pc := 110) X dX9_row_110 shzC_14 rfl hF (fun v12 ev12 bv12 hF => ?_)
      exact ww_iret (pc := 111) X dX9_row_111 (fst_of hF) (snd_of hF)
    refine ww_case (v := 4) hF (fun h15 hF => ?_) (fun h15 hF => ?_)
    · refine ww_tin (pc := 16) X (off := 96) (tgt := 112) dX9_row_16 (by decide) (by decide) (by decide) (by decide) ?_
      refine ww_aload_n (pc := 112) X (j := 0) dX9_row_112 rfl rfl ?_
      refine ww_get (pc := 113) X (ref := "PictureBlock") (T := TX9) (j := 2) dX9_row_113 inX9_row_RX9 shzC_0 clzC_9 (by decide) rfl (List.mem_of_getElem? (i := 1) rfl) rfl ?_
      refine ww_get (pc := 116) X (ref := "PictureBlock$Told") (T := TX8) (j := 7) dX9_row_116 inX9_row_RX8 shzC_2 clzC_8 (by decide) rfl (List.mem_of_getElem? (i := 6) rfl) rfl ?_
      refine ww_iload_n (pc := 119) X (j := 1) dX9_row_119 rfl rfl ?_
      refine ww_iald (pc := 120) X dX9_row_120 shzC_15 rfl hF (fun v14 ev14 bv14 hF => ?_)
      exact ww_iret (pc := 121) X dX9_row_121 (fst_of hF) (snd_of hF)
    refine ww_case (v := 5) hF (fun h17 hF => ?_) (fun h17 hF => ?_)
    · refine ww_tin (pc := 16) X (off := 106) (tgt := 122) dX9_row_16 (by decide) (by decide) (by decide) (by decide) ?_
      refine ww_aload_n (pc := 122) X (j := 0) dX9_row_122 rfl rfl ?_
      refine ww_get (pc := 123) X (ref := "PictureBlock") (T := TX9) (j := 5) dX9_row_123 inX9_row_RX9 shzC_0 clzC_9 (by decide) rfl (List.mem_of_getElem? (i := 7) rfl) rfl ?_
      refine ww_get (pc := 126) X (ref := "PictureBlock$Stand") (T := TX5) (j := 6) dX9_row_126 inX9_row_RX5 shzC_47 clzC_5 (by decide) rfl (List.mem_of_getElem? (i := 8) rfl) rfl ?_
      refine ww_iload_n (pc := 129) X (j := 1) dX9_row_129 rfl rfl ?_
      refine ww_iald (pc := 130) X dX9_row_130 shzC_58 rfl hF (fun v16 ev16 bv16 hF => ?_)
      exact ww_iret (pc := 131) X dX9_row_131 (fst_of hF) (snd_of hF)
    refine ww_case (v := 6) hF (fun h20 hF => ?_) (fun h20 hF => ?_)
    · refine ww_tin (pc := 16) X (off := 116) (tgt := 132) dX9_row_16 (by decide) (by decide) (by decide) (by decide) ?_
      refine ww_aload_n (pc := 132) X (j := 0) dX9_row_132 rfl rfl ?_
      refine ww_get (pc := 133) X (ref := "PictureBlock") (T := TX9) (j := 5) dX9_row_133 inX9_row_RX9 shzC_0 clzC_9 (by decide) rfl (List.mem_of_getElem? (i := 7) rfl) rfl ?_
      refine ww_iload_n (pc := 136) X (j := 1) dX9_row_136 rfl rfl ?_
      refine ww_iconst (pc := 137) X (v := 0) dX9_row_137 (by decide) ?_
      obtain ⟨r19, h18, hF⟩ := bd_some hF
      refine ww_callVi (pc := 138) X (As := [.int p1, .int 0]) (rest := []) dX9_row_138 (kX5_miss_47 (mL M) G hZ X.2.2.2.2.2.2.1 X.2.2.2.2.2.2.2.1 σ p1 0 r19 h18) rfl shzC_47 clzC_5 gX9_row_X5_miss hyX5_miss ⟨rfl, rfl⟩ ⟨Nat.le_of_ble_eq_true rfl, Nat.le_of_ble_eq_true rfl⟩ rfl rfl (Nat.le_of_ble_eq_true rfl) ?_
      exact ww_iret (pc := 141) X dX9_row_141 (fst_of hF) (snd_of hF)
    refine ww_case (v := 7) hF (fun h23 hF => ?_) (fun h23 hF => ?_)
    · refine ww_tin (pc := 16) X (off := 126) (tgt := 142) dX9_row_16 (by decide) (by decide) (by decide) (by decide) ?_
      refine ww_aload_n (pc := 142) X (j := 0) dX9_row_142 rfl rfl ?_
      refine ww_get (pc := 143) X (ref := "PictureBlock") (T := TX9) (j := 5) dX9_row_143 inX9_row_RX9 shzC_0 clzC_9 (by decide) rfl (List.mem_of_getElem? (i := 7) rfl) rfl ?_
      refine ww_iload_n (pc := 146) X (j := 1) dX9_row_146 rfl rfl ?_
      refine ww_iconst (pc := 147) X (v := 1) dX9_row_147 (by decide) ?_
      obtain ⟨r22, h21, hF⟩ := bd_some hF
      refine ww_callVi (pc := 148) X (As := [.int p1, .int 1]) (rest := []) dX9_row_148 (kX5_miss_47 (mL M) G hZ X.2.2.2.2.2.2.1 X.2.2.2.2.2.2.2.1 σ p1 1 r22 h21) rfl shzC_47 clzC_5 gX9_row_X5_miss hyX5_miss ⟨rfl, rfl⟩ ⟨Nat.le_of_ble_eq_true rfl, Nat.le_of_ble_eq_true rfl⟩ rfl rfl (Nat.le_of_ble_eq_true rfl) ?_
      exact ww_iret (pc := 151) X dX9_row_151 (fst_of hF) (snd_of hF)
    refine ww_case (v := 8) hF (fun h28 hF => ?_) (fun h28 hF => ?_)
    · refine ww_tin (pc := 16) X (off := 136) (tgt := 152) dX9_row_16 (by decide) (by decide) (by decide) (by decide) ?_
      refine ww_aload_n (pc := 152) X (j := 0) dX9_row_152 rfl rfl ?_
      refine ww_get (pc := 153) X (ref := "PictureBlock") (T := TX9) (j := 11) dX9_row_153 inX9_row_RX9 shzC_0 clzC_9 (by decide) rfl (List.mem_of_getElem? (i := 9) rfl) rfl ?_
      refine ww_iload_n (pc := 156) X (j := 1) dX9_row_156 rfl rfl ?_
      obtain ⟨r25, σ26, h24, hF⟩ := bd2_some hF
      refine ww_callVi (pc := 157) X (As := [.int p1]) (rest := []) dX9_row_157 (kX2_canShow (mL M) G hZ X.2.2.2.2.2.2.1 X.2.2.2.2.2.2.2.1 σ p1 (r25, σ26) h24) rfl shzC_137 clzC_2 gX9_row_X2_canShow hyX2_canShow ⟨rfl, rfl⟩ ⟨Nat.le_of_ble_eq_true rfl, Nat.le_of_ble_eq_true rfl⟩ rfl rfl (Nat.le_of_ble_eq_true rfl) ?_
      refine ww_if_eq (pc := 160) (tgt := 167) X dX9_row_160 (by decide) hF (fun h27 hF => ?_) (fun h27 hF => ?_)
      · refine ww_iconst (pc := 167) X (v := 0) dX9_row_167 (by decide) ?_
        exact ww_iret (pc := 168) X dX9_row_168 (fst_of hF) (snd_of hF)
      · refine ww_iconst (pc := 163) X (v := 1) dX9_row_163 (by decide) ?_
        refine ww_goto (pc := 164) X (tgt := 168) dX9_row_164 (by decide) ?_
        exact ww_iret (pc := 168) X dX9_row_168 (fst_of hF) (snd_of hF)
    refine ww_tout (pc := 16) X (tgt := 169) dX9_row_16 (sw_out 0 8 (fun i q1 q2 => by rcases (show i = 0 ∨ i = 1 ∨ i = 2 ∨ i = 3 ∨ i = 4 ∨ i = 5 ∨ i = 6 ∨ i = 7 ∨ i = 8 by omega) with rfl | rfl | rfl | rfl | rfl | rfl | rfl | rfl | rfl <;> first | exact lv_neT h5 (by decide) | exact lv_neT h7 (by decide) | exact lv_neT h10 (by decide) | exact lv_neT h13 (by decide) | exact lv_neT h15 (by decide) | exact lv_neT h17 (by decide) | exact lv_neT h20 (by decide) | exact lv_neT h23 (by decide) | exact lv_neT h28 (by decide))) (by decide) ?_
    refine ww_ldc (pc := 169) X (v := (-1000000000)) (List.mem_of_getElem? (i := 2) rfl) dX9_row_169 ?_
    exact ww_iret (pc := 171) X dX9_row_171 (fst_of hF) (snd_of hF)
  · refine ww_ldc (pc := 12) X (v := (-1000000000)) (List.mem_of_getElem? (i := 2) rfl) dX9_row_12 ?_
    exact ww_iret (pc := 14) X dX9_row_14 (fst_of hF) (snd_of hF)
set_option maxRecDepth 100000 in
set_option maxHeartbeats 4000000 in
theorem kX9_row (l : Launch) (G : gG) {ex : gEx} (hZ : ∀ s : State, G.2.2.2 s → kC ex (gA G zC.1) s) (hG : gOK G zC.1) (hT : G.2.2.1.map (fun q => q.2) = zC.2.1) (σ : gS) (p1 : Int32) (p2 : Int32) (out : Int32 × gS) (hF : fX9_row σ p1 p2 = some out) : gCi l yX9_row wsX9_row rmX9_row G zC [.ref (G.2.1 0), .int p1, .int p2] σ out.1 out.2 :=
  gEnter (by decide) rfl ⟨rfl, rfl⟩ hG hT (Nat.le_of_ble_eq_true rfl) rfl (fun M X hl => wX9_row X hZ σ p1 p2 hF)
