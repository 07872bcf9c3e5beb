noncomputable def bX1_settle_57 (σ : gS) (c57_1 : Int32) (rec57 : Int32 → gS → Option (Int32 × gS)) (a2 : Int32) (σ1 : gS) : Option (Int32 × gS) :=
  if c57_1 ≤ a2 then some (c57_1, σ1) else bd2 (fX1_makeRound σ1) fun r7 σ8 => (if r7 = 0 then some (a2, σ8) else nm (a2 + 1 : Int32) fun x10 => rec57 x10 σ8)
noncomputable def bX1_settle_2 (σ : gS) (c2_1 : Int32) (rec2 : Int32 → gS → Option (Int32 × gS)) (a2 : Int32) (σ1 : gS) : Option (Int32 × gS) :=
  gd (gb 3 6) <| nm (σ1.1 3 ((3 : Int32).toNatClampNeg)) fun v2 => (if v2 ≤ a2 then nm (0 : Int32) fun x4 => lpc (S := Int32 × gS) K9 (fun rec s => bX1_settle_57 σ1 c2_1 (fun a2 σ1 => rec (a2, σ1)) s.1 s.2) (x4, σ1) else gd (gb 0 2) <| bd (fX5_turned_47 σ1 a2 0) fun r13 => gd (gb a2 60) <| nm (gsI σ1 94 a2.toNatClampNeg r13) fun σ14 => gd (gb 1 2) <| bd (fX5_turned_47 σ14 a2 1) fun r17 => gd (gb a2 60) <| nm (gsI σ14 95 a2.toNatClampNeg r17) fun σ18 => nm (a2 + 1 : Int32) fun x19 => rec2 x19 σ18)
noncomputable def fX1_settle (σ : gS) (p1 : Int32) : Option (Int32 × gS) :=
  nm (0 : Int32) fun x1 => lpc (S := Int32 × gS) K9 (fun rec s => bX1_settle_2 σ p1 (fun a2 σ1 => rec (a2, σ1)) s.1 s.2) (x1, σ)
noncomputable abbrev rmX1_settle : Room := { frames := 4, cells := 0, slots := 0, locals := 100 }
set_option maxRecDepth 100000 in
set_option maxHeartbeats 4000000 in
theorem wbX1_settle_57 {M : gM} {G : gG} {out : Int32 × gS} (X : gX M G zC cX1_settle RX1 3 wsX1_settle rmX1_settle (some .int)) {ex : gEx} (hZ : ∀ s : State, G.2.2.2 s → kC ex (gA G zC.1) s) (σ : gS) (c57_1 : Int32) (rec57 : Int32 → gS → Option (Int32 × gS)) (ih57 : ∀ (a2 : Int32) (σ1 : gS), rec57 a2 σ1 = some out → WW M (gQi M G zC out.1 out.2) G zC 3 σ1 57 [(0, .ref (G.2.1 90)), (1, .int c57_1), (2, .int a2)] []) (a2 : Int32) (σ1 : gS) (hF : bX1_settle_57 σ c57_1 rec57 a2 σ1 = some out) : WW M (gQi M G zC out.1 out.2) G zC 3 σ1 57 [(0, .ref (G.2.1 90)), (1, .int c57_1), (2, .int a2)] [] := by
  unfold bX1_settle_57 at hF
  refine ww_iload_n (pc := 57) X (j := 2) dX1_settle_57 rfl rfl ?_
  refine ww_iload_n (pc := 58) X (j := 1) dX1_settle_58 rfl rfl ?_
  refine ww_icmp_ge (pc := 59) (tgt := 77) X dX1_settle_59 (by decide) hF (fun h5 hF => ?_) (fun h5 hF => ?_)
  · refine ww_iload_n (pc := 77) X (j := 1) dX1_settle_77 rfl rfl ?_
    exact ww_iret (pc := 78) X dX1_settle_78 (fst_of hF) (snd_of hF)
  · refine ww_aload_n (pc := 62) X (j := 0) dX1_settle_62 rfl rfl ?_
    obtain ⟨r7, σ8, h6, hF⟩ := bd2_some hF
    refine ww_callVi (pc := 63) X (As := []) (rest := []) dX1_settle_63 (kX1_makeRound (mL M) G hZ X.2.2.2.2.2.2.1 X.2.2.2.2.2.2.2.1 σ1 (r7, σ8) h6) rfl shzC_90 clzC_1 gX1_settle_X1_makeRound hyX1_makeRound ⟨rfl, rfl⟩ ⟨Nat.le_of_ble_eq_true rfl, Nat.le_of_ble_eq_true rfl⟩ rfl rfl (Nat.le_of_ble_eq_true rfl) ?_
    refine ww_if_ne (pc := 66) (tgt := 71) X dX1_settle_66 (by decide) hF (fun h9 hF => ?_) (fun h9 hF => ?_)
    · refine ww_iinc (pc := 71) X (j := 2) (v := 1) (lv' := [(0, .ref (G.2.1 90)), (1, .int c57_1)]) dX1_settle_71 rfl rfl (by decide) rfl hF (fun x10 ex10 hF => ?_)
      refine ww_goto (pc := 74) X (tgt := 57) dX1_settle_74 (by decide) ?_
      exact ww_sub [1, 2, 0] rfl (ih57 x10 σ8 hF)
    · refine ww_iload_n (pc := 69) X (j := 2) dX1_settle_69 rfl rfl ?_
      exact ww_iret (pc := 70) X dX1_settle_70 (fst_of hF) (snd_of hF)
set_option maxRecDepth 100000 in
set_option maxHeartbeats 4000000 in
theorem wbX1_settle_2 {M : gM} {G : gG} {out : Int32 × gS} (X : gX M G zC cX1_settle RX1 3 wsX1_settle rmX1_settle (some .int)) {ex : gEx} (hZ : ∀ s : State, G.2.2.2 s → kC ex (gA G zC.1) s) (σ : gS) (c2_1 : Int32) (rec2 : Int32 → gS → Option (Int32 × gS)) (ih2 : ∀ (a2 : Int32) (σ1 : gS), rec2 a2 σ1 = some out → WW M (gQi M G zC out.1 out.2) G zC 3 σ1 2 [(0, .ref (G.2.1 90)), (1, .int c2_1), (2, .int a2)] []) (a2 : Int32) (σ1 : gS) (hF : bX1_settle_2 σ c2_1 rec2 a2 σ1 = some out) : WW M (gQi M G zC out.1 out.2) G zC 3 σ1 2 [(0, .ref (G.2.1 90)), (1, .int c2_1), (2, .int a2)] [] := by
  unfold bX1_settle_2 at hF
  refine ww_iload_n (pc := 2) X (j := 2) dX1_settle_2 rfl rfl ?_
  refine ww_aload_n (pc := 3) X (j := 0) dX1_settle_3 rfl rfl ?_
  refine ww_get (pc := 4) X (ref := "PictureBlock$Mover") (T := TX1) (j := 0) dX1_settle_4 inX1_settle_RX1 shzC_90 clzC_1 (by decide) rfl (List.mem_of_getElem? (i := 1) rfl) rfl ?_
  refine ww_get (pc := 7) X (ref := "PictureBlock$Told") (T := TX8) (j := 0) dX1_settle_7 inX1_settle_RX8 shzC_2 clzC_8 (by decide) rfl (List.mem_of_getElem? (i := 2) rfl) rfl ?_
  refine ww_iconst (pc := 10) X (v := 3) dX1_settle_10 (by decide) ?_
  refine ww_iald (pc := 11) X dX1_settle_11 shzC_3 rfl hF (fun v2 ev2 bv2 hF => ?_)
  refine ww_icmp_ge (pc := 12) (tgt := 55) X dX1_settle_12 (by decide) hF (fun h3 hF => ?_) (fun h3 hF => ?_)
  · refine ww_iconst (pc := 55) X (v := 0) dX1_settle_55 (by decide) ?_
    refine ww_istore_n (pc := 56) X (lv' := [(0, .ref (G.2.1 90)), (1, .int c2_1)]) dX1_settle_56 rfl (by decide) rfl hF (fun x4 ex4 hF => ?_)
    exact ww_sub [1, 2, 0] rfl (lpc_ind (P := (fun (s : Int32 × gS) => WW M (gQi M G zC out.1 out.2) G zC 3 s.2 57 [(0, .ref (G.2.1 90)), (1, .int c2_1), (2, .int s.1)] [])) (fun rec s ih hF => wbX1_settle_57 X hZ σ1 c2_1 (fun a2 σ1 => rec (a2, σ1)) (fun a2 σ1 h => ih (a2, σ1) h) s.1 s.2 hF) K9 (x4, σ1) hF)
  · refine ww_aload_n (pc := 15) X (j := 0) dX1_settle_15 rfl rfl ?_
    refine ww_get (pc := 16) X (ref := "PictureBlock$Mover") (T := TX1) (j := 4) dX1_settle_16 inX1_settle_RX1 shzC_90 clzC_1 (by decide) rfl (List.mem_of_getElem? (i := 3) rfl) rfl ?_
    refine ww_iconst (pc := 19) X (v := 0) dX1_settle_19 (by decide) ?_
    refine ww_aald (pc := 20) X dX1_settle_20 shzC_93 rfl hF (fun h11 hF => ?_)
    show WW M _ G zC _ _ _ _ (.ref (G.2.1 94) :: _)
    refine ww_iload_n (pc := 21) X (j := 2) dX1_settle_21 rfl rfl ?_
    refine ww_aload_n (pc := 22) X (j := 0) dX1_settle_22 rfl rfl ?_
    refine ww_get (pc := 23) X (ref := "PictureBlock$Mover") (T := TX1) (j := 1) dX1_settle_23 inX1_settle_RX1 shzC_90 clzC_1 (by decide) rfl (List.mem_of_getElem? (i := 4) rfl) rfl ?_
    refine ww_iload_n (pc := 26) X (j := 2) dX1_settle_26 rfl rfl ?_
    refine ww_iconst (pc := 27) X (v := 0) dX1_settle_27 (by decide) ?_
    obtain ⟨r13, h12, hF⟩ := bd_some hF
    refine ww_callVi (pc := 28) X (As := [.int a2, .int 0]) (rest := [.int a2, .ref (G.2.1 94)]) dX1_settle_28 (kX5_turned_47 (mL M) G hZ X.2.2.2.2.2.2.1 X.2.2.2.2.2.2.2.1 σ1 a2 0 r13 h12) rfl shzC_47 clzC_5 gX1_settle_X5_turned hyX5_turned ⟨rfl, rfl⟩ ⟨Nat.le_of_ble_eq_true rfl, Nat.le_of_ble_eq_true rfl⟩ rfl rfl (Nat.le_of_ble_eq_true rfl) ?_
    refine ww_iast (pc := 31) X dX1_settle_31 shzC_94 rfl hF (fun σ14 eσ14 bσ14 hF => ?_)
    refine ww_aload_n (pc := 32) X (j := 0) dX1_settle_32 rfl rfl ?_
    refine ww_get (pc := 33) X (ref := "PictureBlock$Mover") (T := TX1) (j := 4) dX1_settle_33 inX1_settle_RX1 shzC_90 clzC_1 (by decide) rfl (List.mem_of_getElem? (i := 3) rfl) rfl ?_
    refine ww_iconst (pc := 36) X (v := 1) dX1_settle_36 (by decide) ?_
    refine ww_aald (pc := 37) X dX1_settle_37 shzC_93 rfl hF (fun h15 hF => ?_)
    show WW M _ G zC _ _ _ _ (.ref (G.2.1 95) :: _)
    refine ww_iload_n (pc := 38) X (j := 2) dX1_settle_38 rfl rfl ?_
    refine ww_aload_n (pc := 39) X (j := 0) dX1_settle_39 rfl rfl ?_
    refine ww_get (pc := 40) X (ref := "PictureBlock$Mover") (T := TX1) (j := 1) dX1_settle_40 inX1_settle_RX1 shzC_90 clzC_1 (by decide) rfl (List.mem_of_getElem? (i := 4) rfl) rfl ?_
    refine ww_iload_n (pc := 43) X (j := 2) dX1_settle_43 rfl rfl ?_
    refine ww_iconst (pc := 44) X (v := 1) dX1_settle_44 (by decide) ?_
    obtain ⟨r17, h16, hF⟩ := bd_some hF
    refine ww_callVi (pc := 45) X (As := [.int a2, .int 1]) (rest := [.int a2, .ref (G.2.1 95)]) dX1_settle_45 (kX5_turned_47 (mL M) G hZ X.2.2.2.2.2.2.1 X.2.2.2.2.2.2.2.1 σ14 a2 1 r17 h16) rfl shzC_47 clzC_5 gX1_settle_X5_turned hyX5_turned ⟨rfl, rfl⟩ ⟨Nat.le_of_ble_eq_true rfl, Nat.le_of_ble_eq_true rfl⟩ rfl rfl (Nat.le_of_ble_eq_true rfl) ?_
    refine ww_iast (pc := 48) X dX1_settle_48 shzC_95 rfl hF (fun σ18 eσ18 bσ18 hF => ?_)
    refine ww_iinc (pc := 49) X (j := 2) (v := 1) (lv' := [(0, .ref (G.2.1 90)), (1, .int c2_1)]) dX1_settle_49 rfl rfl (by decide) rfl hF (fun x19 ex19 hF => ?_)
    refine ww_goto (pc := 52) X (tgt := 2) dX1_settle_52 (by decide) ?_
    exact ww_sub [1, 2, 0] rfl (ih2 x19 σ18 hF)
set_option maxRecDepth 100000 in
set_option maxHeartbeats 4000000 in
theorem wX1_settle {M : gM} {G : gG} {out : Int32 × gS} (X : gX M G zC cX1_settle RX1 3 wsX1_settle rmX1_settle (some .int)) {ex : gEx} (hZ : ∀ s : State, G.2.2.2 s → kC ex (gA G zC.1) s) (σ : gS) (p1 : Int32) (hF : fX1_settle σ p1 = some out) : WW M (gQi M G zC out.1 out.2) G zC 3 σ 0 [(0, .ref (G.2.1 90)), (1, .int p1)] [] := by
  unfold fX1_settle at hF
  refine ww_iconst (pc := 0) X (v := 0) dX1_settle_0 (by decide) ?_
  refine ww_istore_n (pc := 1) X (lv' := [(0, .ref (G.2.1 90)), (1, .int p1)]) dX1_settle_1 rfl (by decide) rfl hF (fun x1 ex1 hF => ?_)
  exact ww_sub [1, 2, 0] rfl (lpc_ind (P := (fun (s : Int32 × gS) => WW M (gQi M G zC out.1 out.2) G zC 3 s.2 2 [(0, .ref (G.2.1 90)), (1, .int p1), (2, .int s.1)] [])) (fun rec s ih hF => wbX1_settle_2 X hZ σ p1 (fun a2 σ1 => rec (a2, σ1)) (fun a2 σ1 h => ih (a2, σ1) h) s.1 s.2 hF) K9 (x1, σ) hF)
set_option maxRecDepth 100000 in
set_option maxHeartbeats 4000000 in
theorem kX1_settle (l : Launch) (G : gG) {ex : gEx} (hZ : ∀ s : State, G.2.2.2 s → kC ex (gA G zC.1) s) (hG : gOK G zC.1) (hT : G.2.2.1.map (fun q => q.2) = zC.2.1) (σ : gS) (p1 : Int32) (out : Int32 × gS) (hF : fX1_settle σ p1 = some out) : gCi l yX1_settle wsX1_settle rmX1_settle G zC [.ref (G.2.1 90), .int p1] σ out.1 out.2 :=
  gEnter (by decide) rfl ⟨rfl, rfl⟩ hG hT (Nat.le_of_ble_eq_true rfl) rfl (fun M X hl => wX1_settle X hZ σ p1 hF)
noncomputable def fX9_rounds (σ : gS) (p1 : Int32) : Option (Int32 × gS) :=
  if p1 < 1 then some ((-1), σ) else if p1 ≤ 500 then bd2 (fX1_settle σ p1) fun r4 σ5 => some (r4, σ5) else some ((-1), σ)
noncomputable abbrev rmX9_rounds : Room := { frames := 5, cells := 0, slots := 0, locals := 122 }
set_option maxRecDepth 100000 in
set_option maxHeartbeats 4000000 in
theorem wX9_rounds {M : gM} {G : gG} {out : Int32 × gS} (X : gX M G zC cX9_rounds RX9 2 wsX9_rounds rmX9_rounds (some .int)) {ex : gEx} (hZ : ∀ s : State, G.2.2.2 s → kC ex (gA G zC.1) s) (σ : gS) (p1 : Int32) (hF : fX9_rounds σ p1 = some out) : WW M (gQi M G zC out.1 out.2) G zC 2 σ 0 [(0, .ref (G.2.1 0)), (1, .int p1)] [] := by
  unfold fX9_rounds at hF
  refine ww_iload_n (pc := 0) X (j := 1) dX9_rounds_0 rfl rfl ?_
  refine ww_iconst (pc := 1) X (v := 1) dX9_rounds_1 (by decide) ?_
  refine ww_icmp_lt (pc := 2) (tgt := 12) X dX9_rounds_2 (by decide) hF (fun h1 hF => ?_) (fun h1 hF => ?_)
  · refine ww_iconst (pc := 12) X (v := (-1)) dX9_rounds_12 (by decide) ?_
    exact ww_iret (pc := 13) X dX9_rounds_13 (fst_of hF) (snd_of hF)
  · refine ww_iload_n (pc := 5) X (j := 1) dX9_rounds_5 rfl rfl ?_
    refine ww_sipush (pc := 6) X (v := 500) dX9_rounds_6 (by decide) ?_
    refine ww_icmp_le (pc := 9) (tgt := 14) X dX9_rounds_9 (by decide) hF (fun h2 hF => ?_) (fun h2 hF => ?_)
    · refine ww_aload_n (pc := 14) X (j := 0) dX9_rounds_14 rfl rfl ?_
      refine ww_get (pc := 15) X (ref := "PictureBlock") (T := TX9) (j := 9) dX9_rounds_15 inX9_rounds_RX9 shzC_0 clzC_9 (by decide) rfl (List.mem_of_getElem? (i := 1) rfl) rfl ?_
      refine ww_iload_n (pc := 18) X (j := 1) dX9_rounds_18 rfl rfl ?_
      obtain ⟨r4, σ5, h3, hF⟩ := bd2_some hF
      refine ww_callVi (pc := 19) X (As := [.int p1]) (rest := []) dX9_rounds_19 (kX1_settle (mL M) G hZ X.2.2.2.2.2.2.1 X.2.2.2.2.2.2.2.1 σ p1 (r4, σ5) h3) rfl shzC_90 clzC_1 gX9_rounds_X1_settle hyX1_settle ⟨rfl, rfl⟩ ⟨Nat.le_of_ble_eq_true rfl, Nat.le_of_ble_eq_true rfl⟩ rfl rfl (Nat.le_of_ble_eq_true rfl) ?_
      exact ww_iret (pc := 22) X dX9_rounds_22 (fst_of hF) (snd_of hF)
    · refine ww_iconst (pc := 12) X (v := (-1)) dX9_rounds_12 (by decide) ?_
      exact ww_iret (pc := 13) X dX9_rounds_13 (fst_of hF) (snd_of hF)
set_option maxRecDepth 100000 in
set_option maxHeartbeats 4000000 in
theorem kX9_rounds (l : Launch) (G : gG) {ex : gEx} (hZ : ∀ s : State, G.2.2.2 s → kC ex (gA G zC.1) s) (hG : gOK G zC.1) (hT : G.2.2.1.map (fun q => q.2) = zC.2.1) (σ : gS) (p1 : Int32) (out : Int32 × gS) (hF : fX9_rounds σ p1 = some out) : gCi l yX9_rounds wsX9_rounds rmX9_rounds G zC [.ref (G.2.1 0), .int p1] σ out.1 out.2 :=
  gEnter (by decide) rfl ⟨rfl, rfl⟩ hG hT (Nat.le_of_ble_eq_true rfl) rfl (fun M X hl => wX9_rounds X hZ σ p1 hF)
noncomputable def fX5_doubtOf_47 (σ : gS) (p1 : Int32) : Option (Int64) :=
  bd (fX5_miss_47 σ p1 0) fun r2 => nm (r2.toInt64 : Int64) fun x3 => bd (fX5_miss_47 σ p1 1) fun r5 => nm (r5.toInt64 : Int64) fun x6 => gd (gb p1 60) <| nm (σ.1 15 p1.toNatClampNeg) fun v7 => some (v7.toInt64 * ((x3 * x3) + (x6 * x6)))
noncomputable abbrev rmX5_doubtOf : Room := { frames := 3, cells := 0, slots := 0, locals := 71 }
set_option maxRecDepth 100000 in
set_option maxHeartbeats 4000000 in
theorem wX5_doubtOf_47 {M : gM} {G : gG} {out : Int64} (X : gX M G zC cX5_doubtOf RX5 6 wsX5_doubtOf rmX5_doubtOf (some .long)) {ex : gEx} (hZ : ∀ s : State, G.2.2.2 s → kC ex (gA G zC.1) s) (σ : gS) (p1 : Int32) (hF : fX5_doubtOf_47 σ p1 = some out) : WW M (gQl M G zC out σ) G zC 6 σ 0 [(0, .ref (G.2.1 47)), (1, .int p1)] [] := by
  unfold fX5_doubtOf_47 at hF
  refine ww_aload_n (pc := 0) X (j := 0) dX5_doubtOf_0 rfl rfl ?_
  refine ww_iload_n (pc := 1) X (j := 1) dX5_doubtOf_1 rfl rfl ?_
  refine ww_iconst (pc := 2) X (v := 0) dX5_doubtOf_2 (by decide) ?_
  obtain ⟨r2, h1, hF⟩ := bd_some hF
  refine ww_callVi (pc := 3) X (As := [.int p1, .int 0]) (rest := []) dX5_doubtOf_3 (kX5_miss_47 (mL M) G hZ X.2.2.2.2.2.2.1 X.2.2.2.2.2.2.2.1 σ p1 0 r2 h1) rfl shzC_47 clzC_5 gX5_doubtOf_X5_miss hyX5_miss ⟨rfl, rfl⟩ ⟨Nat.le_of_ble_eq_true rfl, Nat.le_of_ble_eq_true rfl⟩ rfl rfl (Nat.le_of_ble_eq_true rfl) ?_
  refine ww_i2l (pc := 6) X dX5_doubtOf_6 ?_
  refine ww_lstore_n (pc := 7) X (lv' := [(0, .ref (G.2.1 47)), (1, .int p1)]) dX5_doubtOf_7 rfl (by decide) rfl hF (fun x3 ex3 hF => ?_)
  refine ww_aload_n (pc := 8) X (j := 1) dX5_doubtOf_8 rfl rfl ?_
  refine ww_iload_n (pc := 9) X (j := 2) dX5_doubtOf_9 rfl rfl ?_
  refine ww_iconst (pc := 10) X (v := 1) dX5_doubtOf_10 (by decide) ?_
  obtain ⟨r5, h4, hF⟩ := bd_some hF
  refine ww_callVi (pc := 11) X (As := [.int p1, .int 1]) (rest := []) dX5_doubtOf_11 (kX5_miss_47 (mL M) G hZ X.2.2.2.2.2.2.1 X.2.2.2.2.2.2.2.1 σ p1 1 r5 h4) rfl shzC_47 clzC_5 gX5_doubtOf_X5_miss hyX5_miss ⟨rfl, rfl⟩ ⟨Nat.le_of_ble_eq_true rfl, Nat.le_of_ble_eq_true rfl⟩ rfl rfl (Nat.le_of_ble_eq_true rfl) ?_
  refine ww_i2l (pc := 14) X dX5_doubtOf_14 ?_
  refine ww_lstore (pc := 15) X (lv' := [(2, .long x3), (0, .ref (G.2.1 47)), (1, .int p1)]) dX5_doubtOf_15 (by decide) rfl hF (fun x6 ex6 hF => ?_)
  refine ww_aload_n (pc := 17) X (j := 2) dX5_doubtOf_17 rfl rfl ?_
  refine ww_get (pc := 18) X (ref := "PictureBlock$Stand") (T := TX5) (j := 0) dX5_doubtOf_18 inX5_doubtOf_RX5 shzC_47 clzC_5 (by decide) rfl (List.mem_of_getElem? (i := 1) rfl) rfl ?_
  refine ww_get (pc := 21) X (ref := "PictureBlock$Told") (T := TX8) (j := 7) dX5_doubtOf_21 inX5_doubtOf_RX8 shzC_2 clzC_8 (by decide) rfl (List.mem_of_getElem? (i := 2) rfl) rfl ?_
  refine ww_iload_n (pc := 24) X (j := 3) dX5_doubtOf_24 rfl rfl ?_
  refine ww_iald (pc := 25) X dX5_doubtOf_25 shzC_15 rfl hF (fun v7 ev7 bv7 hF => ?_)
  refine ww_i2l (pc := 26) X dX5_doubtOf_26 ?_
  refine ww_lload_n (pc := 27) X (j := 1) dX5_doubtOf_27 rfl rfl ?_
  refine ww_lload_n (pc := 28) X (j := 1) dX5_doubtOf_28 rfl rfl ?_
  refine ww_lmul (pc := 29) X dX5_doubtOf_29 ?_
  refine ww_lload (pc := 30) X (j := 0) dX5_doubtOf_30 rfl ?_
  refine ww_lload (pc := 32) X (j := 0) dX5_doubtOf_32 rfl ?_
  refine ww_lmul (pc := 34) X dX5_doubtOf_34 ?_
  refine ww_ladd (pc := 35) X dX5_doubtOf_35 ?_
  refine ww_lmul (pc := 36) X dX5_doubtOf_36 ?_
  exact ww_lret (pc := 37) X dX5_doubtOf_37 (Option.some.inj hF) rfl
set_option maxRecDepth 100000 in
set_option maxHeartbeats 4000000 in
theorem kX5_doubtOf_47 (l : Launch) (G : gG) {ex : gEx} (hZ : ∀ s : State, G.2.2.2 s → kC ex (gA G zC.1) s) (hG : gOK G zC.1) (hT : G.2.2.1.map (fun q => q.2) = zC.2.1) (σ : gS) (p1 : Int32) (out : Int64) (hF : fX5_doubtOf_47 σ p1 = some out) : gCl l yX5_doubtOf wsX5_doubtOf rmX5_doubtOf G zC [.ref (G.2.1 47), .int p1] σ out σ :=
  gEnter (by decide) rfl ⟨rfl, rfl⟩ hG hT (Nat.le_of_ble_eq_true rfl) rfl (fun M X hl => wX5_doubtOf_47 X hZ σ p1 hF)
noncomputable def bX5_squares_47_41 (σ : gS) (rec41 : Int64 → Int32 → Option (Int64)) (a1 : Int64) (a3 : Int32) : Option (Int64) :=
  gd (gb 1 6) <| nm (σ.1 3 ((1 : Int32).toNatClampNeg)) fun v6 => (if v6 ≤ a3 then some a1 else gd (gb 0 2) <| gd (gb a3 12) <| nm (σ.1 50 a3.toNatClampNeg) fun v9 => bd (fX5_centreAt_47 σ a3 0) fun r11 => nm ((v9 - r11).toInt64 : Int64) fun x12 => gd (gb 1 2) <| gd (gb a3 12) <| nm (σ.1 51 a3.toNatClampNeg) fun v14 => bd (fX5_centreAt_47 σ a3 1) fun r16 => nm ((v14 - r16).toInt64 : Int64) fun x17 => gd (gb a3 12) <| nm (σ.1 20 a3.toNatClampNeg) fun v18 => nm (a1 + (v18.toInt64 * ((x12 * x12) + (x17 * x17))) : Int64) fun x19 => nm (a3 + 1 : Int32) fun x20 => rec41 x19 x20)
noncomputable def bX5_squares_47_4 (σ : gS) (rec4 : Int64 → Int32 → Option (Int64)) (a1 : Int64) (a3 : Int32) : Option (Int64) :=
  gd (gb 3 6) <| nm (σ.1 3 ((3 : Int32).toNatClampNeg)) fun v3 => (if v3 ≤ a3 then nm (0 : Int32) fun x5 => lpc (S := Int64 × Int32) K9 (fun rec s => bX5_squares_47_41 σ (fun a1 a3 => rec (a1, a3)) s.1 s.2) (a1, x5) else bd (fX5_uses_47 σ a3) fun r22 => (if r22 = 0 then nm (a3 + 1 : Int32) fun x24 => rec4 a1 x24 else bd (fX5_doubtOf_47 σ a3) fun r26 => nm (a1 + r26 : Int64) fun x27 => nm (a3 + 1 : Int32) fun x28 => rec4 x27 x28))
noncomputable def fX5_squares_47 (σ : gS) : Option (Int64) :=
  nm (0 : Int64) fun x1 => nm (0 : Int32) fun x2 => lpc (S := Int64 × Int32) K9 (fun rec s => bX5_squares_47_4 σ (fun a1 a3 => rec (a1, a3)) s.1 s.2) (x1, x2)
noncomputable abbrev rmX5_squares : Room := { frames := 4, cells := 0, slots := 0, locals := 96 }
set_option maxRecDepth 100000 in
set_option maxHeartbeats 4000000 in
theorem wbX5_squares_47_41 {M : gM} {G : gG} {out : Int64} (X : gX M G zC cX5_squares RX5 8 wsX5_squares rmX5_squares (some .long)) {ex : gEx} (hZ : ∀ s : State, G.2.2.2 s → kC ex (gA G zC.1) s) (σ : gS) (rec41 : Int64 → Int32 → Option (Int64)) (ih41 : ∀ (a1 : Int64) (a3 : Int32), rec41 a1 a3 = some out → WW M (gQl M G zC out σ) G zC 8 σ 41 [(0, .ref (G.2.1 47)), (1, .long a1), (3, .int a3)] []) (a1 : Int64) (a3 : Int32) (hF : bX5_squares_47_41 σ rec41 a1 a3 = some out) : WW M (gQl M G zC out σ) G zC 8 σ 41 [(0, .ref (G.2.1 47)), (1, .long a1), (3, .int a3)] [] := by
  unfold bX5_squares_47_41 at hF
  refine ww_iload_n (pc := 41) X (j := 2) dX5_squares_41 rfl rfl ?_
  refine ww_aload_n (pc := 42) X (j := 0) dX5_squares_42 rfl rfl ?_
  refine ww_get (pc := 43) X (ref := "PictureBlock$Stand") (T := TX5) (j := 0) dX5_squares_43 inX5_squares_RX5 shzC_47 clzC_5 (by decide) rfl (List.mem_of_getElem? (i := 1) rfl) rfl ?_
  refine ww_get (pc := 46) X (ref := "PictureBlock$Told") (T := TX8) (j := 0) dX5_squares_46 inX5_squares_RX8 shzC_2 clzC_8 (by decide) rfl (List.mem_of_getElem? (i := 2) rfl) rfl ?_
  refine ww_iconst (pc := 49) X (v := 1) dX5_squares_49 (by decide) ?_
  refine ww_iald (pc := 50) X dX5_squares_50 shzC_3 rfl hF (fun v6 ev6 bv6 hF => ?_)
  refine ww_icmp_ge (pc := 51) (tgt := 121) X dX5_squares_51 (by decide) hF (fun h7 hF => ?_) (fun h7 hF => ?_)
  · refine ww_lload_n (pc := 121) X (j := 1) dX5_squares_121 rfl rfl ?_
    exact ww_lret (pc := 122) X dX5_squares_122 (Option.some.inj hF) rfl
  · refine ww_aload_n (pc := 54) X (j := 0) dX5_squares_54 rfl rfl ?_
    refine ww_get (pc := 55) X (ref := "PictureBlock$Stand") (T := TX5) (j := 3) dX5_squares_55 inX5_squares_RX5 shzC_47 clzC_5 (by decide) rfl (List.mem_of_getElem? (i := 3) rfl) rfl ?_
    refine ww_iconst (pc := 58) X (v := 0) dX5_squares_58 (by decide) ?_
    refine ww_aald (pc := 59) X dX5_squares_59 shzC_49 rfl hF (fun h8 hF => ?_)
    show WW M _ G zC _ _ _ _ (.ref (G.2.1 50) :: _)
    refine ww_iload_n (pc := 60) X (j := 2) dX5_squares_60 rfl rfl ?_
    refine ww_iald (pc := 61) X dX5_squares_61 shzC_50 rfl hF (fun v9 ev9 bv9 hF => ?_)
    refine ww_aload_n (pc := 62) X (j := 0) dX5_squares_62 rfl rfl ?_
    refine ww_iload_n (pc := 63) X (j := 2) dX5_squares_63 rfl rfl ?_
    refine ww_iconst (pc := 64) X (v := 0) dX5_squares_64 (by decide) ?_
    obtain ⟨r11, h10, hF⟩ := bd_some hF
    refine ww_callVi (pc := 65) X (As := [.int a3, .int 0]) (rest := [.int v9]) dX5_squares_65 (kX5_centreAt_47 (mL M) G hZ X.2.2.2.2.2.2.1 X.2.2.2.2.2.2.2.1 σ a3 0 r11 h10) rfl shzC_47 clzC_5 gX5_squares_X5_centreAt hyX5_centreAt ⟨rfl, rfl⟩ ⟨Nat.le_of_ble_eq_true rfl, Nat.le_of_ble_eq_true rfl⟩ rfl rfl (Nat.le_of_ble_eq_true rfl) ?_
    refine ww_isub (pc := 68) X dX5_squares_68 ?_
    refine ww_i2l (pc := 69) X dX5_squares_69 ?_
    refine ww_lstore (pc := 70) X (lv' := [(0, .ref (G.2.1 47)), (1, .long a1), (3, .int a3)]) dX5_squares_70 (by decide) rfl hF (fun x12 ex12 hF => ?_)
    refine ww_aload_n (pc := 72) X (j := 1) dX5_squares_72 rfl rfl ?_
    refine ww_get (pc := 73) X (ref := "PictureBlock$Stand") (T := TX5) (j := 3) dX5_squares_73 inX5_squares_RX5 shzC_47 clzC_5 (by decide) rfl (List.mem_of_getElem? (i := 3) rfl) rfl ?_
    refine ww_iconst (pc := 76) X (v := 1) dX5_squares_76 (by decide) ?_
    refine ww_aald (pc := 77) X dX5_squares_77 shzC_49 rfl hF (fun h13 hF => ?_)
    show WW M _ G zC _ _ _ _ (.ref (G.2.1 51) :: _)
    refine ww_iload_n (pc := 78) X (j := 3) dX5_squares_78 rfl rfl ?_
    refine ww_iald (pc := 79) X dX5_squares_79 shzC_51 rfl hF (fun v14 ev14 bv14 hF => ?_)
    refine ww_aload_n (pc := 80) X (j := 1) dX5_squares_80 rfl rfl ?_
    refine ww_iload_n (pc := 81) X (j := 3) dX5_squares_81 rfl rfl ?_
    refine ww_iconst (pc := 82) X (v := 1) dX5_squares_82 (by decide) ?_
    obtain ⟨r16, h15, hF⟩ := bd_some hF
    refine ww_callVi (pc := 83) X (As := [.int a3, .int 1]) (rest := [.int v14]) dX5_squares_83 (kX5_centreAt_47 (mL M) G hZ X.2.2.2.2.2.2.1 X.2.2.2.2.2.2.2.1 σ a3 1 r16 h15) rfl shzC_47 clzC_5 gX5_squares_X5_centreAt hyX5_centreAt ⟨rfl, rfl⟩ ⟨Nat.le_of_ble_eq_true rfl, Nat.le_of_ble_eq_true rfl⟩ rfl rfl (Nat.le_of_ble_eq_true rfl) ?_
    refine ww_isub (pc := 86) X dX5_squares_86 ?_
    refine ww_i2l (pc := 87) X dX5_squares_87 ?_
    refine ww_lstore (pc := 88) X (lv' := [(4, .long x12), (0, .ref (G.2.1 47)), (1, .long a1), (3, .int a3)]) dX5_squares_88 (by decide) rfl hF (fun x17 ex17 hF => ?_)
    refine ww_lload_n (pc := 90) X (j := 3) dX5_squares_90 rfl rfl ?_
    refine ww_aload_n (pc := 91) X (j := 2) dX5_squares_91 rfl rfl ?_
    refine ww_get (pc := 92) X (ref := "PictureBlock$Stand") (T := TX5) (j := 0) dX5_squares_92 inX5_squares_RX5 shzC_47 clzC_5 (by decide) rfl (List.mem_of_getElem? (i := 1) rfl) rfl ?_
    refine ww_get (pc := 95) X (ref := "PictureBlock$Told") (T := TX8) (j := 10) dX5_squares_95 inX5_squares_RX8 shzC_2 clzC_8 (by decide) rfl (List.mem_of_getElem? (i := 4) rfl) rfl ?_
    refine ww_iload_n (pc := 98) X (j := 4) dX5_squares_98 rfl rfl ?_
    refine ww_iald (pc := 99) X dX5_squares_99 shzC_20 rfl hF (fun v18 ev18 bv18 hF => ?_)
    refine ww_i2l (pc := 100) X dX5_squares_100 ?_
    refine ww_lload (pc := 101) X (j := 1) dX5_squares_101 rfl ?_
    refine ww_lload (pc := 103) X (j := 1) dX5_squares_103 rfl ?_
    refine ww_lmul (pc := 105) X dX5_squares_105 ?_
    refine ww_lload (pc := 106) X (j := 0) dX5_squares_106 rfl ?_
    refine ww_lload (pc := 108) X (j := 0) dX5_squares_108 rfl ?_
    refine ww_lmul (pc := 110) X dX5_squares_110 ?_
    refine ww_ladd (pc := 111) X dX5_squares_111 ?_
    refine ww_lmul (pc := 112) X dX5_squares_112 ?_
    refine ww_ladd (pc := 113) X dX5_squares_113 ?_
    refine ww_lstore_n (pc := 114) X (lv' := [(6, .long x17), (4, .long x12), (0, .ref (G.2.1 47)), (3, .int a3)]) dX5_squares_114 rfl (by decide) rfl hF (fun x19 ex19 hF => ?_)
    refine ww_iinc (pc := 115) X (j := 4) (v := 1) (lv' := [(1, .long x19), (6, .long x17), (4, .long x12), (0, .ref (G.2.1 47))]) dX5_squares_115 rfl rfl (by decide) rfl hF (fun x20 ex20 hF => ?_)
    refine ww_goto (pc := 118) X (tgt := 41) dX5_squares_118 (by decide) ?_
    exact ww_sub [4, 1, 0] rfl (ih41 x19 x20 hF)
set_option maxRecDepth 100000 in
set_option maxHeartbeats 4000000 in
theorem wbX5_squares_47_4 {M : gM} {G : gG} {out : Int64} (X : gX M G zC cX5_squares RX5 8 wsX5_squares rmX5_squares (some .long)) {ex : gEx} (hZ : ∀ s : State, G.2.2.2 s → kC ex (gA G zC.1) s) (σ : gS) (rec4 : Int64 → Int32 → Option (Int64)) (ih4 : ∀ (a1 : Int64) (a3 : Int32), rec4 a1 a3 = some out → WW M (gQl M G zC out σ) G zC 8 σ 4 [(0, .ref (G.2.1 47)), (1, .long a1), (3, .int a3)] []) (a1 : Int64) (a3 : Int32) (hF : bX5_squares_47_4 σ rec4 a1 a3 = some out) : WW M (gQl M G zC out σ) G zC 8 σ 4 [(0, .ref (G.2.1 47)), (1, .long a1), (3, .int a3)] [] := by
  unfold bX5_squares_47_4 at hF
  refine ww_iload_n (pc := 4) X (j := 2) dX5_squares_4 rfl rfl ?_
  refine ww_aload_n (pc := 5) X (j := 0) dX5_squares_5 rfl rfl ?_
  refine ww_get (pc := 6) X (ref := "PictureBlock$Stand") (T := TX5) (j := 0) dX5_squares_6 inX5_squares_RX5 shzC_47 clzC_5 (by decide) rfl (List.mem_of_getElem? (i := 1) rfl) rfl ?_
  refine ww_get (pc := 9) X (ref := "PictureBlock$Told") (T := TX8) (j := 0) dX5_squares_9 inX5_squares_RX8 shzC_2 clzC_8 (by decide) rfl (List.mem_of_getElem? (i := 2) rfl) rfl ?_
  refine ww_iconst (pc := 12) X (v := 3) dX5_squares_12 (by decide) ?_
  refine ww_iald (pc := 13) X dX5_squares_13 shzC_3 rfl hF (fun v3 ev3 bv3 hF => ?_)
  refine ww_icmp_ge (pc := 14) (tgt := 39) X dX5_squares_14 (by decide) hF (fun h4 hF => ?_) (fun h4 hF => ?_)
  · refine ww_iconst (pc := 39) X (v := 0) dX5_squares_39 (by decide) ?_
    refine ww_istore_n (pc := 40) X (lv' := [(0, .ref (G.2.1 47)), (1, .long a1)]) dX5_squares_40 rfl (by decide) rfl hF (fun x5 ex5 hF => ?_)
    exact ww_sub [1, 2, 0] rfl (lpc_ind (P := (fun (s : Int64 × Int32) => WW M (gQl M G zC out σ) G zC 8 σ 41 [(0, .ref (G.2.1 47)), (1, .long s.1), (3, .int s.2)] [])) (fun rec s ih hF => wbX5_squares_47_41 X hZ σ (fun a1 a3 => rec (a1, a3)) (fun a1 a3 h => ih (a1, a3) h) s.1 s.2 hF) K9 (a1, x5) hF)
  · refine ww_aload_n (pc := 17) X (j := 0) dX5_squares_17 rfl rfl ?_
    refine ww_iload_n (pc := 18) X (j := 2) dX5_squares_18 rfl rfl ?_
    obtain ⟨r22, h21, hF⟩ := bd_some hF
    refine ww_callVi (pc := 19) X (As := [.int a3]) (rest := []) dX5_squares_19 (kX5_uses_47 (mL M) G hZ X.2.2.2.2.2.2.1 X.2.2.2.2.2.2.2.1 σ a3 r22 h21) rfl shzC_47 clzC_5 gX5_squares_X5_uses hyX5_uses ⟨rfl, rfl⟩ ⟨Nat.le_of_ble_eq_true rfl, Nat.le_of_ble_eq_true rfl⟩ rfl rfl (Nat.le_of_ble_eq_true rfl) ?_
    refine ww_if_eq (pc := 22) (tgt := 33) X dX5_squares_22 (by decide) hF (fun h23 hF => ?_) (fun h23 hF => ?_)
    · refine ww_iinc (pc := 33) X (j := 2) (v := 1) (lv' := [(0, .ref (G.2.1 47)), (1, .long a1)]) dX5_squares_33 rfl rfl (by decide) rfl hF (fun x24 ex24 hF => ?_)
      refine ww_goto (pc := 36) X (tgt := 4) dX5_squares_36 (by decide) ?_
      exact ww_sub [1, 2, 0] rfl (ih4 a1 x24 hF)
    · refine ww_lload_n (pc := 25) X (j := 1) dX5_squares_25 rfl rfl ?_
      refine ww_aload_n (pc := 26) X (j := 0) dX5_squares_26 rfl rfl ?_
      refine ww_iload_n (pc := 27) X (j := 2) dX5_squares_27 rfl rfl ?_
      obtain ⟨r26, h25, hF⟩ := bd_some hF
      refine ww_callVl (pc := 28) X (As := [.int a3]) (rest := [.long a1]) dX5_squares_28 (kX5_doubtOf_47 (mL M) G hZ X.2.2.2.2.2.2.1 X.2.2.2.2.2.2.2.1 σ a3 r26 h25) rfl shzC_47 clzC_5 gX5_squares_X5_doubtOf hyX5_doubtOf ⟨rfl, rfl⟩ ⟨Nat.le_of_ble_eq_true rfl, Nat.le_of_ble_eq_true rfl⟩ rfl rfl (Nat.le_of_ble_eq_true rfl) ?_
      refine ww_ladd (pc := 31) X dX5_squares_31 ?_
      refine ww_lstore_n (pc := 32) X (lv' := [(0, .ref (G.2.1 47)), (3, .int a3)]) dX5_squares_32 rfl (by decide) rfl hF (fun x27 ex27 hF => ?_)
      refine ww_iinc (pc := 33) X (j := 2) (v := 1) (lv' := [(1, .long x27), (0, .ref (G.2.1 47))]) dX5_squares_33 rfl rfl (by decide) rfl hF (fun x28 ex28 hF => ?_)
      refine ww_goto (pc := 36) X (tgt := 4) dX5_squares_36 (by decide) ?_
      exact ww_sub [2, 1, 0] rfl (ih4 x27 x28 hF)
set_option maxRecDepth 100000 in
set_option maxHeartbeats 4000000 in
theorem wX5_squares_47 {M : gM} {G : gG} {out : Int64} (X : gX M G zC cX5_squares RX5 8 wsX5_squares rmX5_squares (some .long)) {ex : gEx} (hZ : ∀ s : State, G.2.2.2 s → kC ex (gA G zC.1) s) (σ : gS) (hF : fX5_squares_47 σ = some out) : WW M (gQl M G zC out σ) G zC 8 σ 0 [(0, .ref (G.2.1 47))] [] := by
  unfold fX5_squares_47 at hF
  refine ww_lconst (pc := 0) X (v := 0) dX5_squares_0 (by decide) ?_
  refine ww_lstore_n (pc := 1) X (lv' := [(0, .ref (G.2.1 47))]) dX5_squares_1 rfl (by decide) rfl hF (fun x1 ex1 hF => ?_)
  refine ww_iconst (pc := 2) X (v := 0) dX5_squares_2 (by decide) ?_
  refine ww_istore_n (pc := 3) X (lv' := [(1, .long x1), (0, .ref (G.2.1 47))]) dX5_squares_3 rfl (by decide) rfl hF (fun x2 ex2 hF => ?_)
  exact ww_sub [2, 1, 0] rfl (lpc_ind (P := (fun (s : Int64 × Int32) => WW M (gQl M G zC out σ) G zC 8 σ 4 [(0, .ref (G.2.1 47)), (1, .long s.1), (3, .int s.2)] [])) (fun rec s ih hF => wbX5_squares_47_4 X hZ σ (fun a1 a3 => rec (a1, a3)) (fun a1 a3 h => ih (a1, a3) h) s.1 s.2 hF) K9 (x1, x2) hF)
set_option maxRecDepth 100000 in
set_option maxHeartbeats 4000000 in
theorem kX5_squares_47 (l : Launch) (G : gG) {ex : gEx} (hZ : ∀ s : State, G.2.2.2 s → kC ex (gA G zC.1) s) (hG : gOK G zC.1) (hT : G.2.2.1.map (fun q => q.2) = zC.2.1) (σ : gS) (out : Int64) (hF : fX5_squares_47 σ = some out) : gCl l yX5_squares wsX5_squares rmX5_squares G zC [.ref (G.2.1 47)] σ out σ :=
  gEnter (by decide) rfl ⟨rfl, rfl⟩ hG hT (Nat.le_of_ble_eq_true rfl) rfl (fun M X hl => wX5_squares_47 X hZ σ hF)
noncomputable def fX9_sum (σ : gS) : Option (Int64) :=
  bd (fX5_squares_47 σ) fun r2 => some r2
noncomputable abbrev rmX9_sum : Room := { frames := 5, cells := 0, slots := 0, locals := 123 }
set_option maxRecDepth 100000 in
set_option maxHeartbeats 4000000 in
theorem wX9_sum {M : gM} {G : gG} {out : Int64} (X : gX M G zC cX9_sum RX9 1 wsX9_sum rmX9_sum (some .long)) {ex : gEx} (hZ : ∀ s : State, G.2.2.2 s → kC ex (gA G zC.1) s) (σ : gS) (hF : fX9_sum σ = some out) : WW M (gQl M G zC out σ) G zC 1 σ 0 [(0, .ref (G.2.1 0))] [] := by
  unfold fX9_sum at hF
  refine ww_aload_n (pc := 0) X (j := 0) dX9_sum_0 rfl rfl ?_
  refine ww_get (pc := 1) X (ref := "PictureBlock") (T := TX9) (j := 5) dX9_sum_1 inX9_sum_RX9 shzC_0 clzC_9 (by decide) rfl (List.mem_of_getElem? (i := 1) rfl) rfl ?_
  obtain ⟨r2, h1, hF⟩ := bd_some hF
  refine ww_callVl (pc := 4) X (As := []) (rest := []) dX9_sum_4 (kX5_squares_47 (mL M) G hZ X.2.2.2.2.2.2.1 X.2.2.2.2.2.2.2.1 σ r2 h1) rfl shzC_47 clzC_5 gX9_sum_X5_squares hyX5_squares ⟨rfl, rfl⟩ ⟨Nat.le_of_ble_eq_true rfl, Nat.le_of_ble_eq_true rfl⟩ rfl rfl (Nat.le_of_ble_eq_true rfl) ?_
  exact ww_lret (pc := 7) X dX9_sum_7 (Option.some.inj hF) rfl
set_option maxRecDepth 100000 in
set_option maxHeartbeats 4000000 in
theorem kX9_sum (l : Launch) (G : gG) {ex : gEx} (hZ : ∀ s : State, G.2.2.2 s → kC ex (gA G zC.1) s) (hG : gOK G zC.1) (hT : G.2.2.1.map (fun q => q.2) = zC.2.1) (σ : gS) (out : Int64) (hF : fX9_sum σ = some out) : gCl l yX9_sum wsX9_sum rmX9_sum G zC [.ref (G.2.1 0)] σ out σ :=
  gEnter (by decide) rfl ⟨rfl, rfl⟩ hG hT (Nat.le_of_ble_eq_true rfl) rfl (fun M X hl => wX9_sum X hZ σ hF)
noncomputable def fX4_driftOf (σ : gS) (p1 : Int32) : Option (Int32) :=
  gd (gb p1 12) <| nm (σ.1 8 p1.toNatClampNeg) fun v1 => some (32 + v1)
noncomputable abbrev rmX4_driftOf : Room := { frames := 0, cells := 0, slots := 0, locals := 0 }
set_option maxRecDepth 100000 in
set_option maxHeartbeats 4000000 in
theorem wX4_driftOf {M : gM} {G : gG} {out : Int32} (X : gX M G zC cX4_driftOf RX4 2 wsX4_driftOf rmX4_driftOf (some .int)) {ex : gEx} (hZ : ∀ s : State, G.2.2.2 s → kC ex (gA G zC.1) s) (σ : gS) (p1 : Int32) (hF : fX4_driftOf σ p1 = some out) : WW M (gQi M G zC out σ) G zC 2 σ 0 [(0, .ref (G.2.1 96)), (1, .int p1)] [] := by
  unfold fX4_driftOf at hF
  refine ww_bipush (pc := 0) X (v := 32) dX4_driftOf_0 (by decide) ?_
  refine ww_aload_n (pc := 2) X (j := 0) dX4_driftOf_2 rfl rfl ?_
  refine ww_get (pc := 3) X (ref := "PictureBlock$Solver") (T := TX4) (j := 0) dX4_driftOf_3 inX4_driftOf_RX4 shzC_96 clzC_4 (by decide) rfl (List.mem_of_getElem? (i := 1) rfl) rfl ?_
  refine ww_get (pc := 6) X (ref := "PictureBlock$Told") (T := TX8) (j := 2) dX4_driftOf_6 inX4_driftOf_RX8 shzC_2 clzC_8 (by decide) rfl (List.mem_of_getElem? (i := 2) rfl) rfl ?_
  refine ww_iload_n (pc := 9) X (j := 1) dX4_driftOf_9 rfl rfl ?_
  refine ww_iald (pc := 10) X dX4_driftOf_10 shzC_8 rfl hF (fun v1 ev1 bv1 hF => ?_)
  refine ww_iadd (pc := 11) X dX4_driftOf_11 ?_
  exact ww_iret (pc := 12) X dX4_driftOf_12 (Option.some.inj hF) rfl
set_option maxRecDepth 100000 in
set_option maxHeartbeats 4000000 in
theorem kX4_driftOf (l : Launch) (G : gG) {ex : gEx} (hZ : ∀ s : State, G.2.2.2 s → kC ex (gA G zC.1) s) (hG : gOK G zC.1) (hT : G.2.2.1.map (fun q => q.2) = zC.2.1) (σ : gS) (p1 : Int32) (out : Int32) (hF : fX4_driftOf σ p1 = some out) : gCi l yX4_driftOf wsX4_driftOf rmX4_driftOf G zC [.ref (G.2.1 96), .int p1] σ out σ :=
  gEnter (by decide) rfl ⟨rfl, rfl⟩ hG hT (Nat.le_of_ble_eq_true rfl) rfl (fun M X hl => wX4_driftOf X hZ σ p1 hF)
noncomputable def bX4_numberUnknowns_156 (σ : gS) (rec156 : Int32 → gS → Option (gS)) (a1 : Int32) (σ1 : gS) : Option (gS) :=
  if 38 ≤ a1 then some σ1 else gd (gb a1 38) <| nm (σ1.1 97 a1.toNatClampNeg) fun v12 => (if v12 = ((-1)) then nm (a1 + 1 : Int32) fun x17 => rec156 x17 σ1 else gd (gb a1 38) <| nm (gsI σ1 97 a1.toNatClampNeg (σ1.1 96 4)) fun σ14 => nm (gsI σ14 96 4 ((σ14.1 96 4) + 1)) fun σ15 => nm (a1 + 1 : Int32) fun x16 => rec156 x16 σ15)
noncomputable def bX4_numberUnknowns_97 (σ : gS) (rec97 : Int32 → gS → Option (gS)) (a1 : Int32) (σ1 : gS) : Option (gS) :=
  gd (gb 1 6) <| nm (σ1.1 3 ((1 : Int32).toNatClampNeg)) fun v7 => (if v7 ≤ a1 then nm (gsI σ1 96 4 0) fun σ9 => nm (0 : Int32) fun x10 => lpc (S := Int32 × gS) K9 (fun rec s => bX4_numberUnknowns_156 σ9 (fun a1 σ1 => rec (a1, σ1)) s.1 s.2) (x10, σ9) else gd (gb a1 12) <| nm (σ1.1 20 a1.toNatClampNeg) fun v18 => (if v18 = 0 then nm (a1 + 1 : Int32) fun x25 => rec97 x25 σ1 else gd (gb a1 38) <| nm (gsI σ1 97 a1.toNatClampNeg 0) fun σ20 => bd (fX4_driftOf σ20 a1) fun r22 => gd (gb r22 38) <| nm (gsI σ20 97 r22.toNatClampNeg 0) fun σ23 => nm (a1 + 1 : Int32) fun x24 => rec97 x24 σ23))
noncomputable def bX4_numberUnknowns_10 (σ : gS) (rec10 : Int32 → gS → Option (gS)) (a1 : Int32) (σ1 : gS) : Option (gS) :=
  gd (gb 3 6) <| nm (σ1.1 3 ((3 : Int32).toNatClampNeg)) fun v4 => (if v4 ≤ a1 then nm (0 : Int32) fun x6 => lpc (S := Int32 × gS) K9 (fun rec s => bX4_numberUnknowns_97 σ1 (fun a1 σ1 => rec (a1, σ1)) s.1 s.2) (x6, σ1) else bd (fX5_uses_47 σ1 a1) fun r27 => (if r27 = 0 then nm (a1 + 1 : Int32) fun x39 => rec10 x39 σ1 else gd (gb a1 60) <| nm (σ1.1 10 a1.toNatClampNeg) fun v29 => gd (gb v29 38) <| nm (gsI σ1 97 v29.toNatClampNeg 0) fun σ30 => gd (gb a1 60) <| nm (σ30.1 11 a1.toNatClampNeg) fun v31 => bd (fX5_isFixed_47 σ30 v31) fun r33 => (if r33 = 0 then gd (gb a1 60) <| nm (σ30.1 11 a1.toNatClampNeg) fun v36 => gd (gb (12 + v36) 38) <| nm (gsI σ30 97 (12 + v36).toNatClampNeg 0) fun σ37 => nm (a1 + 1 : Int32) fun x38 => rec10 x38 σ37 else nm (a1 + 1 : Int32) fun x35 => rec10 x35 σ30)))
noncomputable def fX4_numberUnknowns (σ : gS) : Option (gS) :=
  bd (fJ7_fill_53178 σ 97 ((-1))) fun σ2 => nm (0 : Int32) fun x3 => lpc (S := Int32 × gS) K9 (fun rec s => bX4_numberUnknowns_10 σ2 (fun a1 σ1 => rec (a1, σ1)) s.1 s.2) (x3, σ2)
noncomputable abbrev rmX4_numberUnknowns : Room := { frames := 1, cells := 0, slots := 0, locals := 23 }
set_option maxRecDepth 100000 in
set_option maxHeartbeats 4000000 in
theorem wbX4_numberUnknowns_156 {M : gM} {G : gG} {out : gS} (X : gX M G zC cX4_numberUnknowns RX4 2 wsX4_numberUnknowns rmX4_numberUnknowns none) {ex : gEx} (hZ : ∀ s : State, G.2.2.2 s → kC ex (gA G zC.1) s) (σ : gS) (rec156 : Int32 → gS → Option (gS)) (ih156 : ∀ (a1 : Int32) (σ1 : gS), rec156 a1 σ1 = some out → WW M (gQv M G zC out) G zC 2 σ1 156 [(0, .ref (G.2.1 96)), (1, .int a1)] []) (a1 : Int32) (σ1 : gS) (hF : bX4_numberUnknowns_156 σ rec156 a1 σ1 = some out) : WW M (gQv M G zC out) G zC 2 σ1 156 [(0, .ref (G.2.1 96)), (1, .int a1)] [] := by
  unfold bX4_numberUnknowns_156 at hF
  refine ww_iload_n (pc := 156) X (j := 1) dX4_numberUnknowns_156 rfl rfl ?_
  refine ww_bipush (pc := 157) X (v := 38) dX4_numberUnknowns_157 (by decide) ?_
  refine ww_icmp_ge (pc := 159) (tgt := 201) X dX4_numberUnknowns_159 (by decide) hF (fun h11 hF => ?_) (fun h11 hF => ?_)
  · exact ww_vret (pc := 201) X dX4_numberUnknowns_201 (by cases hF; rfl)
  · refine ww_aload_n (pc := 162) X (j := 0) dX4_numberUnknowns_162 rfl rfl ?_
    refine ww_get (pc := 163) X (ref := "PictureBlock$Solver") (T := TX4) (j := 2) dX4_numberUnknowns_163 inX4_numberUnknowns_RX4 shzC_96 clzC_4 (by decide) rfl (List.mem_of_getElem? (i := 1) rfl) rfl ?_
    refine ww_iload_n (pc := 166) X (j := 1) dX4_numberUnknowns_166 rfl rfl ?_
    refine ww_iald (pc := 167) X dX4_numberUnknowns_167 shzC_97 rfl hF (fun v12 ev12 bv12 hF => ?_)
    refine ww_iconst (pc := 168) X (v := (-1)) dX4_numberUnknowns_168 (by decide) ?_
    refine ww_icmp_ne (pc := 169) (tgt := 175) X dX4_numberUnknowns_169 (by decide) hF (fun h13 hF => ?_) (fun h13 hF => ?_)
    · refine ww_aload_n (pc := 175) X (j := 0) dX4_numberUnknowns_175 rfl rfl ?_
      refine ww_get (pc := 176) X (ref := "PictureBlock$Solver") (T := TX4) (j := 2) dX4_numberUnknowns_176 inX4_numberUnknowns_RX4 shzC_96 clzC_4 (by decide) rfl (List.mem_of_getElem? (i := 1) rfl) rfl ?_
      refine ww_iload_n (pc := 179) X (j := 1) dX4_numberUnknowns_179 rfl rfl ?_
      refine ww_aload_n (pc := 180) X (j := 0) dX4_numberUnknowns_180 rfl rfl ?_
      refine ww_get (pc := 181) X (ref := "PictureBlock$Solver") (T := TX4) (j := 4) dX4_numberUnknowns_181 inX4_numberUnknowns_RX4 shzC_96 clzC_4 (by decide) rfl (List.mem_of_getElem? (i := 8) rfl) rfl ?_
      refine ww_iast (pc := 184) X dX4_numberUnknowns_184 shzC_97 rfl hF (fun σ14 eσ14 bσ14 hF => ?_)
      refine ww_aload_n (pc := 185) X (j := 0) dX4_numberUnknowns_185 rfl rfl ?_
      refine ww_dup (pc := 186) X dX4_numberUnknowns_186 rfl ?_
      refine ww_get (pc := 187) X (ref := "PictureBlock$Solver") (T := TX4) (j := 4) dX4_numberUnknowns_187 inX4_numberUnknowns_RX4 shzC_96 clzC_4 (by decide) rfl (List.mem_of_getElem? (i := 8) rfl) rfl ?_
      refine ww_iconst (pc := 190) X (v := 1) dX4_numberUnknowns_190 (by decide) ?_
      refine ww_iadd (pc := 191) X dX4_numberUnknowns_191 ?_
      refine ww_putI (pc := 192) X (ref := "PictureBlock$Solver") (T := TX4) (j := 4) dX4_numberUnknowns_192 inX4_numberUnknowns_RX4 tyX4 tyX4_ok nmX4 shzC_96 clzC_4 (by decide) rfl (List.mem_of_getElem? (i := 8) rfl) rfl rfl (by decide +kernel) hF (fun σ15 eσ15 hF => ?_)
      refine ww_iinc (pc := 195) X (j := 1) (v := 1) (lv' := [(0, .ref (G.2.1 96))]) dX4_numberUnknowns_195 rfl rfl (by decide) rfl hF (fun x16 ex16 hF => ?_)
      refine ww_goto (pc := 198) X (tgt := 156) dX4_numberUnknowns_198 (by decide) ?_
      exact ww_sub [1, 0] rfl (ih156 x16 σ15 hF)
    · refine ww_goto (pc := 172) X (tgt := 195) dX4_numberUnknowns_172 (by decide) ?_
      refine ww_iinc (pc := 195) X (j := 1) (v := 1) (lv' := [(0, .ref (G.2.1 96))]) dX4_numberUnknowns_195 rfl rfl (by decide) rfl hF (fun x17 ex17 hF => ?_)
      refine ww_goto (pc := 198) X (tgt := 156) dX4_numberUnknowns_198 (by decide) ?_
      exact ww_sub [1, 0] rfl (ih156 x17 σ1 hF)
set_option maxRecDepth 100000 in
set_option maxHeartbeats 4000000 in
theorem wbX4_numberUnknowns_97 {M : gM} {G : gG} {out : gS} (X : gX M G zC cX4_numberUnknowns RX4 2 wsX4_numberUnknowns rmX4_numberUnknowns none) {ex : gEx} (hZ : ∀ s : State, G.2.2.2 s → kC ex (gA G zC.1) s) (σ : gS) (rec97 : Int32 → gS → Option (gS)) (ih97 : ∀ (a1 : Int32) (σ1 : gS), rec97 a1 σ1 = some out → WW M (gQv M G zC out) G zC 2 σ1 97 [(0, .ref (G.2.1 96)), (1, .int a1)] []) (a1 : Int32) (σ1 : gS) (hF : bX4_numberUnknowns_97 σ rec97 a1 σ1 = some out) : WW M (gQv M G zC out) G zC 2 σ1 97 [(0, .ref (G.2.1 96)), (1, .int a1)] [] := by
  unfold bX4_numberUnknowns_97 at hF
  refine ww_iload_n (pc := 97) X (j := 1) dX4_numberUnknowns_97 rfl rfl ?_
  refine ww_aload_n (pc := 98) X (j := 0) dX4_numberUnknowns_98 rfl rfl ?_
  refine ww_get (pc := 99) X (ref := "PictureBlock$Solver") (T := TX4) (j := 0) dX4_numberUnknowns_99 inX4_numberUnknowns_RX4 shzC_96 clzC_4 (by decide) rfl (List.mem_of_getElem? (i := 2) rfl) rfl ?_
  refine ww_get (pc := 102) X (ref := "PictureBlock$Told") (T := TX8) (j := 0) dX4_numberUnknowns_102 inX4_numberUnknowns_RX8 shzC_2 clzC_8 (by decide) rfl (List.mem_of_getElem? (i := 3) rfl) rfl ?_
  refine ww_iconst (pc := 105) X (v := 1) dX4_numberUnknowns_105 (by decide) ?_
  refine ww_iald (pc := 106) X dX4_numberUnknowns_106 shzC_3 rfl hF (fun v7 ev7 bv7 hF => ?_)
  refine ww_icmp_ge (pc := 107) (tgt := 149) X dX4_numberUnknowns_107 (by decide) hF (fun h8 hF => ?_) (fun h8 hF => ?_)
  · refine ww_aload_n (pc := 149) X (j := 0) dX4_numberUnknowns_149 rfl rfl ?_
    refine ww_iconst (pc := 150) X (v := 0) dX4_numberUnknowns_150 (by decide) ?_
    refine ww_putI (pc := 151) X (ref := "PictureBlock$Solver") (T := TX4) (j := 4) dX4_numberUnknowns_151 inX4_numberUnknowns_RX4 tyX4 tyX4_ok nmX4 shzC_96 clzC_4 (by decide) rfl (List.mem_of_getElem? (i := 8) rfl) rfl rfl (by decide +kernel) hF (fun σ9 eσ9 hF => ?_)
    refine ww_iconst (pc := 154) X (v := 0) dX4_numberUnknowns_154 (by decide) ?_
    refine ww_istore_n (pc := 155) X (lv' := [(0, .ref (G.2.1 96))]) dX4_numberUnknowns_155 rfl (by decide) rfl hF (fun x10 ex10 hF => ?_)
    exact ww_sub [1, 0] rfl (lpc_ind (P := (fun (s : Int32 × gS) => WW M (gQv M G zC out) G zC 2 s.2 156 [(0, .ref (G.2.1 96)), (1, .int s.1)] [])) (fun rec s ih hF => wbX4_numberUnknowns_156 X hZ σ9 (fun a1 σ1 => rec (a1, σ1)) (fun a1 σ1 h => ih (a1, σ1) h) s.1 s.2 hF) K9 (x10, σ9) hF)
  · refine ww_aload_n (pc := 110) X (j := 0) dX4_numberUnknowns_110 rfl rfl ?_
    refine ww_get (pc := 111) X (ref := "PictureBlock$Solver") (T := TX4) (j := 0) dX4_numberUnknowns_111 inX4_numberUnknowns_RX4 shzC_96 clzC_4 (by decide) rfl (List.mem_of_getElem? (i := 2) rfl) rfl ?_
    refine ww_get (pc := 114) X (ref := "PictureBlock$Told") (T := TX8) (j := 10) dX4_numberUnknowns_114 inX4_numberUnknowns_RX8 shzC_2 clzC_8 (by decide) rfl (List.mem_of_getElem? (i := 7) rfl) rfl ?_
    refine ww_iload_n (pc := 117) X (j := 1) dX4_numberUnknowns_117 rfl rfl ?_
    refine ww_iald (pc := 118) X dX4_numberUnknowns_118 shzC_20 rfl hF (fun v18 ev18 bv18 hF => ?_)
    refine ww_if_ne (pc := 119) (tgt := 125) X dX4_numberUnknowns_119 (by decide) hF (fun h19 hF => ?_) (fun h19 hF => ?_)
    · refine ww_aload_n (pc := 125) X (j := 0) dX4_numberUnknowns_125 rfl rfl ?_
      refine ww_get (pc := 126) X (ref := "PictureBlock$Solver") (T := TX4) (j := 2) dX4_numberUnknowns_126 inX4_numberUnknowns_RX4 shzC_96 clzC_4 (by decide) rfl (List.mem_of_getElem? (i := 1) rfl) rfl ?_
      refine ww_iload_n (pc := 129) X (j := 1) dX4_numberUnknowns_129 rfl rfl ?_
      refine ww_iconst (pc := 130) X (v := 0) dX4_numberUnknowns_130 (by decide) ?_
      refine ww_iast (pc := 131) X dX4_numberUnknowns_131 shzC_97 rfl hF (fun σ20 eσ20 bσ20 hF => ?_)
      refine ww_aload_n (pc := 132) X (j := 0) dX4_numberUnknowns_132 rfl rfl ?_
      refine ww_get (pc := 133) X (ref := "PictureBlock$Solver") (T := TX4) (j := 2) dX4_numberUnknowns_133 inX4_numberUnknowns_RX4 shzC_96 clzC_4 (by decide) rfl (List.mem_of_getElem? (i := 1) rfl) rfl ?_
      refine ww_aload_n (pc := 136) X (j := 0) dX4_numberUnknowns_136 rfl rfl ?_
      refine ww_iload_n (pc := 137) X (j := 1) dX4_numberUnknowns_137 rfl rfl ?_
      obtain ⟨r22, h21, hF⟩ := bd_some hF
      refine ww_callVi (pc := 138) X (As := [.int a1]) (rest := [.ref (G.2.1 97)]) dX4_numberUnknowns_138 (kX4_driftOf (mL M) G hZ X.2.2.2.2.2.2.1 X.2.2.2.2.2.2.2.1 σ20 a1 r22 h21) rfl shzC_96 clzC_4 gX4_numberUnknowns_X4_driftOf hyX4_driftOf ⟨rfl, rfl⟩ ⟨Nat.le_of_ble_eq_true rfl, Nat.le_of_ble_eq_true rfl⟩ rfl rfl (Nat.le_of_ble_eq_true rfl) ?_
      refine ww_iconst (pc := 141) X (v := 0) dX4_numberUnknowns_141 (by decide) ?_
      refine ww_iast (pc := 142) X dX4_numberUnknowns_142 shzC_97 rfl hF (fun σ23 eσ23 bσ23 hF => ?_)
      refine ww_iinc (pc := 143) X (j := 1) (v := 1) (lv' := [(0, .ref (G.2.1 96))]) dX4_numberUnknowns_143 rfl rfl (by decide) rfl hF (fun x24 ex24 hF => ?_)
      refine ww_goto (pc := 146) X (tgt := 97) dX4_numberUnknowns_146 (by decide) ?_
      exact ww_sub [1, 0] rfl (ih97 x24 σ23 hF)
    · refine ww_goto (pc := 122) X (tgt := 143) dX4_numberUnknowns_122 (by decide) ?_
      refine ww_iinc (pc := 143) X (j := 1) (v := 1) (lv' := [(0, .ref (G.2.1 96))]) dX4_numberUnknowns_143 rfl rfl (by decide) rfl hF (fun x25 ex25 hF => ?_)
      refine ww_goto (pc := 146) X (tgt := 97) dX4_numberUnknowns_146 (by decide) ?_
      exact ww_sub [1, 0] rfl (ih97 x25 σ1 hF)
set_option maxRecDepth 100000 in
set_option maxHeartbeats 4000000 in
theorem wbX4_numberUnknowns_10 {M : gM} {G : gG} {out : gS} (X : gX M G zC cX4_numberUnknowns RX4 2 wsX4_numberUnknowns rmX4_numberUnknowns none) {ex : gEx} (hZ : ∀ s : State, G.2.2.2 s → kC ex (gA G zC.1) s) (σ : gS) (rec10 : Int32 → gS → Option (gS)) (ih10 : ∀ (a1 : Int32) (σ1 : gS), rec10 a1 σ1 = some out → WW M (gQv M G zC out) G zC 2 σ1 10 [(0, .ref (G.2.1 96)), (1, .int a1)] []) (a1 : Int32) (σ1 : gS) (hF : bX4_numberUnknowns_10 σ rec10 a1 σ1 = some out) : WW M (gQv M G zC out) G zC 2 σ1 10 [(0, .ref (G.2.1 96)), (1, .int a1)] [] := by
  unfold bX4_numberUnknowns_10 at hF
  refine ww_iload_n (pc := 10) X (j := 1) dX4_numberUnknowns_10 rfl rfl ?_
  refine ww_aload_n (pc := 11) X (j := 0) dX4_numberUnknowns_11 rfl rfl ?_
  refine ww_get (pc := 12) X (ref := "PictureBlock$Solver") (T := TX4) (j := 0) dX4_numberUnknowns_12 inX4_numberUnknowns_RX4 shzC_96 clzC_4 (by decide) rfl (List.mem_of_getElem? (i := 2) rfl) rfl ?_
  refine ww_get (pc := 15) X (ref := "PictureBlock$Told") (T := TX8) (j := 0) dX4_numberUnknowns_15 inX4_numberUnknowns_RX8 shzC_2 clzC_8 (by decide) rfl (List.mem_of_getElem? (i := 3) rfl) rfl ?_
  refine ww_iconst (pc := 18) X (v := 3) dX4_numberUnknowns_18 (by decide) ?_
  refine ww_iald (pc := 19) X dX4_numberUnknowns_19 shzC_3 rfl hF (fun v4 ev4 bv4 hF => ?_)
  refine ww_icmp_ge (pc := 20) (tgt := 95) X dX4_numberUnknowns_20 (by decide) hF (fun h5 hF => ?_) (fun h5 hF => ?_)
  · refine ww_iconst (pc := 95) X (v := 0) dX4_numberUnknowns_95 (by decide) ?_
    refine ww_istore_n (pc := 96) X (lv' := [(0, .ref (G.2.1 96))]) dX4_numberUnknowns_96 rfl (by decide) rfl hF (fun x6 ex6 hF => ?_)
    exact ww_sub [1, 0] rfl (lpc_ind (P := (fun (s : Int32 × gS) => WW M (gQv M G zC out) G zC 2 s.2 97 [(0, .ref (G.2.1 96)), (1, .int s.1)] [])) (fun rec s ih hF => wbX4_numberUnknowns_97 X hZ σ1 (fun a1 σ1 => rec (a1, σ1)) (fun a1 σ1 h => ih (a1, σ1) h) s.1 s.2 hF) K9 (x6, σ1) hF)
  · refine ww_aload_n (pc := 23) X (j := 0) dX4_numberUnknowns_23 rfl rfl ?_
    refine ww_get (pc := 24) X (ref := "PictureBlock$Solver") (T := TX4) (j := 1) dX4_numberUnknowns_24 inX4_numberUnknowns_RX4 shzC_96 clzC_4 (by decide) rfl (List.mem_of_getElem? (i := 4) rfl) rfl ?_
    refine ww_iload_n (pc := 27) X (j := 1) dX4_numberUnknowns_27 rfl rfl ?_
    obtain ⟨r27, h26, hF⟩ := bd_some hF
    refine ww_callVi (pc := 28) X (As := [.int a1]) (rest := []) dX4_numberUnknowns_28 (kX5_uses_47 (mL M) G hZ X.2.2.2.2.2.2.1 X.2.2.2.2.2.2.2.1 σ1 a1 r27 h26) rfl shzC_47 clzC_5 gX4_numberUnknowns_X5_uses hyX5_uses ⟨rfl, rfl⟩ ⟨Nat.le_of_ble_eq_true rfl, Nat.le_of_ble_eq_true rfl⟩ rfl rfl (Nat.le_of_ble_eq_true rfl) ?_
    refine ww_if_ne (pc := 31) (tgt := 37) X dX4_numberUnknowns_31 (by decide) hF (fun h28 hF => ?_) (fun h28 hF => ?_)
    · refine ww_aload_n (pc := 37) X (j := 0) dX4_numberUnknowns_37 rfl rfl ?_
      refine ww_get (pc := 38) X (ref := "PictureBlock$Solver") (T := TX4) (j := 2) dX4_numberUnknowns_38 inX4_numberUnknowns_RX4 shzC_96 clzC_4 (by decide) rfl (List.mem_of_getElem? (i := 1) rfl) rfl ?_
      refine ww_aload_n (pc := 41) X (j := 0) dX4_numberUnknowns_41 rfl rfl ?_
      refine ww_get (pc := 42) X (ref := "PictureBlock$Solver") (T := TX4) (j := 0) dX4_numberUnknowns_42 inX4_numberUnknowns_RX4 shzC_96 clzC_4 (by decide) rfl (List.mem_of_getElem? (i := 2) rfl) rfl ?_
      refine ww_get (pc := 45) X (ref := "PictureBlock$Told") (T := TX8) (j := 4) dX4_numberUnknowns_45 inX4_numberUnknowns_RX8 shzC_2 clzC_8 (by decide) rfl (List.mem_of_getElem? (i := 5) rfl) rfl ?_
      refine ww_iload_n (pc := 48) X (j := 1) dX4_numberUnknowns_48 rfl rfl ?_
      refine ww_iald (pc := 49) X dX4_numberUnknowns_49 shzC_10 rfl hF (fun v29 ev29 bv29 hF => ?_)
      refine ww_iconst (pc := 50) X (v := 0) dX4_numberUnknowns_50 (by decide) ?_
      refine ww_iast (pc := 51) X dX4_numberUnknowns_51 shzC_97 rfl hF (fun σ30 eσ30 bσ30 hF => ?_)
      refine ww_aload_n (pc := 52) X (j := 0) dX4_numberUnknowns_52 rfl rfl ?_
      refine ww_get (pc := 53) X (ref := "PictureBlock$Solver") (T := TX4) (j := 1) dX4_numberUnknowns_53 inX4_numberUnknowns_RX4 shzC_96 clzC_4 (by decide) rfl (List.mem_of_getElem? (i := 4) rfl) rfl ?_
      refine ww_aload_n (pc := 56) X (j := 0) dX4_numberUnknowns_56 rfl rfl ?_
      refine ww_get (pc := 57) X (ref := "PictureBlock$Solver") (T := TX4) (j := 0) dX4_numberUnknowns_57 inX4_numberUnknowns_RX4 shzC_96 clzC_4 (by decide) rfl (List.mem_of_getElem? (i := 2) rfl) rfl ?_
      refine ww_get (pc := 60) X (ref := "PictureBlock$Told") (T := TX8) (j := 5) dX4_numberUnknowns_60 inX4_numberUnknowns_RX8 shzC_2 clzC_8 (by decide) rfl (List.mem_of_getElem? (i := 6) rfl) rfl ?_
      refine ww_iload_n (pc := 63) X (j := 1) dX4_numberUnknowns_63 rfl rfl ?_
      refine ww_iald (pc := 64) X dX4_numberUnknowns_64 shzC_11 rfl hF (fun v31 ev31 bv31 hF => ?_)
      obtain ⟨r33, h32, hF⟩ := bd_some hF
      refine ww_callVi (pc := 65) X (As := [.int v31]) (rest := []) dX4_numberUnknowns_65 (kX5_isFixed_47 (mL M) G hZ X.2.2.2.2.2.2.1 X.2.2.2.2.2.2.2.1 σ30 v31 r33 h32) rfl shzC_47 clzC_5 gX4_numberUnknowns_X5_isFixed hyX5_isFixed ⟨rfl, rfl⟩ ⟨Nat.le_of_ble_eq_true rfl, Nat.le_of_ble_eq_true rfl⟩ rfl rfl (Nat.le_of_ble_eq_true rfl) ?_
      refine ww_if_ne (pc := 68) (tgt := 89) X dX4_numberUnknowns_68 (by decide) hF (fun h34 hF => ?_) (fun h34 hF => ?_)
      · refine ww_iinc (pc := 89) X (j := 1) (v := 1) (lv' := [(0, .ref (G.2.1 96))]) dX4_numberUnknowns_89 rfl rfl (by decide) rfl hF (fun x35 ex35 hF => ?_)
        refine ww_goto (pc := 92) X (tgt := 10) dX4_numberUnknowns_92 (by decide) ?_
        exact ww_sub [1, 0] rfl (ih10 x35 σ30 hF)
      · refine ww_aload_n (pc := 71) X (j := 0) dX4_numberUnknowns_71 rfl rfl ?_
        refine ww_get (pc := 72) X (ref := "PictureBlock$Solver") (T := TX4) (j := 2) dX4_numberUnknowns_72 inX4_numberUnknowns_RX4 shzC_96 clzC_4 (by decide) rfl (List.mem_of_getElem? (i := 1) rfl) rfl ?_
        refine ww_bipush (pc := 75) X (v := 12) dX4_numberUnknowns_75 (by decide) ?_
        refine ww_aload_n (pc := 77) X (j := 0) dX4_numberUnknowns_77 rfl rfl ?_
        refine ww_get (pc := 78) X (ref := "PictureBlock$Solver") (T := TX4) (j := 0) dX4_numberUnknowns_78 inX4_numberUnknowns_RX4 shzC_96 clzC_4 (by decide) rfl (List.mem_of_getElem? (i := 2) rfl) rfl ?_
        refine ww_get (pc := 81) X (ref := "PictureBlock$Told") (T := TX8) (j := 5) dX4_numberUnknowns_81 inX4_numberUnknowns_RX8 shzC_2 clzC_8 (by decide) rfl (List.mem_of_getElem? (i := 6) rfl) rfl ?_
        refine ww_iload_n (pc := 84) X (j := 1) dX4_numberUnknowns_84 rfl rfl ?_
        refine ww_iald (pc := 85) X dX4_numberUnknowns_85 shzC_11 rfl hF (fun v36 ev36 bv36 hF => ?_)
        refine ww_iadd (pc := 86) X dX4_numberUnknowns_86 ?_
        refine ww_iconst (pc := 87) X (v := 0) dX4_numberUnknowns_87 (by decide) ?_
        refine ww_iast (pc := 88) X dX4_numberUnknowns_88 shzC_97 rfl hF (fun σ37 eσ37 bσ37 hF => ?_)
        refine ww_iinc (pc := 89) X (j := 1) (v := 1) (lv' := [(0, .ref (G.2.1 96))]) dX4_numberUnknowns_89 rfl rfl (by decide) rfl hF (fun x38 ex38 hF => ?_)
        refine ww_goto (pc := 92) X (tgt := 10) dX4_numberUnknowns_92 (by decide) ?_
        exact ww_sub [1, 0] rfl (ih10 x38 σ37 hF)
    · refine ww_goto (pc := 34) X (tgt := 89) dX4_numberUnknowns_34 (by decide) ?_
      refine ww_iinc (pc := 89) X (j := 1) (v := 1) (lv' := [(0, .ref (G.2.1 96))]) dX4_numberUnknowns_89 rfl rfl (by decide) rfl hF (fun x39 ex39 hF => ?_)
      refine ww_goto (pc := 92) X (tgt := 10) dX4_numberUnknowns_92 (by decide) ?_
      exact ww_sub [1, 0] rfl (ih10 x39 σ1 hF)
set_option maxRecDepth 100000 in
set_option maxHeartbeats 4000000 in
theorem wX4_numberUnknowns {M : gM} {G : gG} {out : gS} (X : gX M G zC cX4_numberUnknowns RX4 2 wsX4_numberUnknowns rmX4_numberUnknowns none) {ex : gEx} (hZ : ∀ s : State, G.2.2.2 s → kC ex (gA G zC.1) s) (σ : gS) (hF : fX4_numberUnknowns σ = some out) : WW M (gQv M G zC out) G zC 2 σ 0 [(0, .ref (G.2.1 96))] [] := by
  unfold fX4_numberUnknowns at hF
  refine ww_aload_n (pc := 0) X (j := 0) dX4_numberUnknowns_0 rfl rfl ?_
  refine ww_get (pc := 1) X (ref := "PictureBlock$Solver") (T := TX4) (j := 2) dX4_numberUnknowns_1 inX4_numberUnknowns_RX4 shzC_96 clzC_4 (by decide) rfl (List.mem_of_getElem? (i := 1) rfl) rfl ?_
  refine ww_iconst (pc := 4) X (v := (-1)) dX4_numberUnknowns_4 (by decide) ?_
  obtain ⟨σ2, h1, hF⟩ := bd_some hF
  refine ww_callSv (pc := 5) X (As := [.ref (G.2.1 97), .int ((-1))]) (rest := []) dX4_numberUnknowns_5 (kJ7_fill_53178 (mL M) G hZ X.2.2.2.2.2.2.1 X.2.2.2.2.2.2.2.1 σ 97 ((-1)) σ2 h1) rfl gX4_numberUnknowns_J7_fill_53178 hyJ7_fill_53178 ⟨rfl, rfl⟩ ⟨Nat.le_of_ble_eq_true rfl, Nat.le_of_ble_eq_true rfl⟩ rfl rfl (Nat.le_of_ble_eq_true rfl) ?_
  refine ww_iconst (pc := 8) X (v := 0) dX4_numberUnknowns_8 (by decide) ?_
  refine ww_istore_n (pc := 9) X (lv' := [(0, .ref (G.2.1 96))]) dX4_numberUnknowns_9 rfl (by decide) rfl hF (fun x3 ex3 hF => ?_)
  exact ww_sub [1, 0] rfl (lpc_ind (P := (fun (s : Int32 × gS) => WW M (gQv M G zC out) G zC 2 s.2 10 [(0, .ref (G.2.1 96)), (1, .int s.1)] [])) (fun rec s ih hF => wbX4_numberUnknowns_10 X hZ σ2 (fun a1 σ1 => rec (a1, σ1)) (fun a1 σ1 h => ih (a1, σ1) h) s.1 s.2 hF) K9 (x3, σ2) hF)
set_option maxRecDepth 100000 in
set_option maxHeartbeats 4000000 in
theorem kX4_numberUnknowns (l : Launch) (G : gG) {ex : gEx} (hZ : ∀ s : State, G.2.2.2 s → kC ex (gA G zC.1) s) (hG : gOK G zC.1) (hT : G.2.2.1.map (fun q => q.2) = zC.2.1) (σ : gS) (out : gS) (hF : fX4_numberUnknowns σ = some out) : gCv l yX4_numberUnknowns wsX4_numberUnknowns rmX4_numberUnknowns G zC [.ref (G.2.1 96)] σ out :=
  gEnter (by decide) rfl ⟨rfl, rfl⟩ hG hT (Nat.le_of_ble_eq_true rfl) rfl (fun M X hl => wX4_numberUnknowns X hZ σ hF)
noncomputable def fJ9_floorMod_f86c9 (σ : gS) (p0 : Int64) (p2 : Int64) : Option (Int64) :=
  gd (decide (¬ p2 = 0)) <| nm (lrm p0 p2 : Int64) fun x2 => (if 0 ≤ (p0 ^^^ p2) then some x2 else if x2 = 0 then some x2 else some (x2 + p2))
noncomputable abbrev rmJ9_floorMod_f86c9 : Room := { frames := 0, cells := 0, slots := 0, locals := 0 }
set_option maxRecDepth 100000 in
set_option maxHeartbeats 4000000 in
theorem wJ9_floorMod_f86c9 {M : gM} {G : gG} {out : Int64} (X : gX M G zC cJ9_floorMod_f86c9 RJ9 6 wsJ9_floorMod_f86c9 rmJ9_floorMod_f86c9 (some .long)) {ex : gEx} (hZ : ∀ s : State, G.2.2.2 s → kC ex (gA G zC.1) s) (σ : gS) (p0 : Int64) (p2 : Int64) (hF : fJ9_floorMod_f86c9 σ p0 p2 = some out) : WW M (gQl M G zC out σ) G zC 6 σ 0 [(0, .long p0), (2, .long p2)] [] := by
  unfold fJ9_floorMod_f86c9 at hF
  refine ww_lload_n (pc := 0) X (j := 0) dJ9_floorMod_f86c9_0 rfl rfl ?_
  refine ww_lload_n (pc := 1) X (j := 1) dJ9_floorMod_f86c9_1 rfl rfl ?_
  refine ww_lremG (pc := 2) X dJ9_floorMod_f86c9_2 hF (fun h1 hF => ?_)
  refine ww_lstore (pc := 3) X (lv' := [(0, .long p0), (2, .long p2)]) dJ9_floorMod_f86c9_3 (by decide) rfl hF (fun x2 ex2 hF => ?_)
  refine ww_lload_n (pc := 5) X (j := 1) dJ9_floorMod_f86c9_5 rfl rfl ?_
  refine ww_lload_n (pc := 6) X (j := 2) dJ9_floorMod_f86c9_6 rfl rfl ?_
  refine ww_lxor (pc := 7) X dJ9_floorMod_f86c9_7 ?_
  refine ww_lconst (pc := 8) X (v := 0) dJ9_floorMod_f86c9_8 (by decide) ?_
  refine ww_lcmp_ge (pc := 9) (tgt := 25) X dJ9_floorMod_f86c9_9 dJ9_floorMod_f86c9_10 (by decide) hF (fun h3 hF => ?_) (fun h3 hF => ?_)
  · refine ww_lload (pc := 25) X (j := 0) dJ9_floorMod_f86c9_25 rfl ?_
    exact ww_lret (pc := 27) X dJ9_floorMod_f86c9_27 (Option.some.inj hF) rfl
  · refine ww_lload (pc := 13) X (j := 0) dJ9_floorMod_f86c9_13 rfl ?_
    refine ww_lconst (pc := 15) X (v := 0) dJ9_floorMod_f86c9_15 (by decide) ?_
    refine ww_lcmp_eq (pc := 16) (tgt := 25) X dJ9_floorMod_f86c9_16 dJ9_floorMod_f86c9_17 (by decide) hF (fun h4 hF => ?_) (fun h4 hF => ?_)
    · refine ww_lload (pc := 25) X (j := 0) dJ9_floorMod_f86c9_25 rfl ?_
      exact ww_lret (pc := 27) X dJ9_floorMod_f86c9_27 (Option.some.inj hF) rfl
    · refine ww_lload (pc := 20) X (j := 0) dJ9_floorMod_f86c9_20 rfl ?_
      refine ww_lload_n (pc := 22) X (j := 2) dJ9_floorMod_f86c9_22 rfl rfl ?_
      refine ww_ladd (pc := 23) X dJ9_floorMod_f86c9_23 ?_
      exact ww_lret (pc := 24) X dJ9_floorMod_f86c9_24 (Option.some.inj hF) rfl
set_option maxRecDepth 100000 in
set_option maxHeartbeats 4000000 in
theorem kJ9_floorMod_f86c9 (l : Launch) (G : gG) {ex : gEx} (hZ : ∀ s : State, G.2.2.2 s → kC ex (gA G zC.1) s) (hG : gOK G zC.1) (hT : G.2.2.1.map (fun q => q.2) = zC.2.1) (σ : gS) (p0 : Int64) (p2 : Int64) (out : Int64) (hF : fJ9_floorMod_f86c9 σ p0 p2 = some out) : gCl l yJ9_floorMod_f86c9 wsJ9_floorMod_f86c9 rmJ9_floorMod_f86c9 G zC [.long p0, .long p2] σ out σ :=
  gEnterF (by decide +kernel) rfl ⟨rfl, rfl⟩ hG hT (Nat.le_of_ble_eq_true rfl) rfl (fun M X hl => wJ9_floorMod_f86c9 X hZ σ p0 p2 hF)
noncomputable def fX4_addHold (σ : gS) (p1 : Int32) (p2 : Int32) (p3 : Int32) : Option (gS) :=
  gd (gb p1 38) <| nm (σ.1 97 p1.toNatClampNeg) fun v1 => nm (v1 : Int32) fun x2 => (if x2 = ((-1)) then some σ else gd (gb x2 38) <| gd (gb x2 39) <| nm (σ.2 (99 + x2.toNatClampNeg) x2.toNatClampNeg) fun v5 => gd (gb x2 39) <| nm (gsL σ (99 + x2.toNatClampNeg) x2.toNatClampNeg (v5 + p2.toInt64)) fun σ6 => gd (gb x2 38) <| gd (gb (σ6.1 96 4) 39) <| nm (σ6.2 (99 + x2.toNatClampNeg) (σ6.1 96 4).toNatClampNeg) fun v8 => gd (gb (σ6.1 96 4) 39) <| nm (gsL σ6 (99 + x2.toNatClampNeg) (σ6.1 96 4).toNatClampNeg (v8 + (p2.toInt64 * p3.toInt64))) fun σ9 => some σ9)
noncomputable abbrev rmX4_addHold : Room := { frames := 0, cells := 0, slots := 0, locals := 0 }
set_option maxRecDepth 100000 in
set_option maxHeartbeats 4000000 in
theorem wX4_addHold {M : gM} {G : gG} {out : gS} (X : gX M G zC cX4_addHold RX4 5 wsX4_addHold rmX4_addHold none) {ex : gEx} (hZ : ∀ s : State, G.2.2.2 s → kC ex (gA G zC.1) s) (σ : gS) (p1 : Int32) (p2 : Int32) (p3 : Int32) (hF : fX4_addHold σ p1 p2 p3 = some out) : WW M (gQv M G zC out) G zC 5 σ 0 [(0, .ref (G.2.1 96)), (1, .int p1), (2, .int p2), (3, .int p3)] [] := by
  unfold fX4_addHold at hF
  refine ww_aload_n (pc := 0) X (j := 0) dX4_addHold_0 rfl rfl ?_
  refine ww_get (pc := 1) X (ref := "PictureBlock$Solver") (T := TX4) (j := 2) dX4_addHold_1 inX4_addHold_RX4 shzC_96 clzC_4 (by decide) rfl (List.mem_of_getElem? (i := 1) rfl) rfl ?_
  refine ww_iload_n (pc := 4) X (j := 1) dX4_addHold_4 rfl rfl ?_
  refine ww_iald (pc := 5) X dX4_addHold_5 shzC_97 rfl hF (fun v1 ev1 bv1 hF => ?_)
  refine ww_istore (pc := 6) X (lv' := [(0, .ref (G.2.1 96)), (1, .int p1), (2, .int p2), (3, .int p3)]) dX4_addHold_6 (by decide) rfl hF (fun x2 ex2 hF => ?_)
  refine ww_iload (pc := 8) X (j := 0) dX4_addHold_8 rfl ?_
  refine ww_iconst (pc := 10) X (v := (-1)) dX4_addHold_10 (by decide) ?_
  refine ww_icmp_ne (pc := 11) (tgt := 15) X dX4_addHold_11 (by decide) hF (fun h3 hF => ?_) (fun h3 hF => ?_)
  · refine ww_aload_n (pc := 15) X (j := 1) dX4_addHold_15 rfl rfl ?_
    refine ww_get (pc := 16) X (ref := "PictureBlock$Solver") (T := TX4) (j := 3) dX4_addHold_16 inX4_addHold_RX4 shzC_96 clzC_4 (by decide) rfl (List.mem_of_getElem? (i := 2) rfl) rfl ?_
    refine ww_iload (pc := 19) X (j := 0) dX4_addHold_19 rfl ?_
    refine ww_aald (pc := 21) X dX4_addHold_21 shzC_98 rfl hF (fun h4 hF => ?_)
    refine ww_iload (pc := 22) X (j := 0) dX4_addHold_22 rfl ?_
    refine ww_dup2_11 (pc := 24) X dX4_addHold_24 rfl rfl ?_
    refine ww_lald (pc := 25) X dX4_addHold_25 (rwzC_98 _ (gb_lt h4)) rfl hF (fun v5 ev5 bv5 hF => ?_)
    refine ww_iload_n (pc := 26) X (j := 3) dX4_addHold_26 rfl rfl ?_
    refine ww_i2l (pc := 27) X dX4_addHold_27 ?_
    refine ww_ladd (pc := 28) X dX4_addHold_28 ?_
    refine ww_last (pc := 29) X dX4_addHold_29 (rwzC_98 _ (gb_lt h4)) rfl hF (fun σ6 eσ6 bσ6 hF => ?_)
    refine ww_aload_n (pc := 30) X (j := 1) dX4_addHold_30 rfl rfl ?_
    refine ww_get (pc := 31) X (ref := "PictureBlock$Solver") (T := TX4) (j := 3) dX4_addHold_31 inX4_addHold_RX4 shzC_96 clzC_4 (by decide) rfl (List.mem_of_getElem? (i := 2) rfl) rfl ?_
    refine ww_iload (pc := 34) X (j := 0) dX4_addHold_34 rfl ?_
    refine ww_aald (pc := 36) X dX4_addHold_36 shzC_98 rfl hF (fun h7 hF => ?_)
    refine ww_aload_n (pc := 37) X (j := 1) dX4_addHold_37 rfl rfl ?_
    refine ww_get (pc := 38) X (ref := "PictureBlock$Solver") (T := TX4) (j := 4) dX4_addHold_38 inX4_addHold_RX4 shzC_96 clzC_4 (by decide) rfl (List.mem_of_getElem? (i := 3) rfl) rfl ?_
    refine ww_dup2_11 (pc := 41) X dX4_addHold_41 rfl rfl ?_
    refine ww_lald (pc := 42) X dX4_addHold_42 (rwzC_98 _ (gb_lt h7)) rfl hF (fun v8 ev8 bv8 hF => ?_)
    refine ww_iload_n (pc := 43) X (j := 3) dX4_addHold_43 rfl rfl ?_
    refine ww_i2l (pc := 44) X dX4_addHold_44 ?_
    refine ww_iload_n (pc := 45) X (j := 4) dX4_addHold_45 rfl rfl ?_
    refine ww_i2l (pc := 46) X dX4_addHold_46 ?_
    refine ww_lmul (pc := 47) X dX4_addHold_47 ?_
    refine ww_ladd (pc := 48) X dX4_addHold_48 ?_
    refine ww_last (pc := 49) X dX4_addHold_49 (rwzC_98 _ (gb_lt h7)) rfl hF (fun σ9 eσ9 bσ9 hF => ?_)
    exact ww_vret (pc := 50) X dX4_addHold_50 (by cases hF; rfl)
  · exact ww_vret (pc := 14) X dX4_addHold_14 (by cases hF; rfl)
set_option maxRecDepth 100000 in
set_option maxHeartbeats 4000000 in
theorem kX4_addHold (l : Launch) (G : gG) {ex : gEx} (hZ : ∀ s : State, G.2.2.2 s → kC ex (gA G zC.1) s) (hG : gOK G zC.1) (hT : G.2.2.1.map (fun q => q.2) = zC.2.1) (σ : gS) (p1 : Int32) (p2 : Int32) (p3 : Int32) (out : gS) (hF : fX4_addHold σ p1 p2 p3 = some out) : gCv l yX4_addHold wsX4_addHold rmX4_addHold G zC [.ref (G.2.1 96), .int p1, .int p2, .int p3] σ out :=
  gEnter (by decide) rfl ⟨rfl, rfl⟩ hG hT (Nat.le_of_ble_eq_true rfl) rfl (fun M X hl => wX4_addHold X hZ σ p1 p2 p3 hF)
noncomputable def fX4_addTerm (σ : gS) (p1 : Int32) (p2 : Int32) (p3 : Int32) (p4 : Int32) : Option (gS) :=
  gd (gb p1 38) <| nm (σ.1 97 p1.toNatClampNeg) fun v1 => nm (v1 : Int32) fun x2 => gd (gb p2 38) <| nm (σ.1 97 p2.toNatClampNeg) fun v3 => nm (v3 : Int32) fun x4 => (if x2 = ((-1)) then some σ else if x4 = ((-1)) then some σ else bd (fX4_addHold σ p1 p3 p4) fun σ8 => bd (fX4_addHold σ8 p2 p3 (-p4)) fun σ10 => gd (gb x2 38) <| gd (gb x4 39) <| nm (σ10.2 (99 + x2.toNatClampNeg) x4.toNatClampNeg) fun v12 => gd (gb x4 39) <| nm (gsL σ10 (99 + x2.toNatClampNeg) x4.toNatClampNeg (v12 - p3.toInt64)) fun σ13 => gd (gb x4 38) <| gd (gb x2 39) <| nm (σ13.2 (99 + x4.toNatClampNeg) x2.toNatClampNeg) fun v15 => gd (gb x2 39) <| nm (gsL σ13 (99 + x4.toNatClampNeg) x2.toNatClampNeg (v15 - p3.toInt64)) fun σ16 => some σ16)
noncomputable abbrev rmX4_addTerm : Room := { frames := 1, cells := 0, slots := 0, locals := 24 }
set_option maxRecDepth 100000 in
set_option maxHeartbeats 4000000 in
theorem wX4_addTerm {M : gM} {G : gG} {out : gS} (X : gX M G zC cX4_addTerm RX4 7 wsX4_addTerm rmX4_addTerm none) {ex : gEx} (hZ : ∀ s : State, G.2.2.2 s → kC ex (gA G zC.1) s) (σ : gS) (p1 : Int32) (p2 : Int32) (p3 : Int32) (p4 : Int32) (hF : fX4_addTerm σ p1 p2 p3 p4 = some out) : WW M (gQv M G zC out) G zC 7 σ 0 [(0, .ref (G.2.1 96)), (1, .int p1), (2, .int p2), (3, .int p3), (4, .int p4)] [] := by
  unfold fX4_addTerm at hF
  refine ww_aload_n (pc := 0) X (j := 0) dX4_addTerm_0 rfl rfl ?_
  refine ww_get (pc := 1) X (ref := "PictureBlock$Solver") (T := TX4) (j := 2) dX4_addTerm_1 inX4_addTerm_RX4 shzC_96 clzC_4 (by decide) rfl (List.mem_of_getElem? (i := 1) rfl) rfl ?_
  refine ww_iload_n (pc := 4) X (j := 1) dX4_addTerm_4 rfl rfl ?_
  refine ww_iald (pc := 5) X dX4_addTerm_5 shzC_97 rfl hF (fun v1 ev1 bv1 hF => ?_)
  refine ww_istore (pc := 6) X (lv' := [(0, .ref (G.2.1 96)), (1, .int p1), (2, .int p2), (3, .int p3), (4, .int p4)]) dX4_addTerm_6 (by decide) rfl hF (fun x2 ex2 hF => ?_)
  refine ww_aload_n (pc := 8) X (j := 1) dX4_addTerm_8 rfl rfl ?_
  refine ww_get (pc := 9) X (ref := "PictureBlock$Solver") (T := TX4) (j := 2) dX4_addTerm_9 inX4_addTerm_RX4 shzC_96 clzC_4 (by decide) rfl (List.mem_of_getElem? (i := 1) rfl) rfl ?_
  refine ww_iload_n (pc := 12) X (j := 3) dX4_addTerm_12 rfl rfl ?_
  refine ww_iald (pc := 13) X dX4_addTerm_13 shzC_97 rfl hF (fun v3 ev3 bv3 hF => ?_)
  refine ww_istore (pc := 14) X (lv' := [(5, .int x2), (0, .ref (G.2.1 96)), (1, .int p1), (2, .int p2), (3, .int p3), (4, .int p4)]) dX4_addTerm_14 (by decide) rfl hF (fun x4 ex4 hF => ?_)
  refine ww_iload (pc := 16) X (j := 1) dX4_addTerm_16 rfl ?_
  refine ww_iconst (pc := 18) X (v := (-1)) dX4_addTerm_18 (by decide) ?_
  refine ww_icmp_eq (pc := 19) (tgt := 28) X dX4_addTerm_19 (by decide) hF (fun h5 hF => ?_) (fun h5 hF => ?_)
  · exact ww_vret (pc := 28) X dX4_addTerm_28 (by cases hF; rfl)
  · refine ww_iload (pc := 22) X (j := 0) dX4_addTerm_22 rfl ?_
    refine ww_iconst (pc := 24) X (v := (-1)) dX4_addTerm_24 (by decide) ?_
    refine ww_icmp_ne (pc := 25) (tgt := 29) X dX4_addTerm_25 (by decide) hF (fun h6 hF => ?_) (fun h6 hF => ?_)
    · refine ww_aload_n (pc := 29) X (j := 2) dX4_addTerm_29 rfl rfl ?_
      refine ww_iload_n (pc := 30) X (j := 3) dX4_addTerm_30 rfl rfl ?_
      refine ww_iload_n (pc := 31) X (j := 5) dX4_addTerm_31 rfl rfl ?_
      refine ww_iload (pc := 32) X (j := 6) dX4_addTerm_32 rfl ?_
      obtain ⟨σ8, h7, hF⟩ := bd_some hF
      refine ww_callVv (pc := 34) X (As := [.int p1, .int p3, .int p4]) (rest := []) dX4_addTerm_34 (kX4_addHold (mL M) G hZ X.2.2.2.2.2.2.1 X.2.2.2.2.2.2.2.1 σ p1 p3 p4 σ8 h7) rfl shzC_96 clzC_4 gX4_addTerm_X4_addHold hyX4_addHold ⟨rfl, rfl⟩ ⟨Nat.le_of_ble_eq_true rfl, Nat.le_of_ble_eq_true rfl⟩ rfl rfl (Nat.le_of_ble_eq_true rfl) ?_
      refine ww_aload_n (pc := 37) X (j := 2) dX4_addTerm_37 rfl rfl ?_
      refine ww_iload_n (pc := 38) X (j := 4) dX4_addTerm_38 rfl rfl ?_
      refine ww_iload_n (pc := 39) X (j := 5) dX4_addTerm_39 rfl rfl ?_
      refine ww_iload (pc := 40) X (j := 6) dX4_addTerm_40 rfl ?_
      refine ww_ineg (pc := 42) X dX4_addTerm_42 ?_
      obtain ⟨σ10, h9, hF⟩ := bd_some hF
      refine ww_callVv (pc := 43) X (As := [.int p2, .int p3, .int (-p4)]) (rest := []) dX4_addTerm_43 (kX4_addHold (mL M) G hZ X.2.2.2.2.2.2.1 X.2.2.2.2.2.2.2.1 σ8 p2 p3 (-p4) σ10 h9) rfl shzC_96 clzC_4 gX4_addTerm_X4_addHold hyX4_addHold ⟨rfl, rfl⟩ ⟨Nat.le_of_ble_eq_true rfl, Nat.le_of_ble_eq_true rfl⟩ rfl rfl (Nat.le_of_ble_eq_true rfl) ?_
      refine ww_aload_n (pc := 46) X (j := 2) dX4_addTerm_46 rfl rfl ?_
      refine ww_get (pc := 47) X (ref := "PictureBlock$Solver") (T := TX4) (j := 3) dX4_addTerm_47 inX4_addTerm_RX4 shzC_96 clzC_4 (by decide) rfl (List.mem_of_getElem? (i := 2) rfl) rfl ?_
      refine ww_iload (pc := 50) X (j := 1) dX4_addTerm_50 rfl ?_
      refine ww_aald (pc := 52) X dX4_addTerm_52 shzC_98 rfl hF (fun h11 hF => ?_)
      refine ww_iload (pc := 53) X (j := 0) dX4_addTerm_53 rfl ?_
      refine ww_dup2_11 (pc := 55) X dX4_addTerm_55 rfl rfl ?_
      refine ww_lald (pc := 56) X dX4_addTerm_56 (rwzC_98 _ (gb_lt h11)) rfl hF (fun v12 ev12 bv12 hF => ?_)
      refine ww_iload_n (pc := 57) X (j := 5) dX4_addTerm_57 rfl rfl ?_
      refine ww_i2l (pc := 58) X dX4_addTerm_58 ?_
      refine ww_lsub (pc := 59) X dX4_addTerm_59 ?_
      refine ww_last (pc := 60) X dX4_addTerm_60 (rwzC_98 _ (gb_lt h11)) rfl hF (fun σ13 eσ13 bσ13 hF => ?_)
      refine ww_aload_n (pc := 61) X (j := 2) dX4_addTerm_61 rfl rfl ?_
      refine ww_get (pc := 62) X (ref := "PictureBlock$Solver") (T := TX4) (j := 3) dX4_addTerm_62 inX4_addTerm_RX4 shzC_96 clzC_4 (by decide) rfl (List.mem_of_getElem? (i := 2) rfl) rfl ?_
      refine ww_iload (pc := 65) X (j := 0) dX4_addTerm_65 rfl ?_
      refine ww_aald (pc := 67) X dX4_addTerm_67 shzC_98 rfl hF (fun h14 hF => ?_)
      refine ww_iload (pc := 68) X (j := 1) dX4_addTerm_68 rfl ?_
      refine ww_dup2_11 (pc := 70) X dX4_addTerm_70 rfl rfl ?_
      refine ww_lald (pc := 71) X dX4_addTerm_71 (rwzC_98 _ (gb_lt h14)) rfl hF (fun v15 ev15 bv15 hF => ?_)
      refine ww_iload_n (pc := 72) X (j := 5) dX4_addTerm_72 rfl rfl ?_
      refine ww_i2l (pc := 73) X dX4_addTerm_73 ?_
      refine ww_lsub (pc := 74) X dX4_addTerm_74 ?_
      refine ww_last (pc := 75) X dX4_addTerm_75 (rwzC_98 _ (gb_lt h14)) rfl hF (fun σ16 eσ16 bσ16 hF => ?_)
      exact ww_vret (pc := 76) X dX4_addTerm_76 (by cases hF; rfl)
    · exact ww_vret (pc := 28) X dX4_addTerm_28 (by cases hF; rfl)
set_option maxRecDepth 100000 in
set_option maxHeartbeats 4000000 in
theorem kX4_addTerm (l : Launch) (G : gG) {ex : gEx} (hZ : ∀ s : State, G.2.2.2 s → kC ex (gA G zC.1) s) (hG : gOK G zC.1) (hT : G.2.2.1.map (fun q => q.2) = zC.2.1) (σ : gS) (p1 : Int32) (p2 : Int32) (p3 : Int32) (p4 : Int32) (out : gS) (hF : fX4_addTerm σ p1 p2 p3 p4 = some out) : gCv l yX4_addTerm wsX4_addTerm rmX4_addTerm G zC [.ref (G.2.1 96), .int p1, .int p2, .int p3, .int p4] σ out :=
  gEnter (by decide) rfl ⟨rfl, rfl⟩ hG hT (Nat.le_of_ble_eq_true rfl) rfl (fun M X hl => wX4_addTerm X hZ σ p1 p2 p3 p4 hF)
noncomputable def bX4_fill_237 (σ : gS) (c237_2 : Int32) (rec227 : Int32 → gS → Option (gS)) (rec237 : Int32 → gS → Option (gS)) (a3 : Int32) (σ1 : gS) : Option (gS) :=
  if (σ1.1 96 4) < a3 then nm (c237_2 + 1 : Int32) fun x13 => rec227 x13 σ1 else gd (gb c237_2 38) <| gd (gb c237_2 38) <| gd (gb a3 39) <| nm (σ1.2 (99 + c237_2.toNatClampNeg) a3.toNatClampNeg) fun v16 => bd (fJ9_floorMod_f86c9 σ1 v16 1000003) fun r18 => gd (gb a3 39) <| nm (gsL σ1 (99 + c237_2.toNatClampNeg) a3.toNatClampNeg r18) fun σ19 => nm (a3 + 1 : Int32) fun x20 => rec237 x20 σ19
noncomputable def bX4_fill_227 (σ : gS) (rec227 : Int32 → gS → Option (gS)) (a2 : Int32) (σ1 : gS) : Option (gS) :=
  if (σ1.1 96 4) ≤ a2 then some σ1 else nm (0 : Int32) fun x11 => lpc (S := Int32 × gS) K9 (fun rec s => bX4_fill_237 σ1 a2 rec227 (fun a3 σ1 => rec (a3, σ1)) s.1 s.2) (x11, σ1)
noncomputable def bX4_fill_158 (σ : gS) (c158_1 : Int32) (rec158 : Int32 → gS → Option (gS)) (a2 : Int32) (σ1 : gS) : Option (gS) :=
  gd (gb 1 6) <| nm (σ1.1 3 ((1 : Int32).toNatClampNeg)) fun v7 => (if v7 ≤ a2 then nm (0 : Int32) fun x9 => lpc (S := Int32 × gS) K9 (fun rec s => bX4_fill_227 σ1 (fun a2 σ1 => rec (a2, σ1)) s.1 s.2) (x9, σ1) else gd (gb a2 12) <| nm (σ1.1 20 a2.toNatClampNeg) fun v21 => (if v21 = 0 then nm (a2 + 1 : Int32) fun x31 => rec158 x31 σ1 else bd (fX4_driftOf σ1 a2) fun r24 => gd (gb a2 12) <| nm (σ1.1 20 a2.toNatClampNeg) fun v25 => gd (gb c158_1 2) <| gd (gb a2 12) <| nm (σ1.1 (22 + c158_1.toNatClampNeg) a2.toNatClampNeg) fun v27 => bd (fX4_addTerm σ1 a2 r24 v25 (100 * v27)) fun σ29 => nm (a2 + 1 : Int32) fun x30 => rec158 x30 σ29))
noncomputable def bX4_fill_28 (σ : gS) (c28_1 : Int32) (rec28 : Int32 → gS → Option (gS)) (a2 : Int32) (σ1 : gS) : Option (gS) :=
  gd (gb 3 6) <| nm (σ1.1 3 ((3 : Int32).toNatClampNeg)) fun v4 => (if v4 ≤ a2 then nm (0 : Int32) fun x6 => lpc (S := Int32 × gS) K9 (fun rec s => bX4_fill_158 σ1 c28_1 (fun a2 σ1 => rec (a2, σ1)) s.1 s.2) (x6, σ1) else bd (fX5_uses_47 σ1 a2) fun r33 => (if r33 = 0 then nm (a2 + 1 : Int32) fun x55 => rec28 x55 σ1 else gd (gb a2 60) <| nm (σ1.1 10 a2.toNatClampNeg) fun v35 => nm (v35 : Int32) fun x36 => gd (gb a2 60) <| nm (σ1.1 11 a2.toNatClampNeg) fun v37 => nm (v37 : Int32) fun x38 => bd (fX5_turned_47 σ1 a2 c28_1) fun r40 => nm (r40 : Int32) fun x41 => bd (fX5_isFixed_47 σ1 x38) fun r43 => (if r43 = 0 then gd (gb a2 60) <| nm (σ1.1 15 a2.toNatClampNeg) fun v45 => bd (fX4_addTerm σ1 (12 + x38) x36 v45 x41) fun σ47 => nm (a2 + 1 : Int32) fun x48 => rec28 x48 σ47 else gd (gb a2 60) <| nm (σ1.1 15 a2.toNatClampNeg) fun v49 => bd (fX5_fixedAt_47 σ1 x38 c28_1) fun r51 => bd (fX4_addHold σ1 x36 v49 (r51 - x41)) fun σ53 => nm (a2 + 1 : Int32) fun x54 => rec28 x54 σ53)))
noncomputable def bX4_fill_2 (σ : gS) (c2_1 : Int32) (rec2 : Int32 → gS → Option (gS)) (a2 : Int32) (σ1 : gS) : Option (gS) :=
  if (σ1.1 96 4) ≤ a2 then nm (0 : Int32) fun x3 => lpc (S := Int32 × gS) K9 (fun rec s => bX4_fill_28 σ1 c2_1 (fun a2 σ1 => rec (a2, σ1)) s.1 s.2) (x3, σ1) else gd (gb a2 38) <| bd (fJ7_fill_d0a16 σ1 (99 + a2.toNatClampNeg) 0) fun σ58 => nm (a2 + 1 : Int32) fun x59 => rec2 x59 σ58
noncomputable def fX4_fill (σ : gS) (p1 : Int32) : Option (gS) :=
  nm (0 : Int32) fun x1 => lpc (S := Int32 × gS) K9 (fun rec s => bX4_fill_2 σ p1 (fun a2 σ1 => rec (a2, σ1)) s.1 s.2) (x1, σ)
noncomputable abbrev rmX4_fill : Room := { frames := 2, cells := 0, slots := 0, locals := 50 }
set_option maxRecDepth 100000 in
set_option maxHeartbeats 4000000 in
theorem wbX4_fill_237 {M : gM} {G : gG} {out : gS} (X : gX M G zC cX4_fill RX4 6 wsX4_fill rmX4_fill none) {ex : gEx} (hZ : ∀ s : State, G.2.2.2 s → kC ex (gA G zC.1) s) (σ : gS) (c237_2 : Int32) (rec227 : Int32 → gS → Option (gS)) (ih227 : ∀ (a2 : Int32) (σ1 : gS), rec227 a2 σ1 = some out → WW M (gQv M G zC out) G zC 6 σ1 227 [(0, .ref (G.2.1 96)), (2, .int a2)] []) (rec237 : Int32 → gS → Option (gS)) (ih237 : ∀ (a3 : Int32) (σ1 : gS), rec237 a3 σ1 = some out → WW M (gQv M G zC out) G zC 6 σ1 237 [(0, .ref (G.2.1 96)), (2, .int c237_2), (3, .int a3)] []) (a3 : Int32) (σ1 : gS) (hF : bX4_fill_237 σ c237_2 rec227 rec237 a3 σ1 = some out) : WW M (gQv M G zC out) G zC 6 σ1 237 [(0, .ref (G.2.1 96)), (2, .int c237_2), (3, .int a3)] [] := by
  unfold bX4_fill_237 at hF
  refine ww_iload_n (pc := 237) X (j := 2) dX4_fill_237 rfl rfl ?_
  refine ww_aload_n (pc := 238) X (j := 0) dX4_fill_238 rfl rfl ?_
  refine ww_get (pc := 239) X (ref := "PictureBlock$Solver") (T := TX4) (j := 4) dX4_fill_239 inX4_fill_RX4 shzC_96 clzC_4 (by decide) rfl (List.mem_of_getElem? (i := 1) rfl) rfl ?_
  refine ww_icmp_gt (pc := 242) (tgt := 273) X dX4_fill_242 (by decide) hF (fun h12 hF => ?_) (fun h12 hF => ?_)
  · refine ww_iinc (pc := 273) X (j := 1) (v := 1) (lv' := [(0, .ref (G.2.1 96)), (3, .int a3)]) dX4_fill_273 rfl rfl (by decide) rfl hF (fun x13 ex13 hF => ?_)
    refine ww_goto (pc := 276) X (tgt := 227) dX4_fill_276 (by decide) ?_
    exact ww_sub [1, 0] rfl (ih227 x13 σ1 hF)
  · refine ww_aload_n (pc := 245) X (j := 0) dX4_fill_245 rfl rfl ?_
    refine ww_get (pc := 246) X (ref := "PictureBlock$Solver") (T := TX4) (j := 3) dX4_fill_246 inX4_fill_RX4 shzC_96 clzC_4 (by decide) rfl (List.mem_of_getElem? (i := 2) rfl) rfl ?_
    refine ww_iload_n (pc := 249) X (j := 1) dX4_fill_249 rfl rfl ?_
    refine ww_aald (pc := 250) X dX4_fill_250 shzC_98 rfl hF (fun h14 hF => ?_)
    refine ww_iload_n (pc := 251) X (j := 2) dX4_fill_251 rfl rfl ?_
    refine ww_aload_n (pc := 252) X (j := 0) dX4_fill_252 rfl rfl ?_
    refine ww_get (pc := 253) X (ref := "PictureBlock$Solver") (T := TX4) (j := 3) dX4_fill_253 inX4_fill_RX4 shzC_96 clzC_4 (by decide) rfl (List.mem_of_getElem? (i := 2) rfl) rfl ?_
    refine ww_iload_n (pc := 256) X (j := 1) dX4_fill_256 rfl rfl ?_
    refine ww_aald (pc := 257) X dX4_fill_257 shzC_98 rfl hF (fun h15 hF => ?_)
    refine ww_iload_n (pc := 258) X (j := 2) dX4_fill_258 rfl rfl ?_
    refine ww_lald (pc := 259) X dX4_fill_259 (rwzC_98 _ (gb_lt h15)) rfl hF (fun v16 ev16 bv16 hF => ?_)
    refine ww_ldc2 (pc := 260) X (v := 1000003) (List.mem_of_getElem? (i := 11) rfl) dX4_fill_260 ?_
    obtain ⟨r18, h17, hF⟩ := bd_some hF
    refine ww_callSl (pc := 263) X (As := [.long v16, .long 1000003]) (rest := [.int a3, .ref (G.2.1 (99 + c237_2.toNatClampNeg))]) dX4_fill_263 (kJ9_floorMod_f86c9 (mL M) G hZ X.2.2.2.2.2.2.1 X.2.2.2.2.2.2.2.1 σ1 v16 1000003 r18 h17) rfl gX4_fill_J9_floorMod_f86c9 hyJ9_floorMod_f86c9 ⟨rfl, rfl⟩ ⟨Nat.le_of_ble_eq_true rfl, Nat.le_of_ble_eq_true rfl⟩ rfl rfl (Nat.le_of_ble_eq_true rfl) ?_
    refine ww_last (pc := 266) X dX4_fill_266 (rwzC_98 _ (gb_lt h14)) rfl hF (fun σ19 eσ19 bσ19 hF => ?_)
    refine ww_iinc (pc := 267) X (j := 2) (v := 1) (lv' := [(0, .ref (G.2.1 96)), (2, .int c237_2)]) dX4_fill_267 rfl rfl (by decide) rfl hF (fun x20 ex20 hF => ?_)
    refine ww_goto (pc := 270) X (tgt := 237) dX4_fill_270 (by decide) ?_
    exact ww_sub [1, 2, 0] rfl (ih237 x20 σ19 hF)
set_option maxRecDepth 100000 in
set_option maxHeartbeats 4000000 in
theorem wbX4_fill_227 {M : gM} {G : gG} {out : gS} (X : gX M G zC cX4_fill RX4 6 wsX4_fill rmX4_fill none) {ex : gEx} (hZ : ∀ s : State, G.2.2.2 s → kC ex (gA G zC.1) s) (σ : gS) (rec227 : Int32 → gS → Option (gS)) (ih227 : ∀ (a2 : Int32) (σ1 : gS), rec227 a2 σ1 = some out → WW M (gQv M G zC out) G zC 6 σ1 227 [(0, .ref (G.2.1 96)), (2, .int a2)] []) (a2 : Int32) (σ1 : gS) (hF : bX4_fill_227 σ rec227 a2 σ1 = some out) : WW M (gQv M G zC out) G zC 6 σ1 227 [(0, .ref (G.2.1 96)), (2, .int a2)] [] := by
  unfold bX4_fill_227 at hF
  refine ww_iload_n (pc := 227) X (j := 1) dX4_fill_227 rfl rfl ?_
  refine ww_aload_n (pc := 228) X (j := 0) dX4_fill_228 rfl rfl ?_
  refine ww_get (pc := 229) X (ref := "PictureBlock$Solver") (T := TX4) (j := 4) dX4_fill_229 inX4_fill_RX4 shzC_96 clzC_4 (by decide) rfl (List.mem_of_getElem? (i := 1) rfl) rfl ?_
  refine ww_icmp_ge (pc := 232) (tgt := 279) X dX4_fill_232 (by decide) hF (fun h10 hF => ?_) (fun h10 hF => ?_)
  · exact ww_vret (pc := 279) X dX4_fill_279 (by cases hF; rfl)
  · refine ww_iconst (pc := 235) X (v := 0) dX4_fill_235 (by decide) ?_
    refine ww_istore_n (pc := 236) X (lv' := [(0, .ref (G.2.1 96)), (2, .int a2)]) dX4_fill_236 rfl (by decide) rfl hF (fun x11 ex11 hF => ?_)
    exact ww_sub [1, 2, 0] rfl (lpc_ind (P := (fun (s : Int32 × gS) => WW M (gQv M G zC out) G zC 6 s.2 237 [(0, .ref (G.2.1 96)), (2, .int a2), (3, .int s.1)] [])) (fun rec s ih hF => wbX4_fill_237 X hZ σ1 a2 rec227  ih227 (fun a3 σ1 => rec (a3, σ1)) (fun a3 σ1 h => ih (a3, σ1) h) s.1 s.2 hF) K9 (x11, σ1) hF)
set_option maxRecDepth 100000 in
set_option maxHeartbeats 4000000 in
theorem wbX4_fill_158 {M : gM} {G : gG} {out : gS} (X : gX M G zC cX4_fill RX4 6 wsX4_fill rmX4_fill none) {ex : gEx} (hZ : ∀ s : State, G.2.2.2 s → kC ex (gA G zC.1) s) (σ : gS) (c158_1 : Int32) (rec158 : Int32 → gS → Option (gS)) (ih158 : ∀ (a2 : Int32) (σ1 : gS), rec158 a2 σ1 = some out → WW M (gQv M G zC out) G zC 6 σ1 158 [(0, .ref (G.2.1 96)), (1, .int c158_1), (2, .int a2)] []) (a2 : Int32) (σ1 : gS) (hF : bX4_fill_158 σ c158_1 rec158 a2 σ1 = some out) : WW M (gQv M G zC out) G zC 6 σ1 158 [(0, .ref (G.2.1 96)), (1, .int c158_1), (2, .int a2)] [] := by
  unfold bX4_fill_158 at hF
  refine ww_iload_n (pc := 158) X (j := 2) dX4_fill_158 rfl rfl ?_
  refine ww_aload_n (pc := 159) X (j := 0) dX4_fill_159 rfl rfl ?_
  refine ww_get (pc := 160) X (ref := "PictureBlock$Solver") (T := TX4) (j := 0) dX4_fill_160 inX4_fill_RX4 shzC_96 clzC_4 (by decide) rfl (List.mem_of_getElem? (i := 3) rfl) rfl ?_
  refine ww_get (pc := 163) X (ref := "PictureBlock$Told") (T := TX8) (j := 0) dX4_fill_163 inX4_fill_RX8 shzC_2 clzC_8 (by decide) rfl (List.mem_of_getElem? (i := 4) rfl) rfl ?_
  refine ww_iconst (pc := 166) X (v := 1) dX4_fill_166 (by decide) ?_
  refine ww_iald (pc := 167) X dX4_fill_167 shzC_3 rfl hF (fun v7 ev7 bv7 hF => ?_)
  refine ww_icmp_ge (pc := 168) (tgt := 225) X dX4_fill_168 (by decide) hF (fun h8 hF => ?_) (fun h8 hF => ?_)
  · refine ww_iconst (pc := 225) X (v := 0) dX4_fill_225 (by decide) ?_
    refine ww_istore_n (pc := 226) X (lv' := [(0, .ref (G.2.1 96)), (1, .int c158_1)]) dX4_fill_226 rfl (by decide) rfl hF (fun x9 ex9 hF => ?_)
    exact ww_sub [1, 0] rfl (lpc_ind (P := (fun (s : Int32 × gS) => WW M (gQv M G zC out) G zC 6 s.2 227 [(0, .ref (G.2.1 96)), (2, .int s.1)] [])) (fun rec s ih hF => wbX4_fill_227 X hZ σ1 (fun a2 σ1 => rec (a2, σ1)) (fun a2 σ1 h => ih (a2, σ1) h) s.1 s.2 hF) K9 (x9, σ1) hF)
  · refine ww_aload_n (pc := 171) X (j := 0) dX4_fill_171 rfl rfl ?_
    refine ww_get (pc := 172) X (ref := "PictureBlock$Solver") (T := TX4) (j := 0) dX4_fill_172 inX4_fill_RX4 shzC_96 clzC_4 (by decide) rfl (List.mem_of_getElem? (i := 3) rfl) rfl ?_
    refine ww_get (pc := 175) X (ref := "PictureBlock$Told") (T := TX8) (j := 10) dX4_fill_175 inX4_fill_RX8 shzC_2 clzC_8 (by decide) rfl (List.mem_of_getElem? (i := 9) rfl) rfl ?_
    refine ww_iload_n (pc := 178) X (j := 2) dX4_fill_178 rfl rfl ?_
    refine ww_iald (pc := 179) X dX4_fill_179 shzC_20 rfl hF (fun v21 ev21 bv21 hF => ?_)
    refine ww_if_ne (pc := 180) (tgt := 186) X dX4_fill_180 (by decide) hF (fun h22 hF => ?_) (fun h22 hF => ?_)
    · refine ww_aload_n (pc := 186) X (j := 0) dX4_fill_186 rfl rfl ?_
      refine ww_iload_n (pc := 187) X (j := 2) dX4_fill_187 rfl rfl ?_
      refine ww_aload_n (pc := 188) X (j := 0) dX4_fill_188 rfl rfl ?_
      refine ww_iload_n (pc := 189) X (j := 2) dX4_fill_189 rfl rfl ?_
      obtain ⟨r24, h23, hF⟩ := bd_some hF
      refine ww_callVi (pc := 190) X (As := [.int a2]) (rest := [.int a2, .ref (G.2.1 96)]) dX4_fill_190 (kX4_driftOf (mL M) G hZ X.2.2.2.2.2.2.1 X.2.2.2.2.2.2.2.1 σ1 a2 r24 h23) rfl shzC_96 clzC_4 gX4_fill_X4_driftOf hyX4_driftOf ⟨rfl, rfl⟩ ⟨Nat.le_of_ble_eq_true rfl, Nat.le_of_ble_eq_true rfl⟩ rfl rfl (Nat.le_of_ble_eq_true rfl) ?_
      refine ww_aload_n (pc := 193) X (j := 0) dX4_fill_193 rfl rfl ?_
      refine ww_get (pc := 194) X (ref := "PictureBlock$Solver") (T := TX4) (j := 0) dX4_fill_194 inX4_fill_RX4 shzC_96 clzC_4 (by decide) rfl (List.mem_of_getElem? (i := 3) rfl) rfl ?_
      refine ww_get (pc := 197) X (ref := "PictureBlock$Told") (T := TX8) (j := 10) dX4_fill_197 inX4_fill_RX8 shzC_2 clzC_8 (by decide) rfl (List.mem_of_getElem? (i := 9) rfl) rfl ?_
      refine ww_iload_n (pc := 200) X (j := 2) dX4_fill_200 rfl rfl ?_
      refine ww_iald (pc := 201) X dX4_fill_201 shzC_20 rfl hF (fun v25 ev25 bv25 hF => ?_)
      refine ww_bipush (pc := 202) X (v := 100) dX4_fill_202 (by decide) ?_
      refine ww_aload_n (pc := 204) X (j := 0) dX4_fill_204 rfl rfl ?_
      refine ww_get (pc := 205) X (ref := "PictureBlock$Solver") (T := TX4) (j := 0) dX4_fill_205 inX4_fill_RX4 shzC_96 clzC_4 (by decide) rfl (List.mem_of_getElem? (i := 3) rfl) rfl ?_
      refine ww_get (pc := 208) X (ref := "PictureBlock$Told") (T := TX8) (j := 11) dX4_fill_208 inX4_fill_RX8 shzC_2 clzC_8 (by decide) rfl (List.mem_of_getElem? (i := 10) rfl) rfl ?_
      refine ww_iload_n (pc := 211) X (j := 1) dX4_fill_211 rfl rfl ?_
      refine ww_aald (pc := 212) X dX4_fill_212 shzC_21 rfl hF (fun h26 hF => ?_)
      refine ww_iload_n (pc := 213) X (j := 2) dX4_fill_213 rfl rfl ?_
      refine ww_iald (pc := 214) X dX4_fill_214 (rwzC_21 _ (gb_lt h26)) rfl hF (fun v27 ev27 bv27 hF => ?_)
      refine ww_imul (pc := 215) X dX4_fill_215 ?_
      obtain ⟨σ29, h28, hF⟩ := bd_some hF
      refine ww_callVv (pc := 216) X (As := [.int a2, .int r24, .int v25, .int (100 * v27)]) (rest := []) dX4_fill_216 (kX4_addTerm (mL M) G hZ X.2.2.2.2.2.2.1 X.2.2.2.2.2.2.2.1 σ1 a2 r24 v25 (100 * v27) σ29 h28) rfl shzC_96 clzC_4 gX4_fill_X4_addTerm hyX4_addTerm ⟨rfl, rfl⟩ ⟨Nat.le_of_ble_eq_true rfl, Nat.le_of_ble_eq_true rfl⟩ rfl rfl (Nat.le_of_ble_eq_true rfl) ?_
      refine ww_iinc (pc := 219) X (j := 2) (v := 1) (lv' := [(0, .ref (G.2.1 96)), (1, .int c158_1)]) dX4_fill_219 rfl rfl (by decide) rfl hF (fun x30 ex30 hF => ?_)
      refine ww_goto (pc := 222) X (tgt := 158) dX4_fill_222 (by decide) ?_
      exact ww_sub [1, 2, 0] rfl (ih158 x30 σ29 hF)
    · refine ww_goto (pc := 183) X (tgt := 219) dX4_fill_183 (by decide) ?_
      refine ww_iinc (pc := 219) X (j := 2) (v := 1) (lv' := [(0, .ref (G.2.1 96)), (1, .int c158_1)]) dX4_fill_219 rfl rfl (by decide) rfl hF (fun x31 ex31 hF => ?_)
      refine ww_goto (pc := 222) X (tgt := 158) dX4_fill_222 (by decide) ?_
      exact ww_sub [1, 2, 0] rfl (ih158 x31 σ1 hF)
set_option maxRecDepth 100000 in
set_option maxHeartbeats 4000000 in
theorem wbX4_fill_28 {M : gM} {G : gG} {out : gS} (X : gX M G zC cX4_fill RX4 6 wsX4_fill rmX4_fill none) {ex : gEx} (hZ : ∀ s : State, G.2.2.2 s → kC ex (gA G zC.1) s) (σ : gS) (c28_1 : Int32) (rec28 : Int32 → gS → Option (gS)) (ih28 : ∀ (a2 : Int32) (σ1 : gS), rec28 a2 σ1 = some out → WW M (gQv M G zC out) G zC 6 σ1 28 [(0, .ref (G.2.1 96)), (1, .int c28_1), (2, .int a2)] []) (a2 : Int32) (σ1 : gS) (hF : bX4_fill_28 σ c28_1 rec28 a2 σ1 = some out) : WW M (gQv M G zC out) G zC 6 σ1 28 [(0, .ref (G.2.1 96)), (1, .int c28_1), (2, .int a2)] [] := by
  unfold bX4_fill_28 at hF
  refine ww_iload_n (pc := 28) X (j := 2) dX4_fill_28 rfl rfl ?_
  refine ww_aload_n (pc := 29) X (j := 0) dX4_fill_29 rfl rfl ?_
  refine ww_get (pc := 30) X (ref := "PictureBlock$Solver") (T := TX4) (j := 0) dX4_fill_30 inX4_fill_RX4 shzC_96 clzC_4 (by decide) rfl (List.mem_of_getElem? (i := 3) rfl) rfl ?_
  refine ww_get (pc := 33) X (ref := "PictureBlock$Told") (T := TX8) (j := 0) dX4_fill_33 inX4_fill_RX8 shzC_2 clzC_8 (by decide) rfl (List.mem_of_getElem? (i := 4) rfl) rfl ?_
  refine ww_iconst (pc := 36) X (v := 3) dX4_fill_36 (by decide) ?_
  refine ww_iald (pc := 37) X dX4_fill_37 shzC_3 rfl hF (fun v4 ev4 bv4 hF => ?_)
  refine ww_icmp_ge (pc := 38) (tgt := 156) X dX4_fill_38 (by decide) hF (fun h5 hF => ?_) (fun h5 hF => ?_)
  · refine ww_iconst (pc := 156) X (v := 0) dX4_fill_156 (by decide) ?_
    refine ww_istore_n (pc := 157) X (lv' := [(0, .ref (G.2.1 96)), (1, .int c28_1)]) dX4_fill_157 rfl (by decide) rfl hF (fun x6 ex6 hF => ?_)
    exact ww_sub [1, 2, 0] rfl (lpc_ind (P := (fun (s : Int32 × gS) => WW M (gQv M G zC out) G zC 6 s.2 158 [(0, .ref (G.2.1 96)), (1, .int c28_1), (2, .int s.1)] [])) (fun rec s ih hF => wbX4_fill_158 X hZ σ1 c28_1 (fun a2 σ1 => rec (a2, σ1)) (fun a2 σ1 h => ih (a2, σ1) h) s.1 s.2 hF) K9 (x6, σ1) hF)
  · refine ww_aload_n (pc := 41) X (j := 0) dX4_fill_41 rfl rfl ?_
    refine ww_get (pc := 42) X (ref := "PictureBlock$Solver") (T := TX4) (j := 1) dX4_fill_42 inX4_fill_RX4 shzC_96 clzC_4 (by decide) rfl (List.mem_of_getElem? (i := 5) rfl) rfl ?_
    refine ww_iload_n (pc := 45) X (j := 2) dX4_fill_45 rfl rfl ?_
    obtain ⟨r33, h32, hF⟩ := bd_some hF
    refine ww_callVi (pc := 46) X (As := [.int a2]) (rest := []) dX4_fill_46 (kX5_uses_47 (mL M) G hZ X.2.2.2.2.2.2.1 X.2.2.2.2.2.2.2.1 σ1 a2 r33 h32) rfl shzC_47 clzC_5 gX4_fill_X5_uses hyX5_uses ⟨rfl, rfl⟩ ⟨Nat.le_of_ble_eq_true rfl, Nat.le_of_ble_eq_true rfl⟩ rfl rfl (Nat.le_of_ble_eq_true rfl) ?_
    refine ww_if_ne (pc := 49) (tgt := 55) X dX4_fill_49 (by decide) hF (fun h34 hF => ?_) (fun h34 hF => ?_)
    · refine ww_aload_n (pc := 55) X (j := 0) dX4_fill_55 rfl rfl ?_
      refine ww_get (pc := 56) X (ref := "PictureBlock$Solver") (T := TX4) (j := 0) dX4_fill_56 inX4_fill_RX4 shzC_96 clzC_4 (by decide) rfl (List.mem_of_getElem? (i := 3) rfl) rfl ?_
      refine ww_get (pc := 59) X (ref := "PictureBlock$Told") (T := TX8) (j := 4) dX4_fill_59 inX4_fill_RX8 shzC_2 clzC_8 (by decide) rfl (List.mem_of_getElem? (i := 6) rfl) rfl ?_
      refine ww_iload_n (pc := 62) X (j := 2) dX4_fill_62 rfl rfl ?_
      refine ww_iald (pc := 63) X dX4_fill_63 shzC_10 rfl hF (fun v35 ev35 bv35 hF => ?_)
      refine ww_istore_n (pc := 64) X (lv' := [(0, .ref (G.2.1 96)), (1, .int c28_1), (2, .int a2)]) dX4_fill_64 rfl (by decide) rfl hF (fun x36 ex36 hF => ?_)
      refine ww_aload_n (pc := 65) X (j := 1) dX4_fill_65 rfl rfl ?_
      refine ww_get (pc := 66) X (ref := "PictureBlock$Solver") (T := TX4) (j := 0) dX4_fill_66 inX4_fill_RX4 shzC_96 clzC_4 (by decide) rfl (List.mem_of_getElem? (i := 3) rfl) rfl ?_
      refine ww_get (pc := 69) X (ref := "PictureBlock$Told") (T := TX8) (j := 5) dX4_fill_69 inX4_fill_RX8 shzC_2 clzC_8 (by decide) rfl (List.mem_of_getElem? (i := 7) rfl) rfl ?_
      refine ww_iload_n (pc := 72) X (j := 3) dX4_fill_72 rfl rfl ?_
      refine ww_iald (pc := 73) X dX4_fill_73 shzC_11 rfl hF (fun v37 ev37 bv37 hF => ?_)
      refine ww_istore (pc := 74) X (lv' := [(3, .int x36), (0, .ref (G.2.1 96)), (1, .int c28_1), (2, .int a2)]) dX4_fill_74 (by decide) rfl hF (fun x38 ex38 hF => ?_)
      refine ww_aload_n (pc := 76) X (j := 2) dX4_fill_76 rfl rfl ?_
      refine ww_get (pc := 77) X (ref := "PictureBlock$Solver") (T := TX4) (j := 1) dX4_fill_77 inX4_fill_RX4 shzC_96 clzC_4 (by decide) rfl (List.mem_of_getElem? (i := 5) rfl) rfl ?_
      refine ww_iload_n (pc := 80) X (j := 4) dX4_fill_80 rfl rfl ?_
      refine ww_iload_n (pc := 81) X (j := 3) dX4_fill_81 rfl rfl ?_
      obtain ⟨r40, h39, hF⟩ := bd_some hF
      refine ww_callVi (pc := 82) X (As := [.int a2, .int c28_1]) (rest := []) dX4_fill_82 (kX5_turned_47 (mL M) G hZ X.2.2.2.2.2.2.1 X.2.2.2.2.2.2.2.1 σ1 a2 c28_1 r40 h39) rfl shzC_47 clzC_5 gX4_fill_X5_turned hyX5_turned ⟨rfl, rfl⟩ ⟨Nat.le_of_ble_eq_true rfl, Nat.le_of_ble_eq_true rfl⟩ rfl rfl (Nat.le_of_ble_eq_true rfl) ?_
      refine ww_istore (pc := 85) X (lv' := [(4, .int x38), (3, .int x36), (0, .ref (G.2.1 96)), (1, .int c28_1), (2, .int a2)]) dX4_fill_85 (by decide) rfl hF (fun x41 ex41 hF => ?_)
      refine ww_aload_n (pc := 87) X (j := 3) dX4_fill_87 rfl rfl ?_
      refine ww_get (pc := 88) X (ref := "PictureBlock$Solver") (T := TX4) (j := 1) dX4_fill_88 inX4_fill_RX4 shzC_96 clzC_4 (by decide) rfl (List.mem_of_getElem? (i := 5) rfl) rfl ?_
      refine ww_iload (pc := 91) X (j := 1) dX4_fill_91 rfl ?_
      obtain ⟨r43, h42, hF⟩ := bd_some hF
      refine ww_callVi (pc := 93) X (As := [.int x38]) (rest := []) dX4_fill_93 (kX5_isFixed_47 (mL M) G hZ X.2.2.2.2.2.2.1 X.2.2.2.2.2.2.2.1 σ1 x38 r43 h42) rfl shzC_47 clzC_5 gX4_fill_X5_isFixed hyX5_isFixed ⟨rfl, rfl⟩ ⟨Nat.le_of_ble_eq_true rfl, Nat.le_of_ble_eq_true rfl⟩ rfl rfl (Nat.le_of_ble_eq_true rfl) ?_
      refine ww_if_eq (pc := 96) (tgt := 129) X dX4_fill_96 (by decide) hF (fun h44 hF => ?_) (fun h44 hF => ?_)
      · refine ww_aload_n (pc := 129) X (j := 3) dX4_fill_129 rfl rfl ?_
        refine ww_bipush (pc := 130) X (v := 12) dX4_fill_130 (by decide) ?_
        refine ww_iload (pc := 132) X (j := 1) dX4_fill_132 rfl ?_
        refine ww_iadd (pc := 134) X dX4_fill_134 ?_
        refine ww_iload_n (pc := 135) X (j := 2) dX4_fill_135 rfl rfl ?_
        refine ww_aload_n (pc := 136) X (j := 3) dX4_fill_136 rfl rfl ?_
        refine ww_get (pc := 137) X (ref := "PictureBlock$Solver") (T := TX4) (j := 0) dX4_fill_137 inX4_fill_RX4 shzC_96 clzC_4 (by decide) rfl (List.mem_of_getElem? (i := 3) rfl) rfl ?_
        refine ww_get (pc := 140) X (ref := "PictureBlock$Told") (T := TX8) (j := 7) dX4_fill_140 inX4_fill_RX8 shzC_2 clzC_8 (by decide) rfl (List.mem_of_getElem? (i := 8) rfl) rfl ?_
        refine ww_iload_n (pc := 143) X (j := 5) dX4_fill_143 rfl rfl ?_
        refine ww_iald (pc := 144) X dX4_fill_144 shzC_15 rfl hF (fun v45 ev45 bv45 hF => ?_)
        refine ww_iload (pc := 145) X (j := 0) dX4_fill_145 rfl ?_
        obtain ⟨σ47, h46, hF⟩ := bd_some hF
        refine ww_callVv (pc := 147) X (As := [.int (12 + x38), .int x36, .int v45, .int x41]) (rest := []) dX4_fill_147 (kX4_addTerm (mL M) G hZ X.2.2.2.2.2.2.1 X.2.2.2.2.2.2.2.1 σ1 (12 + x38) x36 v45 x41 σ47 h46) rfl shzC_96 clzC_4 gX4_fill_X4_addTerm hyX4_addTerm ⟨rfl, rfl⟩ ⟨Nat.le_of_ble_eq_true rfl, Nat.le_of_ble_eq_true rfl⟩ rfl rfl (Nat.le_of_ble_eq_true rfl) ?_
        refine ww_iinc (pc := 150) X (j := 5) (v := 1) (lv' := [(5, .int x41), (4, .int x38), (3, .int x36), (0, .ref (G.2.1 96)), (1, .int c28_1)]) dX4_fill_150 rfl rfl (by decide) rfl hF (fun x48 ex48 hF => ?_)
        refine ww_goto (pc := 153) X (tgt := 28) dX4_fill_153 (by decide) ?_
        exact ww_sub [4, 5, 0] rfl (ih28 x48 σ47 hF)
      · refine ww_aload_n (pc := 99) X (j := 3) dX4_fill_99 rfl rfl ?_
        refine ww_iload_n (pc := 100) X (j := 2) dX4_fill_100 rfl rfl ?_
        refine ww_aload_n (pc := 101) X (j := 3) dX4_fill_101 rfl rfl ?_
        refine ww_get (pc := 102) X (ref := "PictureBlock$Solver") (T := TX4) (j := 0) dX4_fill_102 inX4_fill_RX4 shzC_96 clzC_4 (by decide) rfl (List.mem_of_getElem? (i := 3) rfl) rfl ?_
        refine ww_get (pc := 105) X (ref := "PictureBlock$Told") (T := TX8) (j := 7) dX4_fill_105 inX4_fill_RX8 shzC_2 clzC_8 (by decide) rfl (List.mem_of_getElem? (i := 8) rfl) rfl ?_
        refine ww_iload_n (pc := 108) X (j := 5) dX4_fill_108 rfl rfl ?_
        refine ww_iald (pc := 109) X dX4_fill_109 shzC_15 rfl hF (fun v49 ev49 bv49 hF => ?_)
        refine ww_aload_n (pc := 110) X (j := 3) dX4_fill_110 rfl rfl ?_
        refine ww_get (pc := 111) X (ref := "PictureBlock$Solver") (T := TX4) (j := 1) dX4_fill_111 inX4_fill_RX4 shzC_96 clzC_4 (by decide) rfl (List.mem_of_getElem? (i := 5) rfl) rfl ?_
        refine ww_iload (pc := 114) X (j := 1) dX4_fill_114 rfl ?_
        refine ww_iload_n (pc := 116) X (j := 4) dX4_fill_116 rfl rfl ?_
        obtain ⟨r51, h50, hF⟩ := bd_some hF
        refine ww_callVi (pc := 117) X (As := [.int x38, .int c28_1]) (rest := [.int v49, .int x36, .ref (G.2.1 96)]) dX4_fill_117 (kX5_fixedAt_47 (mL M) G hZ X.2.2.2.2.2.2.1 X.2.2.2.2.2.2.2.1 σ1 x38 c28_1 r51 h50) rfl shzC_47 clzC_5 gX4_fill_X5_fixedAt hyX5_fixedAt ⟨rfl, rfl⟩ ⟨Nat.le_of_ble_eq_true rfl, Nat.le_of_ble_eq_true rfl⟩ rfl rfl (Nat.le_of_ble_eq_true rfl) ?_
        refine ww_iload (pc := 120) X (j := 0) dX4_fill_120 rfl ?_
        refine ww_isub (pc := 122) X dX4_fill_122 ?_
        obtain ⟨σ53, h52, hF⟩ := bd_some hF
        refine ww_callVv (pc := 123) X (As := [.int x36, .int v49, .int (r51 - x41)]) (rest := []) dX4_fill_123 (kX4_addHold (mL M) G hZ X.2.2.2.2.2.2.1 X.2.2.2.2.2.2.2.1 σ1 x36 v49 (r51 - x41) σ53 h52) rfl shzC_96 clzC_4 gX4_fill_X4_addHold hyX4_addHold ⟨rfl, rfl⟩ ⟨Nat.le_of_ble_eq_true rfl, Nat.le_of_ble_eq_true rfl⟩ rfl rfl (Nat.le_of_ble_eq_true rfl) ?_
        refine ww_goto (pc := 126) X (tgt := 150) dX4_fill_126 (by decide) ?_
        refine ww_iinc (pc := 150) X (j := 5) (v := 1) (lv' := [(5, .int x41), (4, .int x38), (3, .int x36), (0, .ref (G.2.1 96)), (1, .int c28_1)]) dX4_fill_150 rfl rfl (by decide) rfl hF (fun x54 ex54 hF => ?_)
        refine ww_goto (pc := 153) X (tgt := 28) dX4_fill_153 (by decide) ?_
        exact ww_sub [4, 5, 0] rfl (ih28 x54 σ53 hF)
    · refine ww_goto (pc := 52) X (tgt := 150) dX4_fill_52 (by decide) ?_
      refine ww_iinc (pc := 150) X (j := 2) (v := 1) (lv' := [(0, .ref (G.2.1 96)), (1, .int c28_1)]) dX4_fill_150 rfl rfl (by decide) rfl hF (fun x55 ex55 hF => ?_)
      refine ww_goto (pc := 153) X (tgt := 28) dX4_fill_153 (by decide) ?_
      exact ww_sub [1, 2, 0] rfl (ih28 x55 σ1 hF)
set_option maxRecDepth 100000 in
set_option maxHeartbeats 4000000 in
theorem wbX4_fill_2 {M : gM} {G : gG} {out : gS} (X : gX M G zC cX4_fill RX4 6 wsX4_fill rmX4_fill none) {ex : gEx} (hZ : ∀ s : State, G.2.2.2 s → kC ex (gA G zC.1) s) (σ : gS) (c2_1 : Int32) (rec2 : Int32 → gS → Option (gS)) (ih2 : ∀ (a2 : Int32) (σ1 : gS), rec2 a2 σ1 = some out → WW M (gQv M G zC out) G zC 6 σ1 2 [(0, .ref (G.2.1 96)), (1, .int c2_1), (2, .int a2)] []) (a2 : Int32) (σ1 : gS) (hF : bX4_fill_2 σ c2_1 rec2 a2 σ1 = some out) : WW M (gQv M G zC out) G zC 6 σ1 2 [(0, .ref (G.2.1 96)), (1, .int c2_1), (2, .int a2)] [] := by
  unfold bX4_fill_2 at hF
  refine ww_iload_n (pc := 2) X (j := 2) dX4_fill_2 rfl rfl ?_
  refine ww_aload_n (pc := 3) X (j := 0) dX4_fill_3 rfl rfl ?_
  refine ww_get (pc := 4) X (ref := "PictureBlock$Solver") (T := TX4) (j := 4) dX4_fill_4 inX4_fill_RX4 shzC_96 clzC_4 (by decide) rfl (List.mem_of_getElem? (i := 1) rfl) rfl ?_
  refine ww_icmp_ge (pc := 7) (tgt := 26) X dX4_fill_7 (by decide) hF (fun h2 hF => ?_) (fun h2 hF => ?_)
  · refine ww_iconst (pc := 26) X (v := 0) dX4_fill_26 (by decide) ?_
    refine ww_istore_n (pc := 27) X (lv' := [(0, .ref (G.2.1 96)), (1, .int c2_1)]) dX4_fill_27 rfl (by decide) rfl hF (fun x3 ex3 hF => ?_)
    exact ww_sub [1, 2, 0] rfl (lpc_ind (P := (fun (s : Int32 × gS) => WW M (gQv M G zC out) G zC 6 s.2 28 [(0, .ref (G.2.1 96)), (1, .int c2_1), (2, .int s.1)] [])) (fun rec s ih hF => wbX4_fill_28 X hZ σ1 c2_1 (fun a2 σ1 => rec (a2, σ1)) (fun a2 σ1 h => ih (a2, σ1) h) s.1 s.2 hF) K9 (x3, σ1) hF)
  · refine ww_aload_n (pc := 10) X (j := 0) dX4_fill_10 rfl rfl ?_
    refine ww_get (pc := 11) X (ref := "PictureBlock$Solver") (T := TX4) (j := 3) dX4_fill_11 inX4_fill_RX4 shzC_96 clzC_4 (by decide) rfl (List.mem_of_getElem? (i := 2) rfl) rfl ?_
    refine ww_iload_n (pc := 14) X (j := 2) dX4_fill_14 rfl rfl ?_
    refine ww_aald (pc := 15) X dX4_fill_15 shzC_98 rfl hF (fun h56 hF => ?_)
    refine ww_lconst (pc := 16) X (v := 0) dX4_fill_16 (by decide) ?_
    obtain ⟨σ58, h57, hF⟩ := bd_some hF
    refine ww_callSv (pc := 17) X (As := [.ref (G.2.1 (99 + a2.toNatClampNeg)), .long 0]) (rest := []) dX4_fill_17 (kJ7_fill_d0a16 (mL M) G hZ X.2.2.2.2.2.2.1 X.2.2.2.2.2.2.2.1 σ1 (99 + a2.toNatClampNeg) 0 σ58 h57) rfl gX4_fill_J7_fill_d0a16 hyJ7_fill_d0a16 ⟨rfl, rfl⟩ ⟨Nat.le_of_ble_eq_true rfl, Nat.le_of_ble_eq_true rfl⟩ rfl rfl (Nat.le_of_ble_eq_true rfl) ?_
    refine ww_iinc (pc := 20) X (j := 2) (v := 1) (lv' := [(0, .ref (G.2.1 96)), (1, .int c2_1)]) dX4_fill_20 rfl rfl (by decide) rfl hF (fun x59 ex59 hF => ?_)
    refine ww_goto (pc := 23) X (tgt := 2) dX4_fill_23 (by decide) ?_
    exact ww_sub [1, 2, 0] rfl (ih2 x59 σ58 hF)
set_option maxRecDepth 100000 in
set_option maxHeartbeats 4000000 in
theorem wX4_fill {M : gM} {G : gG} {out : gS} (X : gX M G zC cX4_fill RX4 6 wsX4_fill rmX4_fill none) {ex : gEx} (hZ : ∀ s : State, G.2.2.2 s → kC ex (gA G zC.1) s) (σ : gS) (p1 : Int32) (hF : fX4_fill σ p1 = some out) : WW M (gQv M G zC out) G zC 6 σ 0 [(0, .ref (G.2.1 96)), (1, .int p1)] [] := by
  unfold fX4_fill at hF
  refine ww_iconst (pc := 0) X (v := 0) dX4_fill_0 (by decide) ?_
  refine ww_istore_n (pc := 1) X (lv' := [(0, .ref (G.2.1 96)), (1, .int p1)]) dX4_fill_1 rfl (by decide) rfl hF (fun x1 ex1 hF => ?_)
  exact ww_sub [1, 2, 0] rfl (lpc_ind (P := (fun (s : Int32 × gS) => WW M (gQv M G zC out) G zC 6 s.2 2 [(0, .ref (G.2.1 96)), (1, .int p1), (2, .int s.1)] [])) (fun rec s ih hF => wbX4_fill_2 X hZ σ p1 (fun a2 σ1 => rec (a2, σ1)) (fun a2 σ1 h => ih (a2, σ1) h) s.1 s.2 hF) K9 (x1, σ) hF)
set_option maxRecDepth 100000 in
set_option maxHeartbeats 4000000 in
theorem kX4_fill (l : Launch) (G : gG) {ex : gEx} (hZ : ∀ s : State, G.2.2.2 s → kC ex (gA G zC.1) s) (hG : gOK G zC.1) (hT : G.2.2.1.map (fun q => q.2) = zC.2.1) (σ : gS) (p1 : Int32) (out : gS) (hF : fX4_fill σ p1 = some out) : gCv l yX4_fill wsX4_fill rmX4_fill G zC [.ref (G.2.1 96), .int p1] σ out :=
  gEnter (by decide) rfl ⟨rfl, rfl⟩ hG hT (Nat.le_of_ble_eq_true rfl) rfl (fun M X hl => wX4_fill X hZ σ p1 hF)
