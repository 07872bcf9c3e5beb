noncomputable def fX9_plan (σ : gS) (p1 : Int32) : Option (Int32 × gS) :=
  if p1 < 1 then some ((-1), σ) else if p1 ≤ 20 then bd (fX7_survey σ) fun σ4 => bd (fX7_growTree σ4) fun σ6 => bd2 (fX7_countPlanned σ6 p1) fun r8 σ9 => some (r8, σ9) else some ((-1), σ)
noncomputable abbrev rmX9_plan : Room := { frames := 4, cells := 0, slots := 0, locals := 101 }
set_option maxRecDepth 100000 in
set_option maxHeartbeats 4000000 in
theorem wX9_plan {M : gM} {G : gG} {out : Int32 × gS} (X : gX M G zC cX9_plan RX9 2 wsX9_plan rmX9_plan (some .int)) {ex : gEx} (hZ : ∀ s : State, G.2.2.2 s → kC ex (gA G zC.1) s) (σ : gS) (p1 : Int32) (hF : fX9_plan σ p1 = some out) : WW M (gQi M G zC out.1 out.2) G zC 2 σ 0 [(0, .ref (G.2.1 0)), (1, .int p1)] [] := by
  unfold fX9_plan at hF
  refine ww_iload_n (pc := 0) X (j := 1) dX9_plan_0 rfl rfl ?_
  refine ww_iconst (pc := 1) X (v := 1) dX9_plan_1 (by decide) ?_
  refine ww_icmp_lt (pc := 2) (tgt := 11) X dX9_plan_2 (by decide) hF (fun h1 hF => ?_) (fun h1 hF => ?_)
  · refine ww_iconst (pc := 11) X (v := (-1)) dX9_plan_11 (by decide) ?_
    exact ww_iret (pc := 12) X dX9_plan_12 (fst_of hF) (snd_of hF)
  · refine ww_iload_n (pc := 5) X (j := 1) dX9_plan_5 rfl rfl ?_
    refine ww_bipush (pc := 6) X (v := 20) dX9_plan_6 (by decide) ?_
    refine ww_icmp_le (pc := 8) (tgt := 13) X dX9_plan_8 (by decide) hF (fun h2 hF => ?_) (fun h2 hF => ?_)
    · refine ww_aload_n (pc := 13) X (j := 0) dX9_plan_13 rfl rfl ?_
      refine ww_get (pc := 14) X (ref := "PictureBlock") (T := TX9) (j := 12) dX9_plan_14 inX9_plan_RX9 shzC_0 clzC_9 (by decide) rfl (List.mem_of_getElem? (i := 1) rfl) rfl ?_
      obtain ⟨σ4, h3, hF⟩ := bd_some hF
      refine ww_callVv (pc := 17) X (As := []) (rest := []) dX9_plan_17 (kX7_survey (mL M) G hZ X.2.2.2.2.2.2.1 X.2.2.2.2.2.2.2.1 σ σ4 h3) rfl shzC_140 clzC_7 gX9_plan_X7_survey hyX7_survey ⟨rfl, rfl⟩ ⟨Nat.le_of_ble_eq_true rfl, Nat.le_of_ble_eq_true rfl⟩ rfl rfl (Nat.le_of_ble_eq_true rfl) ?_
      refine ww_aload_n (pc := 20) X (j := 0) dX9_plan_20 rfl rfl ?_
      refine ww_get (pc := 21) X (ref := "PictureBlock") (T := TX9) (j := 12) dX9_plan_21 inX9_plan_RX9 shzC_0 clzC_9 (by decide) rfl (List.mem_of_getElem? (i := 1) rfl) rfl ?_
      obtain ⟨σ6, h5, hF⟩ := bd_some hF
      refine ww_callVv (pc := 24) X (As := []) (rest := []) dX9_plan_24 (kX7_growTree (mL M) G hZ X.2.2.2.2.2.2.1 X.2.2.2.2.2.2.2.1 σ4 σ6 h5) rfl shzC_140 clzC_7 gX9_plan_X7_growTree hyX7_growTree ⟨rfl, rfl⟩ ⟨Nat.le_of_ble_eq_true rfl, Nat.le_of_ble_eq_true rfl⟩ rfl rfl (Nat.le_of_ble_eq_true rfl) ?_
      refine ww_aload_n (pc := 27) X (j := 0) dX9_plan_27 rfl rfl ?_
      refine ww_get (pc := 28) X (ref := "PictureBlock") (T := TX9) (j := 12) dX9_plan_28 inX9_plan_RX9 shzC_0 clzC_9 (by decide) rfl (List.mem_of_getElem? (i := 1) rfl) rfl ?_
      refine ww_iload_n (pc := 31) X (j := 1) dX9_plan_31 rfl rfl ?_
      obtain ⟨r8, σ9, h7, hF⟩ := bd2_some hF
      refine ww_callVi (pc := 32) X (As := [.int p1]) (rest := []) dX9_plan_32 (kX7_countPlanned (mL M) G hZ X.2.2.2.2.2.2.1 X.2.2.2.2.2.2.2.1 σ6 p1 (r8, σ9) h7) rfl shzC_140 clzC_7 gX9_plan_X7_countPlanned hyX7_countPlanned ⟨rfl, rfl⟩ ⟨Nat.le_of_ble_eq_true rfl, Nat.le_of_ble_eq_true rfl⟩ rfl rfl (Nat.le_of_ble_eq_true rfl) ?_
      exact ww_iret (pc := 35) X dX9_plan_35 (fst_of hF) (snd_of hF)
    · refine ww_iconst (pc := 11) X (v := (-1)) dX9_plan_11 (by decide) ?_
      exact ww_iret (pc := 12) X dX9_plan_12 (fst_of hF) (snd_of hF)
set_option maxRecDepth 100000 in
set_option maxHeartbeats 4000000 in
theorem kX9_plan (l : Launch) (G : gG) {ex : gEx} (hZ : ∀ s : State, G.2.2.2 s → kC ex (gA G zC.1) s) (hG : gOK G zC.1) (hT : G.2.2.1.map (fun q => q.2) = zC.2.1) (σ : gS) (p1 : Int32) (out : Int32 × gS) (hF : fX9_plan σ p1 = some out) : gCi l yX9_plan wsX9_plan rmX9_plan G zC [.ref (G.2.1 0), .int p1] σ out.1 out.2 :=
  gEnter (by decide) rfl ⟨rfl, rfl⟩ hG hT (Nat.le_of_ble_eq_true rfl) rfl (fun M X hl => wX9_plan X hZ σ p1 hF)
noncomputable def bX5_takeFrom_59_47_32 (σ : gS) (rec32 : Int32 → gS → Option (gS)) (a2 : Int32) (σ1 : gS) : Option (gS) :=
  if 2 ≤ a2 then some σ1 else gd (gb a2 2) <| gd (gb a2 2) <| bd (fX9_copyAll σ1 (50 + a2.toNatClampNeg) (62 + a2.toNatClampNeg)) fun σ11 => gd (gb a2 2) <| gd (gb a2 2) <| bd (fX9_copyAll σ11 (53 + a2.toNatClampNeg) (65 + a2.toNatClampNeg)) fun σ15 => gd (gb a2 2) <| gd (gb a2 2) <| bd (fX9_copyAll σ15 (56 + a2.toNatClampNeg) (68 + a2.toNatClampNeg)) fun σ19 => nm (a2 + 1 : Int32) fun x20 => rec32 x20 σ19
noncomputable def fX5_takeFrom_59_47 (σ : gS) : Option (gS) :=
  nm (gsI σ 59 1 (σ.1 47 1)) fun σ1 => bd (fX9_copyAll σ1 48 60) fun σ3 => bd (fX9_copyAll σ3 58 70) fun σ5 => nm (0 : Int32) fun x6 => lpc (S := Int32 × gS) K9 (fun rec s => bX5_takeFrom_59_47_32 σ5 (fun a2 σ1 => rec (a2, σ1)) s.1 s.2) (x6, σ5)
noncomputable abbrev rmX5_takeFrom : Room := { frames := 2, cells := 0, slots := 0, locals := 53 }
set_option maxRecDepth 100000 in
set_option maxHeartbeats 4000000 in
theorem wbX5_takeFrom_59_47_32 {M : gM} {G : gG} {out : gS} (X : gX M G zC cX5_takeFrom RX5 3 wsX5_takeFrom rmX5_takeFrom none) {ex : gEx} (hZ : ∀ s : State, G.2.2.2 s → kC ex (gA G zC.1) s) (σ : gS) (rec32 : Int32 → gS → Option (gS)) (ih32 : ∀ (a2 : Int32) (σ1 : gS), rec32 a2 σ1 = some out → WW M (gQv M G zC out) G zC 3 σ1 32 [(0, .ref (G.2.1 59)), (1, .ref (G.2.1 47)), (2, .int a2)] []) (a2 : Int32) (σ1 : gS) (hF : bX5_takeFrom_59_47_32 σ rec32 a2 σ1 = some out) : WW M (gQv M G zC out) G zC 3 σ1 32 [(0, .ref (G.2.1 59)), (1, .ref (G.2.1 47)), (2, .int a2)] [] := by
  unfold bX5_takeFrom_59_47_32 at hF
  refine ww_iload_n (pc := 32) X (j := 2) dX5_takeFrom_32 rfl rfl ?_
  refine ww_iconst (pc := 33) X (v := 2) dX5_takeFrom_33 (by decide) ?_
  refine ww_icmp_ge (pc := 34) (tgt := 88) X dX5_takeFrom_34 (by decide) hF (fun h7 hF => ?_) (fun h7 hF => ?_)
  · exact ww_vret (pc := 88) X dX5_takeFrom_88 (by cases hF; rfl)
  · refine ww_aload_n (pc := 37) X (j := 1) dX5_takeFrom_37 rfl rfl ?_
    refine ww_get (pc := 38) X (ref := "PictureBlock$Stand") (T := TX5) (j := 3) dX5_takeFrom_38 inX5_takeFrom_RX5 shzC_47 clzC_5 (by decide) rfl (List.mem_of_getElem? (i := 4) rfl) rfl ?_
    refine ww_iload_n (pc := 41) X (j := 2) dX5_takeFrom_41 rfl rfl ?_
    refine ww_aald (pc := 42) X dX5_takeFrom_42 shzC_49 rfl hF (fun h8 hF => ?_)
    refine ww_aload_n (pc := 43) X (j := 0) dX5_takeFrom_43 rfl rfl ?_
    refine ww_get (pc := 44) X (ref := "PictureBlock$Stand") (T := TX5) (j := 3) dX5_takeFrom_44 inX5_takeFrom_RX5 shzC_59 clzC_5 (by decide) rfl (List.mem_of_getElem? (i := 4) rfl) rfl ?_
    refine ww_iload_n (pc := 47) X (j := 2) dX5_takeFrom_47 rfl rfl ?_
    refine ww_aald (pc := 48) X dX5_takeFrom_48 shzC_61 rfl hF (fun h9 hF => ?_)
    obtain ⟨σ11, h10, hF⟩ := bd_some hF
    refine ww_callNv (pc := 49) X (As := [.ref (G.2.1 (50 + a2.toNatClampNeg)), .ref (G.2.1 (62 + a2.toNatClampNeg))]) (rest := []) dX5_takeFrom_49 (kX9_copyAll (mL M) G hZ X.2.2.2.2.2.2.1 X.2.2.2.2.2.2.2.1 σ1 (50 + a2.toNatClampNeg) (62 + a2.toNatClampNeg) σ11 h10) rfl (fun s h => eC_nmX5_takeFrom_37 (hZ s h)) gX5_takeFrom_X9_copyAll_n37 (List.mem_of_getElem? (i := 7) rfl) (List.mem_of_getElem? (i := 8) rfl) hyX9_copyAll ⟨rfl, rfl⟩ ⟨Nat.le_of_ble_eq_true rfl, Nat.le_of_ble_eq_true rfl⟩ rfl rfl (Nat.le_of_ble_eq_true rfl) ?_
    refine ww_aload_n (pc := 52) X (j := 1) dX5_takeFrom_52 rfl rfl ?_
    refine ww_get (pc := 53) X (ref := "PictureBlock$Stand") (T := TX5) (j := 4) dX5_takeFrom_53 inX5_takeFrom_RX5 shzC_47 clzC_5 (by decide) rfl (List.mem_of_getElem? (i := 5) rfl) rfl ?_
    refine ww_iload_n (pc := 56) X (j := 2) dX5_takeFrom_56 rfl rfl ?_
    refine ww_aald (pc := 57) X dX5_takeFrom_57 shzC_52 rfl hF (fun h12 hF => ?_)
    refine ww_aload_n (pc := 58) X (j := 0) dX5_takeFrom_58 rfl rfl ?_
    refine ww_get (pc := 59) X (ref := "PictureBlock$Stand") (T := TX5) (j := 4) dX5_takeFrom_59 inX5_takeFrom_RX5 shzC_59 clzC_5 (by decide) rfl (List.mem_of_getElem? (i := 5) rfl) rfl ?_
    refine ww_iload_n (pc := 62) X (j := 2) dX5_takeFrom_62 rfl rfl ?_
    refine ww_aald (pc := 63) X dX5_takeFrom_63 shzC_64 rfl hF (fun h13 hF => ?_)
    obtain ⟨σ15, h14, hF⟩ := bd_some hF
    refine ww_callNv (pc := 64) X (As := [.ref (G.2.1 (53 + a2.toNatClampNeg)), .ref (G.2.1 (65 + a2.toNatClampNeg))]) (rest := []) dX5_takeFrom_64 (kX9_copyAll (mL M) G hZ X.2.2.2.2.2.2.1 X.2.2.2.2.2.2.2.1 σ11 (53 + a2.toNatClampNeg) (65 + a2.toNatClampNeg) σ15 h14) rfl (fun s h => eC_nmX5_takeFrom_37 (hZ s h)) gX5_takeFrom_X9_copyAll_n37 (List.mem_of_getElem? (i := 7) rfl) (List.mem_of_getElem? (i := 8) rfl) hyX9_copyAll ⟨rfl, rfl⟩ ⟨Nat.le_of_ble_eq_true rfl, Nat.le_of_ble_eq_true rfl⟩ rfl rfl (Nat.le_of_ble_eq_true rfl) ?_
    refine ww_aload_n (pc := 67) X (j := 1) dX5_takeFrom_67 rfl rfl ?_
    refine ww_get (pc := 68) X (ref := "PictureBlock$Stand") (T := TX5) (j := 5) dX5_takeFrom_68 inX5_takeFrom_RX5 shzC_47 clzC_5 (by decide) rfl (List.mem_of_getElem? (i := 6) rfl) rfl ?_
    refine ww_iload_n (pc := 71) X (j := 2) dX5_takeFrom_71 rfl rfl ?_
    refine ww_aald (pc := 72) X dX5_takeFrom_72 shzC_55 rfl hF (fun h16 hF => ?_)
    refine ww_aload_n (pc := 73) X (j := 0) dX5_takeFrom_73 rfl rfl ?_
    refine ww_get (pc := 74) X (ref := "PictureBlock$Stand") (T := TX5) (j := 5) dX5_takeFrom_74 inX5_takeFrom_RX5 shzC_59 clzC_5 (by decide) rfl (List.mem_of_getElem? (i := 6) rfl) rfl ?_
    refine ww_iload_n (pc := 77) X (j := 2) dX5_takeFrom_77 rfl rfl ?_
    refine ww_aald (pc := 78) X dX5_takeFrom_78 shzC_67 rfl hF (fun h17 hF => ?_)
    obtain ⟨σ19, h18, hF⟩ := bd_some hF
    refine ww_callNv (pc := 79) X (As := [.ref (G.2.1 (56 + a2.toNatClampNeg)), .ref (G.2.1 (68 + a2.toNatClampNeg))]) (rest := []) dX5_takeFrom_79 (kX9_copyAll (mL M) G hZ X.2.2.2.2.2.2.1 X.2.2.2.2.2.2.2.1 σ15 (56 + a2.toNatClampNeg) (68 + a2.toNatClampNeg) σ19 h18) rfl (fun s h => eC_nmX5_takeFrom_37 (hZ s h)) gX5_takeFrom_X9_copyAll_n37 (List.mem_of_getElem? (i := 7) rfl) (List.mem_of_getElem? (i := 8) rfl) hyX9_copyAll ⟨rfl, rfl⟩ ⟨Nat.le_of_ble_eq_true rfl, Nat.le_of_ble_eq_true rfl⟩ rfl rfl (Nat.le_of_ble_eq_true rfl) ?_
    refine ww_iinc (pc := 82) X (j := 2) (v := 1) (lv' := [(0, .ref (G.2.1 59)), (1, .ref (G.2.1 47))]) dX5_takeFrom_82 rfl rfl (by decide) rfl hF (fun x20 ex20 hF => ?_)
    refine ww_goto (pc := 85) X (tgt := 32) dX5_takeFrom_85 (by decide) ?_
    exact ww_sub [1, 2, 0] rfl (ih32 x20 σ19 hF)
set_option maxRecDepth 100000 in
set_option maxHeartbeats 4000000 in
theorem wX5_takeFrom_59_47 {M : gM} {G : gG} {out : gS} (X : gX M G zC cX5_takeFrom RX5 3 wsX5_takeFrom rmX5_takeFrom none) {ex : gEx} (hZ : ∀ s : State, G.2.2.2 s → kC ex (gA G zC.1) s) (σ : gS) (hF : fX5_takeFrom_59_47 σ = some out) : WW M (gQv M G zC out) G zC 3 σ 0 [(0, .ref (G.2.1 59)), (1, .ref (G.2.1 47))] [] := by
  unfold fX5_takeFrom_59_47 at hF
  refine ww_aload_n (pc := 0) X (j := 0) dX5_takeFrom_0 rfl rfl ?_
  refine ww_aload_n (pc := 1) X (j := 1) dX5_takeFrom_1 rfl rfl ?_
  refine ww_get (pc := 2) X (ref := "PictureBlock$Stand") (T := TX5) (j := 1) dX5_takeFrom_2 inX5_takeFrom_RX5 shzC_47 clzC_5 (by decide) rfl (List.mem_of_getElem? (i := 1) rfl) rfl ?_
  refine ww_putI (pc := 5) X (ref := "PictureBlock$Stand") (T := TX5) (j := 1) dX5_takeFrom_5 inX5_takeFrom_RX5 tyX5 tyX5_ok nmX5 shzC_59 clzC_5 (by decide) rfl (List.mem_of_getElem? (i := 1) rfl) rfl rfl (by decide +kernel) hF (fun σ1 eσ1 hF => ?_)
  refine ww_aload_n (pc := 8) X (j := 1) dX5_takeFrom_8 rfl rfl ?_
  refine ww_get (pc := 9) X (ref := "PictureBlock$Stand") (T := TX5) (j := 2) dX5_takeFrom_9 inX5_takeFrom_RX5 shzC_47 clzC_5 (by decide) rfl (List.mem_of_getElem? (i := 2) rfl) rfl ?_
  refine ww_aload_n (pc := 12) X (j := 0) dX5_takeFrom_12 rfl rfl ?_
  refine ww_get (pc := 13) X (ref := "PictureBlock$Stand") (T := TX5) (j := 2) dX5_takeFrom_13 inX5_takeFrom_RX5 shzC_59 clzC_5 (by decide) rfl (List.mem_of_getElem? (i := 2) rfl) rfl ?_
  obtain ⟨σ3, h2, hF⟩ := bd_some hF
  refine ww_callNv (pc := 16) X (As := [.ref (G.2.1 48), .ref (G.2.1 60)]) (rest := []) dX5_takeFrom_16 (kX9_copyAll (mL M) G hZ X.2.2.2.2.2.2.1 X.2.2.2.2.2.2.2.1 σ1 48 60 σ3 h2) rfl (fun s h => eC_nmX5_takeFrom_37 (hZ s h)) gX5_takeFrom_X9_copyAll_n37 (List.mem_of_getElem? (i := 7) rfl) (List.mem_of_getElem? (i := 8) rfl) hyX9_copyAll ⟨rfl, rfl⟩ ⟨Nat.le_of_ble_eq_true rfl, Nat.le_of_ble_eq_true rfl⟩ rfl rfl (Nat.le_of_ble_eq_true rfl) ?_
  refine ww_aload_n (pc := 19) X (j := 1) dX5_takeFrom_19 rfl rfl ?_
  refine ww_get (pc := 20) X (ref := "PictureBlock$Stand") (T := TX5) (j := 6) dX5_takeFrom_20 inX5_takeFrom_RX5 shzC_47 clzC_5 (by decide) rfl (List.mem_of_getElem? (i := 3) rfl) rfl ?_
  refine ww_aload_n (pc := 23) X (j := 0) dX5_takeFrom_23 rfl rfl ?_
  refine ww_get (pc := 24) X (ref := "PictureBlock$Stand") (T := TX5) (j := 6) dX5_takeFrom_24 inX5_takeFrom_RX5 shzC_59 clzC_5 (by decide) rfl (List.mem_of_getElem? (i := 3) rfl) rfl ?_
  obtain ⟨σ5, h4, hF⟩ := bd_some hF
  refine ww_callNv (pc := 27) X (As := [.ref (G.2.1 58), .ref (G.2.1 70)]) (rest := []) dX5_takeFrom_27 (kX9_copyAll (mL M) G hZ X.2.2.2.2.2.2.1 X.2.2.2.2.2.2.2.1 σ3 58 70 σ5 h4) rfl (fun s h => eC_nmX5_takeFrom_37 (hZ s h)) gX5_takeFrom_X9_copyAll_n37 (List.mem_of_getElem? (i := 7) rfl) (List.mem_of_getElem? (i := 8) rfl) hyX9_copyAll ⟨rfl, rfl⟩ ⟨Nat.le_of_ble_eq_true rfl, Nat.le_of_ble_eq_true rfl⟩ rfl rfl (Nat.le_of_ble_eq_true rfl) ?_
  refine ww_iconst (pc := 30) X (v := 0) dX5_takeFrom_30 (by decide) ?_
  refine ww_istore_n (pc := 31) X (lv' := [(0, .ref (G.2.1 59)), (1, .ref (G.2.1 47))]) dX5_takeFrom_31 rfl (by decide) rfl hF (fun x6 ex6 hF => ?_)
  exact ww_sub [1, 2, 0] rfl (lpc_ind (P := (fun (s : Int32 × gS) => WW M (gQv M G zC out) G zC 3 s.2 32 [(0, .ref (G.2.1 59)), (1, .ref (G.2.1 47)), (2, .int s.1)] [])) (fun rec s ih hF => wbX5_takeFrom_59_47_32 X hZ σ5 (fun a2 σ1 => rec (a2, σ1)) (fun a2 σ1 h => ih (a2, σ1) h) s.1 s.2 hF) K9 (x6, σ5) hF)
set_option maxRecDepth 100000 in
set_option maxHeartbeats 4000000 in
theorem kX5_takeFrom_59_47 (l : Launch) (G : gG) {ex : gEx} (hZ : ∀ s : State, G.2.2.2 s → kC ex (gA G zC.1) s) (hG : gOK G zC.1) (hT : G.2.2.1.map (fun q => q.2) = zC.2.1) (σ : gS) (out : gS) (hF : fX5_takeFrom_59_47 σ = some out) : gCv l yX5_takeFrom wsX5_takeFrom rmX5_takeFrom G zC [.ref (G.2.1 59), .ref (G.2.1 47)] σ out :=
  gEnter (by decide) rfl ⟨rfl, rfl⟩ hG hT (Nat.le_of_ble_eq_true rfl) rfl (fun M X hl => wX5_takeFrom_59_47 X hZ σ hF)
noncomputable def fX9_placeBySet (σ : gS) (p1 : Int32) (p2 : Int32) (p3 : Int32) : Option (Int32 × gS) :=
  nm (gsI σ 47 1 p1) fun σ1 => bd2 (fX6_begin σ1) fun r3 σ4 => bd2 (fX1_settle σ4 200) fun r6 σ7 => gd (gb p3 2) <| gd (gb p2 12) <| nm (σ7.1 (50 + p3.toNatClampNeg) p2.toNatClampNeg) fun v9 => some (v9, σ7)
noncomputable abbrev rmX9_placeBySet : Room := { frames := 5, cells := 0, slots := 0, locals := 129 }
set_option maxRecDepth 100000 in
set_option maxHeartbeats 4000000 in
theorem wX9_placeBySet {M : gM} {G : gG} {out : Int32 × gS} (X : gX M G zC cX9_placeBySet RX9 4 wsX9_placeBySet rmX9_placeBySet (some .int)) {ex : gEx} (hZ : ∀ s : State, G.2.2.2 s → kC ex (gA G zC.1) s) (σ : gS) (p1 : Int32) (p2 : Int32) (p3 : Int32) (hF : fX9_placeBySet σ p1 p2 p3 = some out) : WW M (gQi M G zC out.1 out.2) G zC 4 σ 0 [(0, .ref (G.2.1 0)), (1, .int p1), (2, .int p2), (3, .int p3)] [] := by
  unfold fX9_placeBySet at hF
  refine ww_aload_n (pc := 0) X (j := 0) dX9_placeBySet_0 rfl rfl ?_
  refine ww_get (pc := 1) X (ref := "PictureBlock") (T := TX9) (j := 5) dX9_placeBySet_1 inX9_placeBySet_RX9 shzC_0 clzC_9 (by decide) rfl (List.mem_of_getElem? (i := 1) rfl) rfl ?_
  refine ww_iload_n (pc := 4) X (j := 1) dX9_placeBySet_4 rfl rfl ?_
  refine ww_putI (pc := 5) X (ref := "PictureBlock$Stand") (T := TX5) (j := 1) dX9_placeBySet_5 inX9_placeBySet_RX5 tyX5 tyX5_ok nmX5 shzC_47 clzC_5 (by decide) rfl (List.mem_of_getElem? (i := 2) rfl) rfl rfl (by decide +kernel) hF (fun σ1 eσ1 hF => ?_)
  refine ww_aload_n (pc := 8) X (j := 0) dX9_placeBySet_8 rfl rfl ?_
  refine ww_get (pc := 9) X (ref := "PictureBlock") (T := TX9) (j := 8) dX9_placeBySet_9 inX9_placeBySet_RX9 shzC_0 clzC_9 (by decide) rfl (List.mem_of_getElem? (i := 3) rfl) rfl ?_
  obtain ⟨r3, σ4, h2, hF⟩ := bd2_some hF
  refine ww_callVi (pc := 12) X (As := []) (rest := []) dX9_placeBySet_12 (kX6_begin (mL M) G hZ X.2.2.2.2.2.2.1 X.2.2.2.2.2.2.2.1 σ1 (r3, σ4) h2) rfl shzC_83 clzC_6 gX9_placeBySet_X6_begin hyX6_begin ⟨rfl, rfl⟩ ⟨Nat.le_of_ble_eq_true rfl, Nat.le_of_ble_eq_true rfl⟩ rfl rfl (Nat.le_of_ble_eq_true rfl) ?_
  refine ww_pop (pc := 15) X dX9_placeBySet_15 rfl ?_
  refine ww_aload_n (pc := 16) X (j := 0) dX9_placeBySet_16 rfl rfl ?_
  refine ww_get (pc := 17) X (ref := "PictureBlock") (T := TX9) (j := 9) dX9_placeBySet_17 inX9_placeBySet_RX9 shzC_0 clzC_9 (by decide) rfl (List.mem_of_getElem? (i := 4) rfl) rfl ?_
  refine ww_sipush (pc := 20) X (v := 200) dX9_placeBySet_20 (by decide) ?_
  obtain ⟨r6, σ7, h5, hF⟩ := bd2_some hF
  refine ww_callVi (pc := 23) X (As := [.int 200]) (rest := []) dX9_placeBySet_23 (kX1_settle (mL M) G hZ X.2.2.2.2.2.2.1 X.2.2.2.2.2.2.2.1 σ4 200 (r6, σ7) h5) rfl shzC_90 clzC_1 gX9_placeBySet_X1_settle hyX1_settle ⟨rfl, rfl⟩ ⟨Nat.le_of_ble_eq_true rfl, Nat.le_of_ble_eq_true rfl⟩ rfl rfl (Nat.le_of_ble_eq_true rfl) ?_
  refine ww_pop (pc := 26) X dX9_placeBySet_26 rfl ?_
  refine ww_aload_n (pc := 27) X (j := 0) dX9_placeBySet_27 rfl rfl ?_
  refine ww_get (pc := 28) X (ref := "PictureBlock") (T := TX9) (j := 5) dX9_placeBySet_28 inX9_placeBySet_RX9 shzC_0 clzC_9 (by decide) rfl (List.mem_of_getElem? (i := 1) rfl) rfl ?_
  refine ww_get (pc := 31) X (ref := "PictureBlock$Stand") (T := TX5) (j := 3) dX9_placeBySet_31 inX9_placeBySet_RX5 shzC_47 clzC_5 (by decide) rfl (List.mem_of_getElem? (i := 5) rfl) rfl ?_
  refine ww_iload_n (pc := 34) X (j := 3) dX9_placeBySet_34 rfl rfl ?_
  refine ww_aald (pc := 35) X dX9_placeBySet_35 shzC_49 rfl hF (fun h8 hF => ?_)
  refine ww_iload_n (pc := 36) X (j := 2) dX9_placeBySet_36 rfl rfl ?_
  refine ww_iald (pc := 37) X dX9_placeBySet_37 (rwzC_49 _ (gb_lt h8)) rfl hF (fun v9 ev9 bv9 hF => ?_)
  exact ww_iret (pc := 38) X dX9_placeBySet_38 (fst_of hF) (snd_of hF)
set_option maxRecDepth 100000 in
set_option maxHeartbeats 4000000 in
theorem kX9_placeBySet (l : Launch) (G : gG) {ex : gEx} (hZ : ∀ s : State, G.2.2.2 s → kC ex (gA G zC.1) s) (hG : gOK G zC.1) (hT : G.2.2.1.map (fun q => q.2) = zC.2.1) (σ : gS) (p1 : Int32) (p2 : Int32) (p3 : Int32) (out : Int32 × gS) (hF : fX9_placeBySet σ p1 p2 p3 = some out) : gCi l yX9_placeBySet wsX9_placeBySet rmX9_placeBySet G zC [.ref (G.2.1 0), .int p1, .int p2, .int p3] σ out.1 out.2 :=
  gEnter (by decide) rfl ⟨rfl, rfl⟩ hG hT (Nat.le_of_ble_eq_true rfl) rfl (fun M X hl => wX9_placeBySet X hZ σ p1 p2 p3 hF)
noncomputable def bX5_takeFrom_47_59_32 (σ : gS) (rec32 : Int32 → gS → Option (gS)) (a2 : Int32) (σ1 : gS) : Option (gS) :=
  if 2 ≤ a2 then some σ1 else gd (gb a2 2) <| gd (gb a2 2) <| bd (fX9_copyAll σ1 (62 + a2.toNatClampNeg) (50 + a2.toNatClampNeg)) fun σ11 => gd (gb a2 2) <| gd (gb a2 2) <| bd (fX9_copyAll σ11 (65 + a2.toNatClampNeg) (53 + a2.toNatClampNeg)) fun σ15 => gd (gb a2 2) <| gd (gb a2 2) <| bd (fX9_copyAll σ15 (68 + a2.toNatClampNeg) (56 + a2.toNatClampNeg)) fun σ19 => nm (a2 + 1 : Int32) fun x20 => rec32 x20 σ19
noncomputable def fX5_takeFrom_47_59 (σ : gS) : Option (gS) :=
  nm (gsI σ 47 1 (σ.1 59 1)) fun σ1 => bd (fX9_copyAll σ1 60 48) fun σ3 => bd (fX9_copyAll σ3 70 58) fun σ5 => nm (0 : Int32) fun x6 => lpc (S := Int32 × gS) K9 (fun rec s => bX5_takeFrom_47_59_32 σ5 (fun a2 σ1 => rec (a2, σ1)) s.1 s.2) (x6, σ5)
set_option maxRecDepth 100000 in
set_option maxHeartbeats 4000000 in
theorem wbX5_takeFrom_47_59_32 {M : gM} {G : gG} {out : gS} (X : gX M G zC cX5_takeFrom RX5 3 wsX5_takeFrom rmX5_takeFrom none) {ex : gEx} (hZ : ∀ s : State, G.2.2.2 s → kC ex (gA G zC.1) s) (σ : gS) (rec32 : Int32 → gS → Option (gS)) (ih32 : ∀ (a2 : Int32) (σ1 : gS), rec32 a2 σ1 = some out → WW M (gQv M G zC out) G zC 3 σ1 32 [(0, .ref (G.2.1 47)), (1, .ref (G.2.1 59)), (2, .int a2)] []) (a2 : Int32) (σ1 : gS) (hF : bX5_takeFrom_47_59_32 σ rec32 a2 σ1 = some out) : WW M (gQv M G zC out) G zC 3 σ1 32 [(0, .ref (G.2.1 47)), (1, .ref (G.2.1 59)), (2, .int a2)] [] := by
  unfold bX5_takeFrom_47_59_32 at hF
  refine ww_iload_n (pc := 32) X (j := 2) dX5_takeFrom_32 rfl rfl ?_
  refine ww_iconst (pc := 33) X (v := 2) dX5_takeFrom_33 (by decide) ?_
  refine ww_icmp_ge (pc := 34) (tgt := 88) X dX5_takeFrom_34 (by decide) hF (fun h7 hF => ?_) (fun h7 hF => ?_)
  · exact ww_vret (pc := 88) X dX5_takeFrom_88 (by cases hF; rfl)
  · refine ww_aload_n (pc := 37) X (j := 1) dX5_takeFrom_37 rfl rfl ?_
    refine ww_get (pc := 38) X (ref := "PictureBlock$Stand") (T := TX5) (j := 3) dX5_takeFrom_38 inX5_takeFrom_RX5 shzC_59 clzC_5 (by decide) rfl (List.mem_of_getElem? (i := 4) rfl) rfl ?_
    refine ww_iload_n (pc := 41) X (j := 2) dX5_takeFrom_41 rfl rfl ?_
    refine ww_aald (pc := 42) X dX5_takeFrom_42 shzC_61 rfl hF (fun h8 hF => ?_)
    refine ww_aload_n (pc := 43) X (j := 0) dX5_takeFrom_43 rfl rfl ?_
    refine ww_get (pc := 44) X (ref := "PictureBlock$Stand") (T := TX5) (j := 3) dX5_takeFrom_44 inX5_takeFrom_RX5 shzC_47 clzC_5 (by decide) rfl (List.mem_of_getElem? (i := 4) rfl) rfl ?_
    refine ww_iload_n (pc := 47) X (j := 2) dX5_takeFrom_47 rfl rfl ?_
    refine ww_aald (pc := 48) X dX5_takeFrom_48 shzC_49 rfl hF (fun h9 hF => ?_)
    obtain ⟨σ11, h10, hF⟩ := bd_some hF
    refine ww_callNv (pc := 49) X (As := [.ref (G.2.1 (62 + a2.toNatClampNeg)), .ref (G.2.1 (50 + a2.toNatClampNeg))]) (rest := []) dX5_takeFrom_49 (kX9_copyAll (mL M) G hZ X.2.2.2.2.2.2.1 X.2.2.2.2.2.2.2.1 σ1 (62 + a2.toNatClampNeg) (50 + a2.toNatClampNeg) σ11 h10) rfl (fun s h => eC_nmX5_takeFrom_37 (hZ s h)) gX5_takeFrom_X9_copyAll_n37 (List.mem_of_getElem? (i := 7) rfl) (List.mem_of_getElem? (i := 8) rfl) hyX9_copyAll ⟨rfl, rfl⟩ ⟨Nat.le_of_ble_eq_true rfl, Nat.le_of_ble_eq_true rfl⟩ rfl rfl (Nat.le_of_ble_eq_true rfl) ?_
    refine ww_aload_n (pc := 52) X (j := 1) dX5_takeFrom_52 rfl rfl ?_
    refine ww_get (pc := 53) X (ref := "PictureBlock$Stand") (T := TX5) (j := 4) dX5_takeFrom_53 inX5_takeFrom_RX5 shzC_59 clzC_5 (by decide) rfl (List.mem_of_getElem? (i := 5) rfl) rfl ?_
    refine ww_iload_n (pc := 56) X (j := 2) dX5_takeFrom_56 rfl rfl ?_
    refine ww_aald (pc := 57) X dX5_takeFrom_57 shzC_64 rfl hF (fun h12 hF => ?_)
    refine ww_aload_n (pc := 58) X (j := 0) dX5_takeFrom_58 rfl rfl ?_
    refine ww_get (pc := 59) X (ref := "PictureBlock$Stand") (T := TX5) (j := 4) dX5_takeFrom_59 inX5_takeFrom_RX5 shzC_47 clzC_5 (by decide) rfl (List.mem_of_getElem? (i := 5) rfl) rfl ?_
    refine ww_iload_n (pc := 62) X (j := 2) dX5_takeFrom_62 rfl rfl ?_
    refine ww_aald (pc := 63) X dX5_takeFrom_63 shzC_52 rfl hF (fun h13 hF => ?_)
    obtain ⟨σ15, h14, hF⟩ := bd_some hF
    refine ww_callNv (pc := 64) X (As := [.ref (G.2.1 (65 + a2.toNatClampNeg)), .ref (G.2.1 (53 + a2.toNatClampNeg))]) (rest := []) dX5_takeFrom_64 (kX9_copyAll (mL M) G hZ X.2.2.2.2.2.2.1 X.2.2.2.2.2.2.2.1 σ11 (65 + a2.toNatClampNeg) (53 + a2.toNatClampNeg) σ15 h14) rfl (fun s h => eC_nmX5_takeFrom_37 (hZ s h)) gX5_takeFrom_X9_copyAll_n37 (List.mem_of_getElem? (i := 7) rfl) (List.mem_of_getElem? (i := 8) rfl) hyX9_copyAll ⟨rfl, rfl⟩ ⟨Nat.le_of_ble_eq_true rfl, Nat.le_of_ble_eq_true rfl⟩ rfl rfl (Nat.le_of_ble_eq_true rfl) ?_
    refine ww_aload_n (pc := 67) X (j := 1) dX5_takeFrom_67 rfl rfl ?_
    refine ww_get (pc := 68) X (ref := "PictureBlock$Stand") (T := TX5) (j := 5) dX5_takeFrom_68 inX5_takeFrom_RX5 shzC_59 clzC_5 (by decide) rfl (List.mem_of_getElem? (i := 6) rfl) rfl ?_
    refine ww_iload_n (pc := 71) X (j := 2) dX5_takeFrom_71 rfl rfl ?_
    refine ww_aald (pc := 72) X dX5_takeFrom_72 shzC_67 rfl hF (fun h16 hF => ?_)
    refine ww_aload_n (pc := 73) X (j := 0) dX5_takeFrom_73 rfl rfl ?_
    refine ww_get (pc := 74) X (ref := "PictureBlock$Stand") (T := TX5) (j := 5) dX5_takeFrom_74 inX5_takeFrom_RX5 shzC_47 clzC_5 (by decide) rfl (List.mem_of_getElem? (i := 6) rfl) rfl ?_
    refine ww_iload_n (pc := 77) X (j := 2) dX5_takeFrom_77 rfl rfl ?_
    refine ww_aald (pc := 78) X dX5_takeFrom_78 shzC_55 rfl hF (fun h17 hF => ?_)
    obtain ⟨σ19, h18, hF⟩ := bd_some hF
    refine ww_callNv (pc := 79) X (As := [.ref (G.2.1 (68 + a2.toNatClampNeg)), .ref (G.2.1 (56 + a2.toNatClampNeg))]) (rest := []) dX5_takeFrom_79 (kX9_copyAll (mL M) G hZ X.2.2.2.2.2.2.1 X.2.2.2.2.2.2.2.1 σ15 (68 + a2.toNatClampNeg) (56 + a2.toNatClampNeg) σ19 h18) rfl (fun s h => eC_nmX5_takeFrom_37 (hZ s h)) gX5_takeFrom_X9_copyAll_n37 (List.mem_of_getElem? (i := 7) rfl) (List.mem_of_getElem? (i := 8) rfl) hyX9_copyAll ⟨rfl, rfl⟩ ⟨Nat.le_of_ble_eq_true rfl, Nat.le_of_ble_eq_true rfl⟩ rfl rfl (Nat.le_of_ble_eq_true rfl) ?_
    refine ww_iinc (pc := 82) X (j := 2) (v := 1) (lv' := [(0, .ref (G.2.1 47)), (1, .ref (G.2.1 59))]) dX5_takeFrom_82 rfl rfl (by decide) rfl hF (fun x20 ex20 hF => ?_)
    refine ww_goto (pc := 85) X (tgt := 32) dX5_takeFrom_85 (by decide) ?_
    exact ww_sub [1, 2, 0] rfl (ih32 x20 σ19 hF)
set_option maxRecDepth 100000 in
set_option maxHeartbeats 4000000 in
theorem wX5_takeFrom_47_59 {M : gM} {G : gG} {out : gS} (X : gX M G zC cX5_takeFrom RX5 3 wsX5_takeFrom rmX5_takeFrom none) {ex : gEx} (hZ : ∀ s : State, G.2.2.2 s → kC ex (gA G zC.1) s) (σ : gS) (hF : fX5_takeFrom_47_59 σ = some out) : WW M (gQv M G zC out) G zC 3 σ 0 [(0, .ref (G.2.1 47)), (1, .ref (G.2.1 59))] [] := by
  unfold fX5_takeFrom_47_59 at hF
  refine ww_aload_n (pc := 0) X (j := 0) dX5_takeFrom_0 rfl rfl ?_
  refine ww_aload_n (pc := 1) X (j := 1) dX5_takeFrom_1 rfl rfl ?_
  refine ww_get (pc := 2) X (ref := "PictureBlock$Stand") (T := TX5) (j := 1) dX5_takeFrom_2 inX5_takeFrom_RX5 shzC_59 clzC_5 (by decide) rfl (List.mem_of_getElem? (i := 1) rfl) rfl ?_
  refine ww_putI (pc := 5) X (ref := "PictureBlock$Stand") (T := TX5) (j := 1) dX5_takeFrom_5 inX5_takeFrom_RX5 tyX5 tyX5_ok nmX5 shzC_47 clzC_5 (by decide) rfl (List.mem_of_getElem? (i := 1) rfl) rfl rfl (by decide +kernel) hF (fun σ1 eσ1 hF => ?_)
  refine ww_aload_n (pc := 8) X (j := 1) dX5_takeFrom_8 rfl rfl ?_
  refine ww_get (pc := 9) X (ref := "PictureBlock$Stand") (T := TX5) (j := 2) dX5_takeFrom_9 inX5_takeFrom_RX5 shzC_59 clzC_5 (by decide) rfl (List.mem_of_getElem? (i := 2) rfl) rfl ?_
  refine ww_aload_n (pc := 12) X (j := 0) dX5_takeFrom_12 rfl rfl ?_
  refine ww_get (pc := 13) X (ref := "PictureBlock$Stand") (T := TX5) (j := 2) dX5_takeFrom_13 inX5_takeFrom_RX5 shzC_47 clzC_5 (by decide) rfl (List.mem_of_getElem? (i := 2) rfl) rfl ?_
  obtain ⟨σ3, h2, hF⟩ := bd_some hF
  refine ww_callNv (pc := 16) X (As := [.ref (G.2.1 60), .ref (G.2.1 48)]) (rest := []) dX5_takeFrom_16 (kX9_copyAll (mL M) G hZ X.2.2.2.2.2.2.1 X.2.2.2.2.2.2.2.1 σ1 60 48 σ3 h2) rfl (fun s h => eC_nmX5_takeFrom_37 (hZ s h)) gX5_takeFrom_X9_copyAll_n37 (List.mem_of_getElem? (i := 7) rfl) (List.mem_of_getElem? (i := 8) rfl) hyX9_copyAll ⟨rfl, rfl⟩ ⟨Nat.le_of_ble_eq_true rfl, Nat.le_of_ble_eq_true rfl⟩ rfl rfl (Nat.le_of_ble_eq_true rfl) ?_
  refine ww_aload_n (pc := 19) X (j := 1) dX5_takeFrom_19 rfl rfl ?_
  refine ww_get (pc := 20) X (ref := "PictureBlock$Stand") (T := TX5) (j := 6) dX5_takeFrom_20 inX5_takeFrom_RX5 shzC_59 clzC_5 (by decide) rfl (List.mem_of_getElem? (i := 3) rfl) rfl ?_
  refine ww_aload_n (pc := 23) X (j := 0) dX5_takeFrom_23 rfl rfl ?_
  refine ww_get (pc := 24) X (ref := "PictureBlock$Stand") (T := TX5) (j := 6) dX5_takeFrom_24 inX5_takeFrom_RX5 shzC_47 clzC_5 (by decide) rfl (List.mem_of_getElem? (i := 3) rfl) rfl ?_
  obtain ⟨σ5, h4, hF⟩ := bd_some hF
  refine ww_callNv (pc := 27) X (As := [.ref (G.2.1 70), .ref (G.2.1 58)]) (rest := []) dX5_takeFrom_27 (kX9_copyAll (mL M) G hZ X.2.2.2.2.2.2.1 X.2.2.2.2.2.2.2.1 σ3 70 58 σ5 h4) rfl (fun s h => eC_nmX5_takeFrom_37 (hZ s h)) gX5_takeFrom_X9_copyAll_n37 (List.mem_of_getElem? (i := 7) rfl) (List.mem_of_getElem? (i := 8) rfl) hyX9_copyAll ⟨rfl, rfl⟩ ⟨Nat.le_of_ble_eq_true rfl, Nat.le_of_ble_eq_true rfl⟩ rfl rfl (Nat.le_of_ble_eq_true rfl) ?_
  refine ww_iconst (pc := 30) X (v := 0) dX5_takeFrom_30 (by decide) ?_
  refine ww_istore_n (pc := 31) X (lv' := [(0, .ref (G.2.1 47)), (1, .ref (G.2.1 59))]) dX5_takeFrom_31 rfl (by decide) rfl hF (fun x6 ex6 hF => ?_)
  exact ww_sub [1, 2, 0] rfl (lpc_ind (P := (fun (s : Int32 × gS) => WW M (gQv M G zC out) G zC 3 s.2 32 [(0, .ref (G.2.1 47)), (1, .ref (G.2.1 59)), (2, .int s.1)] [])) (fun rec s ih hF => wbX5_takeFrom_47_59_32 X hZ σ5 (fun a2 σ1 => rec (a2, σ1)) (fun a2 σ1 h => ih (a2, σ1) h) s.1 s.2 hF) K9 (x6, σ5) hF)
set_option maxRecDepth 100000 in
set_option maxHeartbeats 4000000 in
theorem kX5_takeFrom_47_59 (l : Launch) (G : gG) {ex : gEx} (hZ : ∀ s : State, G.2.2.2 s → kC ex (gA G zC.1) s) (hG : gOK G zC.1) (hT : G.2.2.1.map (fun q => q.2) = zC.2.1) (σ : gS) (out : gS) (hF : fX5_takeFrom_47_59 σ = some out) : gCv l yX5_takeFrom wsX5_takeFrom rmX5_takeFrom G zC [.ref (G.2.1 47), .ref (G.2.1 59)] σ out :=
  gEnter (by decide) rfl ⟨rfl, rfl⟩ hG hT (Nat.le_of_ble_eq_true rfl) rfl (fun M X hl => wX5_takeFrom_47_59 X hZ σ hF)
noncomputable def fX9_differ (σ : gS) (p1 : Int32) (p2 : Int32) : Option (Int32 × gS) :=
  bd (fX8_exists_2 σ 1 p1) fun r2 => (if r2 = 0 then some ((-1000000000), σ) else bd (fX9_isAxis σ p2) fun r5 => (if r5 = 0 then some ((-1000000000), σ) else bd (fX5_takeFrom_59_47 σ) fun σ8 => bd2 (fX9_placeBySet σ8 1 p1 p2) fun r10 σ11 => nm (r10 : Int32) fun x12 => bd2 (fX9_placeBySet σ11 2 p1 p2) fun r14 σ15 => nm (r14 : Int32) fun x16 => bd (fX5_takeFrom_47_59 σ15) fun σ18 => some (x12 - x16, σ18)))
noncomputable abbrev rmX9_differ : Room := { frames := 6, cells := 0, slots := 0, locals := 152 }
set_option maxRecDepth 100000 in
set_option maxHeartbeats 4000000 in
theorem wX9_differ {M : gM} {G : gG} {out : Int32 × gS} (X : gX M G zC cX9_differ RX9 5 wsX9_differ rmX9_differ (some .int)) {ex : gEx} (hZ : ∀ s : State, G.2.2.2 s → kC ex (gA G zC.1) s) (σ : gS) (p1 : Int32) (p2 : Int32) (hF : fX9_differ σ p1 p2 = some out) : WW M (gQi M G zC out.1 out.2) G zC 5 σ 0 [(0, .ref (G.2.1 0)), (1, .int p1), (2, .int p2)] [] := by
  unfold fX9_differ at hF
  refine ww_aload_n (pc := 0) X (j := 0) dX9_differ_0 rfl rfl ?_
  refine ww_get (pc := 1) X (ref := "PictureBlock") (T := TX9) (j := 2) dX9_differ_1 inX9_differ_RX9 shzC_0 clzC_9 (by decide) rfl (List.mem_of_getElem? (i := 1) rfl) rfl ?_
  refine ww_iconst (pc := 4) X (v := 1) dX9_differ_4 (by decide) ?_
  refine ww_iload_n (pc := 5) X (j := 1) dX9_differ_5 rfl rfl ?_
  obtain ⟨r2, h1, hF⟩ := bd_some hF
  refine ww_callVi (pc := 6) X (As := [.int 1, .int p1]) (rest := []) dX9_differ_6 (kX8_exists_2 (mL M) G hZ X.2.2.2.2.2.2.1 X.2.2.2.2.2.2.2.1 σ 1 p1 r2 h1) rfl shzC_2 clzC_8 gX9_differ_X8_exists hyX8_exists ⟨rfl, rfl⟩ ⟨Nat.le_of_ble_eq_true rfl, Nat.le_of_ble_eq_true rfl⟩ rfl rfl (Nat.le_of_ble_eq_true rfl) ?_
  refine ww_if_eq (pc := 9) (tgt := 19) X dX9_differ_9 (by decide) hF (fun h3 hF => ?_) (fun h3 hF => ?_)
  · refine ww_ldc (pc := 19) X (v := (-1000000000)) (List.mem_of_getElem? (i := 2) rfl) dX9_differ_19 ?_
    exact ww_iret (pc := 21) X dX9_differ_21 (fst_of hF) (snd_of hF)
  · refine ww_iload_n (pc := 12) X (j := 2) dX9_differ_12 rfl rfl ?_
    obtain ⟨r5, h4, hF⟩ := bd_some hF
    refine ww_callSi (pc := 13) X (As := [.int p2]) (rest := []) dX9_differ_13 (kX9_isAxis (mL M) G hZ X.2.2.2.2.2.2.1 X.2.2.2.2.2.2.2.1 σ p2 r5 h4) rfl gX9_differ_X9_isAxis hyX9_isAxis ⟨rfl, rfl⟩ ⟨Nat.le_of_ble_eq_true rfl, Nat.le_of_ble_eq_true rfl⟩ rfl rfl (Nat.le_of_ble_eq_true rfl) ?_
    refine ww_if_ne (pc := 16) (tgt := 22) X dX9_differ_16 (by decide) hF (fun h6 hF => ?_) (fun h6 hF => ?_)
    · refine ww_aload_n (pc := 22) X (j := 0) dX9_differ_22 rfl rfl ?_
      refine ww_get (pc := 23) X (ref := "PictureBlock") (T := TX9) (j := 6) dX9_differ_23 inX9_differ_RX9 shzC_0 clzC_9 (by decide) rfl (List.mem_of_getElem? (i := 3) rfl) rfl ?_
      refine ww_aload_n (pc := 26) X (j := 0) dX9_differ_26 rfl rfl ?_
      refine ww_get (pc := 27) X (ref := "PictureBlock") (T := TX9) (j := 5) dX9_differ_27 inX9_differ_RX9 shzC_0 clzC_9 (by decide) rfl (List.mem_of_getElem? (i := 4) rfl) rfl ?_
      obtain ⟨σ8, h7, hF⟩ := bd_some hF
      refine ww_callVv (pc := 30) X (As := [.ref (G.2.1 47)]) (rest := []) dX9_differ_30 (kX5_takeFrom_59_47 (mL M) G hZ X.2.2.2.2.2.2.1 X.2.2.2.2.2.2.2.1 σ σ8 h7) rfl shzC_59 clzC_5 gX9_differ_X5_takeFrom hyX5_takeFrom ⟨rfl, rfl⟩ ⟨Nat.le_of_ble_eq_true rfl, Nat.le_of_ble_eq_true rfl⟩ rfl rfl (Nat.le_of_ble_eq_true rfl) ?_
      refine ww_aload_n (pc := 33) X (j := 0) dX9_differ_33 rfl rfl ?_
      refine ww_iconst (pc := 34) X (v := 1) dX9_differ_34 (by decide) ?_
      refine ww_iload_n (pc := 35) X (j := 1) dX9_differ_35 rfl rfl ?_
      refine ww_iload_n (pc := 36) X (j := 2) dX9_differ_36 rfl rfl ?_
      obtain ⟨r10, σ11, h9, hF⟩ := bd2_some hF
      refine ww_callVi (pc := 37) X (As := [.int 1, .int p1, .int p2]) (rest := []) dX9_differ_37 (kX9_placeBySet (mL M) G hZ X.2.2.2.2.2.2.1 X.2.2.2.2.2.2.2.1 σ8 1 p1 p2 (r10, σ11) h9) rfl shzC_0 clzC_9 gX9_differ_X9_placeBySet hyX9_placeBySet ⟨rfl, rfl⟩ ⟨Nat.le_of_ble_eq_true rfl, Nat.le_of_ble_eq_true rfl⟩ rfl rfl (Nat.le_of_ble_eq_true rfl) ?_
      refine ww_istore_n (pc := 40) X (lv' := [(0, .ref (G.2.1 0)), (1, .int p1), (2, .int p2)]) dX9_differ_40 rfl (by decide) rfl hF (fun x12 ex12 hF => ?_)
      refine ww_aload_n (pc := 41) X (j := 1) dX9_differ_41 rfl rfl ?_
      refine ww_iconst (pc := 42) X (v := 2) dX9_differ_42 (by decide) ?_
      refine ww_iload_n (pc := 43) X (j := 2) dX9_differ_43 rfl rfl ?_
      refine ww_iload_n (pc := 44) X (j := 3) dX9_differ_44 rfl rfl ?_
      obtain ⟨r14, σ15, h13, hF⟩ := bd2_some hF
      refine ww_callVi (pc := 45) X (As := [.int 2, .int p1, .int p2]) (rest := []) dX9_differ_45 (kX9_placeBySet (mL M) G hZ X.2.2.2.2.2.2.1 X.2.2.2.2.2.2.2.1 σ11 2 p1 p2 (r14, σ15) h13) rfl shzC_0 clzC_9 gX9_differ_X9_placeBySet hyX9_placeBySet ⟨rfl, rfl⟩ ⟨Nat.le_of_ble_eq_true rfl, Nat.le_of_ble_eq_true rfl⟩ rfl rfl (Nat.le_of_ble_eq_true rfl) ?_
      refine ww_istore (pc := 48) X (lv' := [(3, .int x12), (0, .ref (G.2.1 0)), (1, .int p1), (2, .int p2)]) dX9_differ_48 (by decide) rfl hF (fun x16 ex16 hF => ?_)
      refine ww_aload_n (pc := 50) X (j := 2) dX9_differ_50 rfl rfl ?_
      refine ww_get (pc := 51) X (ref := "PictureBlock") (T := TX9) (j := 5) dX9_differ_51 inX9_differ_RX9 shzC_0 clzC_9 (by decide) rfl (List.mem_of_getElem? (i := 4) rfl) rfl ?_
      refine ww_aload_n (pc := 54) X (j := 2) dX9_differ_54 rfl rfl ?_
      refine ww_get (pc := 55) X (ref := "PictureBlock") (T := TX9) (j := 6) dX9_differ_55 inX9_differ_RX9 shzC_0 clzC_9 (by decide) rfl (List.mem_of_getElem? (i := 3) rfl) rfl ?_
      obtain ⟨σ18, h17, hF⟩ := bd_some hF
      refine ww_callVv (pc := 58) X (As := [.ref (G.2.1 59)]) (rest := []) dX9_differ_58 (kX5_takeFrom_47_59 (mL M) G hZ X.2.2.2.2.2.2.1 X.2.2.2.2.2.2.2.1 σ15 σ18 h17) rfl shzC_47 clzC_5 gX9_differ_X5_takeFrom hyX5_takeFrom ⟨rfl, rfl⟩ ⟨Nat.le_of_ble_eq_true rfl, Nat.le_of_ble_eq_true rfl⟩ rfl rfl (Nat.le_of_ble_eq_true rfl) ?_
      refine ww_iload_n (pc := 61) X (j := 1) dX9_differ_61 rfl rfl ?_
      refine ww_iload (pc := 62) X (j := 0) dX9_differ_62 rfl ?_
      refine ww_isub (pc := 64) X dX9_differ_64 ?_
      exact ww_iret (pc := 65) X dX9_differ_65 (fst_of hF) (snd_of hF)
    · refine ww_ldc (pc := 19) X (v := (-1000000000)) (List.mem_of_getElem? (i := 2) rfl) dX9_differ_19 ?_
      exact ww_iret (pc := 21) X dX9_differ_21 (fst_of hF) (snd_of hF)
set_option maxRecDepth 100000 in
set_option maxHeartbeats 4000000 in
theorem kX9_differ (l : Launch) (G : gG) {ex : gEx} (hZ : ∀ s : State, G.2.2.2 s → kC ex (gA G zC.1) s) (hG : gOK G zC.1) (hT : G.2.2.1.map (fun q => q.2) = zC.2.1) (σ : gS) (p1 : Int32) (p2 : Int32) (out : Int32 × gS) (hF : fX9_differ σ p1 p2 = some out) : gCi l yX9_differ wsX9_differ rmX9_differ G zC [.ref (G.2.1 0), .int p1, .int p2] σ out.1 out.2 :=
  gEnter (by decide) rfl ⟨rfl, rfl⟩ hG hT (Nat.le_of_ble_eq_true rfl) rfl (fun M X hl => wX9_differ X hZ σ p1 p2 hF)
noncomputable def fX9_canMeasure (σ : gS) (p1 : Int32) (p2 : Int32) (p3 : Int32) : Option (Int32) :=
  bd (fX8_exists_2 σ 3 p1) fun r2 => (if r2 = 0 then some 0 else if p2 < 0 then some 0 else if 9999 < p2 then some 0 else if p3 < 0 then some 0 else if 9999 < p3 then some 0 else some 1)
noncomputable abbrev rmX9_canMeasure : Room := { frames := 1, cells := 0, slots := 0, locals := 22 }
set_option maxRecDepth 100000 in
set_option maxHeartbeats 4000000 in
theorem wX9_canMeasure {M : gM} {G : gG} {out : Int32} (X : gX M G zC cX9_canMeasure RX9 4 wsX9_canMeasure rmX9_canMeasure (some .boolean)) {ex : gEx} (hZ : ∀ s : State, G.2.2.2 s → kC ex (gA G zC.1) s) (σ : gS) (p1 : Int32) (p2 : Int32) (p3 : Int32) (hF : fX9_canMeasure σ p1 p2 p3 = some out) : WW M (gQi M G zC out σ) G zC 4 σ 0 [(0, .ref (G.2.1 0)), (1, .int p1), (2, .int p2), (3, .int p3)] [] := by
  unfold fX9_canMeasure at hF
  refine ww_aload_n (pc := 0) X (j := 0) dX9_canMeasure_0 rfl rfl ?_
  refine ww_get (pc := 1) X (ref := "PictureBlock") (T := TX9) (j := 2) dX9_canMeasure_1 inX9_canMeasure_RX9 shzC_0 clzC_9 (by decide) rfl (List.mem_of_getElem? (i := 1) rfl) rfl ?_
  refine ww_iconst (pc := 4) X (v := 3) dX9_canMeasure_4 (by decide) ?_
  refine ww_iload_n (pc := 5) X (j := 1) dX9_canMeasure_5 rfl rfl ?_
  obtain ⟨r2, h1, hF⟩ := bd_some hF
  refine ww_callVi (pc := 6) X (As := [.int 3, .int p1]) (rest := []) dX9_canMeasure_6 (kX8_exists_2 (mL M) G hZ X.2.2.2.2.2.2.1 X.2.2.2.2.2.2.2.1 σ 3 p1 r2 h1) rfl shzC_2 clzC_8 gX9_canMeasure_X8_exists hyX8_exists ⟨rfl, rfl⟩ ⟨Nat.le_of_ble_eq_true rfl, Nat.le_of_ble_eq_true rfl⟩ rfl rfl (Nat.le_of_ble_eq_true rfl) ?_
  refine ww_if_eq (pc := 9) (tgt := 38) X dX9_canMeasure_9 (by decide) hF (fun h3 hF => ?_) (fun h3 hF => ?_)
  · refine ww_iconst (pc := 38) X (v := 0) dX9_canMeasure_38 (by decide) ?_
    exact ww_zret (pc := 39) X dX9_canMeasure_39 (by cases hF; rfl) rfl
  · refine ww_iload_n (pc := 12) X (j := 2) dX9_canMeasure_12 rfl rfl ?_
    refine ww_if_lt (pc := 13) (tgt := 38) X dX9_canMeasure_13 (by decide) hF (fun h4 hF => ?_) (fun h4 hF => ?_)
    · refine ww_iconst (pc := 38) X (v := 0) dX9_canMeasure_38 (by decide) ?_
      exact ww_zret (pc := 39) X dX9_canMeasure_39 (by cases hF; rfl) rfl
    · refine ww_iload_n (pc := 16) X (j := 2) dX9_canMeasure_16 rfl rfl ?_
      refine ww_sipush (pc := 17) X (v := 9999) dX9_canMeasure_17 (by decide) ?_
      refine ww_icmp_gt (pc := 20) (tgt := 38) X dX9_canMeasure_20 (by decide) hF (fun h5 hF => ?_) (fun h5 hF => ?_)
      · refine ww_iconst (pc := 38) X (v := 0) dX9_canMeasure_38 (by decide) ?_
        exact ww_zret (pc := 39) X dX9_canMeasure_39 (by cases hF; rfl) rfl
      · refine ww_iload_n (pc := 23) X (j := 3) dX9_canMeasure_23 rfl rfl ?_
        refine ww_if_lt (pc := 24) (tgt := 38) X dX9_canMeasure_24 (by decide) hF (fun h6 hF => ?_) (fun h6 hF => ?_)
        · refine ww_iconst (pc := 38) X (v := 0) dX9_canMeasure_38 (by decide) ?_
          exact ww_zret (pc := 39) X dX9_canMeasure_39 (by cases hF; rfl) rfl
        · refine ww_iload_n (pc := 27) X (j := 3) dX9_canMeasure_27 rfl rfl ?_
          refine ww_sipush (pc := 28) X (v := 9999) dX9_canMeasure_28 (by decide) ?_
          refine ww_icmp_gt (pc := 31) (tgt := 38) X dX9_canMeasure_31 (by decide) hF (fun h7 hF => ?_) (fun h7 hF => ?_)
          · refine ww_iconst (pc := 38) X (v := 0) dX9_canMeasure_38 (by decide) ?_
            exact ww_zret (pc := 39) X dX9_canMeasure_39 (by cases hF; rfl) rfl
          · refine ww_iconst (pc := 34) X (v := 1) dX9_canMeasure_34 (by decide) ?_
            refine ww_goto (pc := 35) X (tgt := 39) dX9_canMeasure_35 (by decide) ?_
            exact ww_zret (pc := 39) X dX9_canMeasure_39 (by cases hF; rfl) rfl
set_option maxRecDepth 100000 in
set_option maxHeartbeats 4000000 in
theorem kX9_canMeasure (l : Launch) (G : gG) {ex : gEx} (hZ : ∀ s : State, G.2.2.2 s → kC ex (gA G zC.1) s) (hG : gOK G zC.1) (hT : G.2.2.1.map (fun q => q.2) = zC.2.1) (σ : gS) (p1 : Int32) (p2 : Int32) (p3 : Int32) (out : Int32) (hF : fX9_canMeasure σ p1 p2 p3 = some out) : gCi l yX9_canMeasure wsX9_canMeasure rmX9_canMeasure G zC [.ref (G.2.1 0), .int p1, .int p2, .int p3] σ out σ :=
  gEnter (by decide) rfl ⟨rfl, rfl⟩ hG hT (Nat.le_of_ble_eq_true rfl) rfl (fun M X hl => wX9_canMeasure X hZ σ p1 p2 p3 hF)
noncomputable def bX5_takeFrom_71_47_32 (σ : gS) (rec32 : Int32 → gS → Option (gS)) (a2 : Int32) (σ1 : gS) : Option (gS) :=
  if 2 ≤ a2 then some σ1 else gd (gb a2 2) <| gd (gb a2 2) <| bd (fX9_copyAll σ1 (50 + a2.toNatClampNeg) (74 + a2.toNatClampNeg)) fun σ11 => gd (gb a2 2) <| gd (gb a2 2) <| bd (fX9_copyAll σ11 (53 + a2.toNatClampNeg) (77 + a2.toNatClampNeg)) fun σ15 => gd (gb a2 2) <| gd (gb a2 2) <| bd (fX9_copyAll σ15 (56 + a2.toNatClampNeg) (80 + a2.toNatClampNeg)) fun σ19 => nm (a2 + 1 : Int32) fun x20 => rec32 x20 σ19
noncomputable def fX5_takeFrom_71_47 (σ : gS) : Option (gS) :=
  nm (gsI σ 71 1 (σ.1 47 1)) fun σ1 => bd (fX9_copyAll σ1 48 72) fun σ3 => bd (fX9_copyAll σ3 58 82) fun σ5 => nm (0 : Int32) fun x6 => lpc (S := Int32 × gS) K9 (fun rec s => bX5_takeFrom_71_47_32 σ5 (fun a2 σ1 => rec (a2, σ1)) s.1 s.2) (x6, σ5)
set_option maxRecDepth 100000 in
set_option maxHeartbeats 4000000 in
theorem wbX5_takeFrom_71_47_32 {M : gM} {G : gG} {out : gS} (X : gX M G zC cX5_takeFrom RX5 3 wsX5_takeFrom rmX5_takeFrom none) {ex : gEx} (hZ : ∀ s : State, G.2.2.2 s → kC ex (gA G zC.1) s) (σ : gS) (rec32 : Int32 → gS → Option (gS)) (ih32 : ∀ (a2 : Int32) (σ1 : gS), rec32 a2 σ1 = some out → WW M (gQv M G zC out) G zC 3 σ1 32 [(0, .ref (G.2.1 71)), (1, .ref (G.2.1 47)), (2, .int a2)] []) (a2 : Int32) (σ1 : gS) (hF : bX5_takeFrom_71_47_32 σ rec32 a2 σ1 = some out) : WW M (gQv M G zC out) G zC 3 σ1 32 [(0, .ref (G.2.1 71)), (1, .ref (G.2.1 47)), (2, .int a2)] [] := by
  unfold bX5_takeFrom_71_47_32 at hF
  refine ww_iload_n (pc := 32) X (j := 2) dX5_takeFrom_32 rfl rfl ?_
  refine ww_iconst (pc := 33) X (v := 2) dX5_takeFrom_33 (by decide) ?_
  refine ww_icmp_ge (pc := 34) (tgt := 88) X dX5_takeFrom_34 (by decide) hF (fun h7 hF => ?_) (fun h7 hF => ?_)
  · exact ww_vret (pc := 88) X dX5_takeFrom_88 (by cases hF; rfl)
  · refine ww_aload_n (pc := 37) X (j := 1) dX5_takeFrom_37 rfl rfl ?_
    refine ww_get (pc := 38) X (ref := "PictureBlock$Stand") (T := TX5) (j := 3) dX5_takeFrom_38 inX5_takeFrom_RX5 shzC_47 clzC_5 (by decide) rfl (List.mem_of_getElem? (i := 4) rfl) rfl ?_
    refine ww_iload_n (pc := 41) X (j := 2) dX5_takeFrom_41 rfl rfl ?_
    refine ww_aald (pc := 42) X dX5_takeFrom_42 shzC_49 rfl hF (fun h8 hF => ?_)
    refine ww_aload_n (pc := 43) X (j := 0) dX5_takeFrom_43 rfl rfl ?_
    refine ww_get (pc := 44) X (ref := "PictureBlock$Stand") (T := TX5) (j := 3) dX5_takeFrom_44 inX5_takeFrom_RX5 shzC_71 clzC_5 (by decide) rfl (List.mem_of_getElem? (i := 4) rfl) rfl ?_
    refine ww_iload_n (pc := 47) X (j := 2) dX5_takeFrom_47 rfl rfl ?_
    refine ww_aald (pc := 48) X dX5_takeFrom_48 shzC_73 rfl hF (fun h9 hF => ?_)
    obtain ⟨σ11, h10, hF⟩ := bd_some hF
    refine ww_callNv (pc := 49) X (As := [.ref (G.2.1 (50 + a2.toNatClampNeg)), .ref (G.2.1 (74 + a2.toNatClampNeg))]) (rest := []) dX5_takeFrom_49 (kX9_copyAll (mL M) G hZ X.2.2.2.2.2.2.1 X.2.2.2.2.2.2.2.1 σ1 (50 + a2.toNatClampNeg) (74 + a2.toNatClampNeg) σ11 h10) rfl (fun s h => eC_nmX5_takeFrom_37 (hZ s h)) gX5_takeFrom_X9_copyAll_n37 (List.mem_of_getElem? (i := 7) rfl) (List.mem_of_getElem? (i := 8) rfl) hyX9_copyAll ⟨rfl, rfl⟩ ⟨Nat.le_of_ble_eq_true rfl, Nat.le_of_ble_eq_true rfl⟩ rfl rfl (Nat.le_of_ble_eq_true rfl) ?_
    refine ww_aload_n (pc := 52) X (j := 1) dX5_takeFrom_52 rfl rfl ?_
    refine ww_get (pc := 53) X (ref := "PictureBlock$Stand") (T := TX5) (j := 4) dX5_takeFrom_53 inX5_takeFrom_RX5 shzC_47 clzC_5 (by decide) rfl (List.mem_of_getElem? (i := 5) rfl) rfl ?_
    refine ww_iload_n (pc := 56) X (j := 2) dX5_takeFrom_56 rfl rfl ?_
    refine ww_aald (pc := 57) X dX5_takeFrom_57 shzC_52 rfl hF (fun h12 hF => ?_)
    refine ww_aload_n (pc := 58) X (j := 0) dX5_takeFrom_58 rfl rfl ?_
    refine ww_get (pc := 59) X (ref := "PictureBlock$Stand") (T := TX5) (j := 4) dX5_takeFrom_59 inX5_takeFrom_RX5 shzC_71 clzC_5 (by decide) rfl (List.mem_of_getElem? (i := 5) rfl) rfl ?_
    refine ww_iload_n (pc := 62) X (j := 2) dX5_takeFrom_62 rfl rfl ?_
    refine ww_aald (pc := 63) X dX5_takeFrom_63 shzC_76 rfl hF (fun h13 hF => ?_)
    obtain ⟨σ15, h14, hF⟩ := bd_some hF
    refine ww_callNv (pc := 64) X (As := [.ref (G.2.1 (53 + a2.toNatClampNeg)), .ref (G.2.1 (77 + a2.toNatClampNeg))]) (rest := []) dX5_takeFrom_64 (kX9_copyAll (mL M) G hZ X.2.2.2.2.2.2.1 X.2.2.2.2.2.2.2.1 σ11 (53 + a2.toNatClampNeg) (77 + a2.toNatClampNeg) σ15 h14) rfl (fun s h => eC_nmX5_takeFrom_37 (hZ s h)) gX5_takeFrom_X9_copyAll_n37 (List.mem_of_getElem? (i := 7) rfl) (List.mem_of_getElem? (i := 8) rfl) hyX9_copyAll ⟨rfl, rfl⟩ ⟨Nat.le_of_ble_eq_true rfl, Nat.le_of_ble_eq_true rfl⟩ rfl rfl (Nat.le_of_ble_eq_true rfl) ?_
    refine ww_aload_n (pc := 67) X (j := 1) dX5_takeFrom_67 rfl rfl ?_
    refine ww_get (pc := 68) X (ref := "PictureBlock$Stand") (T := TX5) (j := 5) dX5_takeFrom_68 inX5_takeFrom_RX5 shzC_47 clzC_5 (by decide) rfl (List.mem_of_getElem? (i := 6) rfl) rfl ?_
    refine ww_iload_n (pc := 71) X (j := 2) dX5_takeFrom_71 rfl rfl ?_
    refine ww_aald (pc := 72) X dX5_takeFrom_72 shzC_55 rfl hF (fun h16 hF => ?_)
    refine ww_aload_n (pc := 73) X (j := 0) dX5_takeFrom_73 rfl rfl ?_
    refine ww_get (pc := 74) X (ref := "PictureBlock$Stand") (T := TX5) (j := 5) dX5_takeFrom_74 inX5_takeFrom_RX5 shzC_71 clzC_5 (by decide) rfl (List.mem_of_getElem? (i := 6) rfl) rfl ?_
    refine ww_iload_n (pc := 77) X (j := 2) dX5_takeFrom_77 rfl rfl ?_
    refine ww_aald (pc := 78) X dX5_takeFrom_78 shzC_79 rfl hF (fun h17 hF => ?_)
    obtain ⟨σ19, h18, hF⟩ := bd_some hF
    refine ww_callNv (pc := 79) X (As := [.ref (G.2.1 (56 + a2.toNatClampNeg)), .ref (G.2.1 (80 + a2.toNatClampNeg))]) (rest := []) dX5_takeFrom_79 (kX9_copyAll (mL M) G hZ X.2.2.2.2.2.2.1 X.2.2.2.2.2.2.2.1 σ15 (56 + a2.toNatClampNeg) (80 + a2.toNatClampNeg) σ19 h18) rfl (fun s h => eC_nmX5_takeFrom_37 (hZ s h)) gX5_takeFrom_X9_copyAll_n37 (List.mem_of_getElem? (i := 7) rfl) (List.mem_of_getElem? (i := 8) rfl) hyX9_copyAll ⟨rfl, rfl⟩ ⟨Nat.le_of_ble_eq_true rfl, Nat.le_of_ble_eq_true rfl⟩ rfl rfl (Nat.le_of_ble_eq_true rfl) ?_
    refine ww_iinc (pc := 82) X (j := 2) (v := 1) (lv' := [(0, .ref (G.2.1 71)), (1, .ref (G.2.1 47))]) dX5_takeFrom_82 rfl rfl (by decide) rfl hF (fun x20 ex20 hF => ?_)
    refine ww_goto (pc := 85) X (tgt := 32) dX5_takeFrom_85 (by decide) ?_
    exact ww_sub [1, 2, 0] rfl (ih32 x20 σ19 hF)
set_option maxRecDepth 100000 in
set_option maxHeartbeats 4000000 in
theorem wX5_takeFrom_71_47 {M : gM} {G : gG} {out : gS} (X : gX M G zC cX5_takeFrom RX5 3 wsX5_takeFrom rmX5_takeFrom none) {ex : gEx} (hZ : ∀ s : State, G.2.2.2 s → kC ex (gA G zC.1) s) (σ : gS) (hF : fX5_takeFrom_71_47 σ = some out) : WW M (gQv M G zC out) G zC 3 σ 0 [(0, .ref (G.2.1 71)), (1, .ref (G.2.1 47))] [] := by
  unfold fX5_takeFrom_71_47 at hF
  refine ww_aload_n (pc := 0) X (j := 0) dX5_takeFrom_0 rfl rfl ?_
  refine ww_aload_n (pc := 1) X (j := 1) dX5_takeFrom_1 rfl rfl ?_
  refine ww_get (pc := 2) X (ref := "PictureBlock$Stand") (T := TX5) (j := 1) dX5_takeFrom_2 inX5_takeFrom_RX5 shzC_47 clzC_5 (by decide) rfl (List.mem_of_getElem? (i := 1) rfl) rfl ?_
  refine ww_putI (pc := 5) X (ref := "PictureBlock$Stand") (T := TX5) (j := 1) dX5_takeFrom_5 inX5_takeFrom_RX5 tyX5 tyX5_ok nmX5 shzC_71 clzC_5 (by decide) rfl (List.mem_of_getElem? (i := 1) rfl) rfl rfl (by decide +kernel) hF (fun σ1 eσ1 hF => ?_)
  refine ww_aload_n (pc := 8) X (j := 1) dX5_takeFrom_8 rfl rfl ?_
  refine ww_get (pc := 9) X (ref := "PictureBlock$Stand") (T := TX5) (j := 2) dX5_takeFrom_9 inX5_takeFrom_RX5 shzC_47 clzC_5 (by decide) rfl (List.mem_of_getElem? (i := 2) rfl) rfl ?_
  refine ww_aload_n (pc := 12) X (j := 0) dX5_takeFrom_12 rfl rfl ?_
  refine ww_get (pc := 13) X (ref := "PictureBlock$Stand") (T := TX5) (j := 2) dX5_takeFrom_13 inX5_takeFrom_RX5 shzC_71 clzC_5 (by decide) rfl (List.mem_of_getElem? (i := 2) rfl) rfl ?_
  obtain ⟨σ3, h2, hF⟩ := bd_some hF
  refine ww_callNv (pc := 16) X (As := [.ref (G.2.1 48), .ref (G.2.1 72)]) (rest := []) dX5_takeFrom_16 (kX9_copyAll (mL M) G hZ X.2.2.2.2.2.2.1 X.2.2.2.2.2.2.2.1 σ1 48 72 σ3 h2) rfl (fun s h => eC_nmX5_takeFrom_37 (hZ s h)) gX5_takeFrom_X9_copyAll_n37 (List.mem_of_getElem? (i := 7) rfl) (List.mem_of_getElem? (i := 8) rfl) hyX9_copyAll ⟨rfl, rfl⟩ ⟨Nat.le_of_ble_eq_true rfl, Nat.le_of_ble_eq_true rfl⟩ rfl rfl (Nat.le_of_ble_eq_true rfl) ?_
  refine ww_aload_n (pc := 19) X (j := 1) dX5_takeFrom_19 rfl rfl ?_
  refine ww_get (pc := 20) X (ref := "PictureBlock$Stand") (T := TX5) (j := 6) dX5_takeFrom_20 inX5_takeFrom_RX5 shzC_47 clzC_5 (by decide) rfl (List.mem_of_getElem? (i := 3) rfl) rfl ?_
  refine ww_aload_n (pc := 23) X (j := 0) dX5_takeFrom_23 rfl rfl ?_
  refine ww_get (pc := 24) X (ref := "PictureBlock$Stand") (T := TX5) (j := 6) dX5_takeFrom_24 inX5_takeFrom_RX5 shzC_71 clzC_5 (by decide) rfl (List.mem_of_getElem? (i := 3) rfl) rfl ?_
  obtain ⟨σ5, h4, hF⟩ := bd_some hF
  refine ww_callNv (pc := 27) X (As := [.ref (G.2.1 58), .ref (G.2.1 82)]) (rest := []) dX5_takeFrom_27 (kX9_copyAll (mL M) G hZ X.2.2.2.2.2.2.1 X.2.2.2.2.2.2.2.1 σ3 58 82 σ5 h4) rfl (fun s h => eC_nmX5_takeFrom_37 (hZ s h)) gX5_takeFrom_X9_copyAll_n37 (List.mem_of_getElem? (i := 7) rfl) (List.mem_of_getElem? (i := 8) rfl) hyX9_copyAll ⟨rfl, rfl⟩ ⟨Nat.le_of_ble_eq_true rfl, Nat.le_of_ble_eq_true rfl⟩ rfl rfl (Nat.le_of_ble_eq_true rfl) ?_
  refine ww_iconst (pc := 30) X (v := 0) dX5_takeFrom_30 (by decide) ?_
  refine ww_istore_n (pc := 31) X (lv' := [(0, .ref (G.2.1 71)), (1, .ref (G.2.1 47))]) dX5_takeFrom_31 rfl (by decide) rfl hF (fun x6 ex6 hF => ?_)
  exact ww_sub [1, 2, 0] rfl (lpc_ind (P := (fun (s : Int32 × gS) => WW M (gQv M G zC out) G zC 3 s.2 32 [(0, .ref (G.2.1 71)), (1, .ref (G.2.1 47)), (2, .int s.1)] [])) (fun rec s ih hF => wbX5_takeFrom_71_47_32 X hZ σ5 (fun a2 σ1 => rec (a2, σ1)) (fun a2 σ1 h => ih (a2, σ1) h) s.1 s.2 hF) K9 (x6, σ5) hF)
set_option maxRecDepth 100000 in
set_option maxHeartbeats 4000000 in
theorem kX5_takeFrom_71_47 (l : Launch) (G : gG) {ex : gEx} (hZ : ∀ s : State, G.2.2.2 s → kC ex (gA G zC.1) s) (hG : gOK G zC.1) (hT : G.2.2.1.map (fun q => q.2) = zC.2.1) (σ : gS) (out : gS) (hF : fX5_takeFrom_71_47 σ = some out) : gCv l yX5_takeFrom wsX5_takeFrom rmX5_takeFrom G zC [.ref (G.2.1 71), .ref (G.2.1 47)] σ out :=
  gEnter (by decide) rfl ⟨rfl, rfl⟩ hG hT (Nat.le_of_ble_eq_true rfl) rfl (fun M X hl => wX5_takeFrom_71_47 X hZ σ hF)
noncomputable def fX8_setMeasured_2 (σ : gS) (p1 : Int32) (p2 : Int32) (p3 : Int32) : Option (gS) :=
  gd (gb 0 2) <| gd (gb p1 60) <| nm (gsI σ 13 p1.toNatClampNeg p2) fun σ2 => gd (gb 1 2) <| gd (gb p1 60) <| nm (gsI σ2 14 p1.toNatClampNeg p3) fun σ4 => some σ4
set_option maxRecDepth 100000 in
set_option maxHeartbeats 4000000 in
theorem wX8_setMeasured_2 {M : gM} {G : gG} {out : gS} (X : gX M G zC cX8_setMeasured RX8 4 wsX8_setMeasured rmX8_setMeasured none) {ex : gEx} (hZ : ∀ s : State, G.2.2.2 s → kC ex (gA G zC.1) s) (σ : gS) (p1 : Int32) (p2 : Int32) (p3 : Int32) (hF : fX8_setMeasured_2 σ p1 p2 p3 = some out) : WW M (gQv M G zC out) G zC 4 σ 0 [(0, .ref (G.2.1 2)), (1, .int p1), (2, .int p2), (3, .int p3)] [] := by
  unfold fX8_setMeasured_2 at hF
  refine ww_aload_n (pc := 0) X (j := 0) dX8_setMeasured_0 rfl rfl ?_
  refine ww_get (pc := 1) X (ref := "PictureBlock$Told") (T := TX8) (j := 6) dX8_setMeasured_1 inX8_setMeasured_RX8 shzC_2 clzC_8 (by decide) rfl (List.mem_of_getElem? (i := 1) rfl) rfl ?_
  refine ww_iconst (pc := 4) X (v := 0) dX8_setMeasured_4 (by decide) ?_
  refine ww_aald (pc := 5) X dX8_setMeasured_5 shzC_12 rfl hF (fun h1 hF => ?_)
  show WW M _ G zC _ _ _ _ (.ref (G.2.1 13) :: _)
  refine ww_iload_n (pc := 6) X (j := 1) dX8_setMeasured_6 rfl rfl ?_
  refine ww_iload_n (pc := 7) X (j := 2) dX8_setMeasured_7 rfl rfl ?_
  refine ww_iast (pc := 8) X dX8_setMeasured_8 shzC_13 rfl hF (fun σ2 eσ2 bσ2 hF => ?_)
  refine ww_aload_n (pc := 9) X (j := 0) dX8_setMeasured_9 rfl rfl ?_
  refine ww_get (pc := 10) X (ref := "PictureBlock$Told") (T := TX8) (j := 6) dX8_setMeasured_10 inX8_setMeasured_RX8 shzC_2 clzC_8 (by decide) rfl (List.mem_of_getElem? (i := 1) rfl) rfl ?_
  refine ww_iconst (pc := 13) X (v := 1) dX8_setMeasured_13 (by decide) ?_
  refine ww_aald (pc := 14) X dX8_setMeasured_14 shzC_12 rfl hF (fun h3 hF => ?_)
  show WW M _ G zC _ _ _ _ (.ref (G.2.1 14) :: _)
  refine ww_iload_n (pc := 15) X (j := 1) dX8_setMeasured_15 rfl rfl ?_
  refine ww_iload_n (pc := 16) X (j := 3) dX8_setMeasured_16 rfl rfl ?_
  refine ww_iast (pc := 17) X dX8_setMeasured_17 shzC_14 rfl hF (fun σ4 eσ4 bσ4 hF => ?_)
  exact ww_vret (pc := 18) X dX8_setMeasured_18 (by cases hF; rfl)
set_option maxRecDepth 100000 in
set_option maxHeartbeats 4000000 in
theorem kX8_setMeasured_2 (l : Launch) (G : gG) {ex : gEx} (hZ : ∀ s : State, G.2.2.2 s → kC ex (gA G zC.1) s) (hG : gOK G zC.1) (hT : G.2.2.1.map (fun q => q.2) = zC.2.1) (σ : gS) (p1 : Int32) (p2 : Int32) (p3 : Int32) (out : gS) (hF : fX8_setMeasured_2 σ p1 p2 p3 = some out) : gCv l yX8_setMeasured wsX8_setMeasured rmX8_setMeasured G zC [.ref (G.2.1 2), .int p1, .int p2, .int p3] σ out :=
  gEnter (by decide) rfl ⟨rfl, rfl⟩ hG hT (Nat.le_of_ble_eq_true rfl) rfl (fun M X hl => wX8_setMeasured_2 X hZ σ p1 p2 p3 hF)
noncomputable def bX9_countMoved_4 (σ : gS) (c4_1 : Int32) (rec4 : Int32 → Int32 → Option (Int32)) (a2 : Int32) (a3 : Int32) : Option (Int32) :=
  gd (gb 1 6) <| nm (σ.1 3 ((1 : Int32).toNatClampNeg)) fun v3 => (if v3 ≤ a3 then some a2 else gd (gb 0 2) <| gd (gb a3 12) <| nm (σ.1 50 a3.toNatClampNeg) fun v6 => gd (gb 0 2) <| gd (gb a3 12) <| nm (σ.1 74 a3.toNatClampNeg) fun v8 => nm (if 0 ≤ (v6 - v8) then (v6 - v8) else 0 - (v6 - v8) : Int32) fun x9 => gd (gb 1 2) <| gd (gb a3 12) <| nm (σ.1 51 a3.toNatClampNeg) fun v11 => gd (gb 1 2) <| gd (gb a3 12) <| nm (σ.1 75 a3.toNatClampNeg) fun v13 => nm (if 0 ≤ (v11 - v13) then (v11 - v13) else 0 - (v11 - v13) : Int32) fun x14 => (if c4_1 < x9 then nm (a2 + 1 : Int32) fun x16 => nm (a3 + 1 : Int32) fun x17 => rec4 x16 x17 else if x14 ≤ c4_1 then nm (a3 + 1 : Int32) fun x19 => rec4 a2 x19 else nm (a2 + 1 : Int32) fun x20 => nm (a3 + 1 : Int32) fun x21 => rec4 x20 x21))
noncomputable def fX9_countMoved (σ : gS) (p1 : Int32) : Option (Int32) :=
  nm (0 : Int32) fun x1 => nm (0 : Int32) fun x2 => lpc (S := Int32 × Int32) K9 (fun rec s => bX9_countMoved_4 σ p1 (fun a2 a3 => rec (a2, a3)) s.1 s.2) (x1, x2)
noncomputable abbrev rmX9_countMoved : Room := { frames := 1, cells := 0, slots := 0, locals := 32 }
set_option maxRecDepth 100000 in
set_option maxHeartbeats 4000000 in
theorem wbX9_countMoved_4 {M : gM} {G : gG} {out : Int32} (X : gX M G zC cX9_countMoved RX9 6 wsX9_countMoved rmX9_countMoved (some .int)) {ex : gEx} (hZ : ∀ s : State, G.2.2.2 s → kC ex (gA G zC.1) s) (σ : gS) (c4_1 : Int32) (rec4 : Int32 → Int32 → Option (Int32)) (ih4 : ∀ (a2 : Int32) (a3 : Int32), rec4 a2 a3 = some out → WW M (gQi M G zC out σ) G zC 6 σ 4 [(0, .ref (G.2.1 0)), (1, .int c4_1), (2, .int a2), (3, .int a3)] []) (a2 : Int32) (a3 : Int32) (hF : bX9_countMoved_4 σ c4_1 rec4 a2 a3 = some out) : WW M (gQi M G zC out σ) G zC 6 σ 4 [(0, .ref (G.2.1 0)), (1, .int c4_1), (2, .int a2), (3, .int a3)] [] := by
  unfold bX9_countMoved_4 at hF
  refine ww_iload_n (pc := 4) X (j := 3) dX9_countMoved_4 rfl rfl ?_
  refine ww_aload_n (pc := 5) X (j := 0) dX9_countMoved_5 rfl rfl ?_
  refine ww_get (pc := 6) X (ref := "PictureBlock") (T := TX9) (j := 2) dX9_countMoved_6 inX9_countMoved_RX9 shzC_0 clzC_9 (by decide) rfl (List.mem_of_getElem? (i := 1) rfl) rfl ?_
  refine ww_get (pc := 9) X (ref := "PictureBlock$Told") (T := TX8) (j := 0) dX9_countMoved_9 inX9_countMoved_RX8 shzC_2 clzC_8 (by decide) rfl (List.mem_of_getElem? (i := 2) rfl) rfl ?_
  refine ww_iconst (pc := 12) X (v := 1) dX9_countMoved_12 (by decide) ?_
  refine ww_iald (pc := 13) X dX9_countMoved_13 shzC_3 rfl hF (fun v3 ev3 bv3 hF => ?_)
  refine ww_icmp_ge (pc := 14) (tgt := 94) X dX9_countMoved_14 (by decide) hF (fun h4 hF => ?_) (fun h4 hF => ?_)
  · refine ww_iload_n (pc := 94) X (j := 2) dX9_countMoved_94 rfl rfl ?_
    exact ww_iret (pc := 95) X dX9_countMoved_95 (Option.some.inj hF) rfl
  · refine ww_aload_n (pc := 17) X (j := 0) dX9_countMoved_17 rfl rfl ?_
    refine ww_get (pc := 18) X (ref := "PictureBlock") (T := TX9) (j := 5) dX9_countMoved_18 inX9_countMoved_RX9 shzC_0 clzC_9 (by decide) rfl (List.mem_of_getElem? (i := 3) rfl) rfl ?_
    refine ww_get (pc := 21) X (ref := "PictureBlock$Stand") (T := TX5) (j := 3) dX9_countMoved_21 inX9_countMoved_RX5 shzC_47 clzC_5 (by decide) rfl (List.mem_of_getElem? (i := 4) rfl) rfl ?_
    refine ww_iconst (pc := 24) X (v := 0) dX9_countMoved_24 (by decide) ?_
    refine ww_aald (pc := 25) X dX9_countMoved_25 shzC_49 rfl hF (fun h5 hF => ?_)
    show WW M _ G zC _ _ _ _ (.ref (G.2.1 50) :: _)
    refine ww_iload_n (pc := 26) X (j := 3) dX9_countMoved_26 rfl rfl ?_
    refine ww_iald (pc := 27) X dX9_countMoved_27 shzC_50 rfl hF (fun v6 ev6 bv6 hF => ?_)
    refine ww_aload_n (pc := 28) X (j := 0) dX9_countMoved_28 rfl rfl ?_
    refine ww_get (pc := 29) X (ref := "PictureBlock") (T := TX9) (j := 7) dX9_countMoved_29 inX9_countMoved_RX9 shzC_0 clzC_9 (by decide) rfl (List.mem_of_getElem? (i := 5) rfl) rfl ?_
    refine ww_get (pc := 32) X (ref := "PictureBlock$Stand") (T := TX5) (j := 3) dX9_countMoved_32 inX9_countMoved_RX5 shzC_71 clzC_5 (by decide) rfl (List.mem_of_getElem? (i := 4) rfl) rfl ?_
    refine ww_iconst (pc := 35) X (v := 0) dX9_countMoved_35 (by decide) ?_
    refine ww_aald (pc := 36) X dX9_countMoved_36 shzC_73 rfl hF (fun h7 hF => ?_)
    show WW M _ G zC _ _ _ _ (.ref (G.2.1 74) :: _)
    refine ww_iload_n (pc := 37) X (j := 3) dX9_countMoved_37 rfl rfl ?_
    refine ww_iald (pc := 38) X dX9_countMoved_38 shzC_74 rfl hF (fun v8 ev8 bv8 hF => ?_)
    refine ww_isub (pc := 39) X dX9_countMoved_39 ?_
    refine ww_mabs (pc := 40) X dX9_countMoved_40 (List.mem_of_getElem? (i := 6) rfl) (List.mem_of_getElem? (i := 7) rfl) (List.mem_of_getElem? (i := 8) rfl) (List.mem_of_getElem? (i := 9) rfl) ⟨Nat.le_of_ble_eq_true rfl, Nat.le_of_ble_eq_true rfl⟩ ?_
    refine ww_istore (pc := 43) X (lv' := [(0, .ref (G.2.1 0)), (1, .int c4_1), (2, .int a2), (3, .int a3)]) dX9_countMoved_43 (by decide) rfl hF (fun x9 ex9 hF => ?_)
    refine ww_aload_n (pc := 45) X (j := 1) dX9_countMoved_45 rfl rfl ?_
    refine ww_get (pc := 46) X (ref := "PictureBlock") (T := TX9) (j := 5) dX9_countMoved_46 inX9_countMoved_RX9 shzC_0 clzC_9 (by decide) rfl (List.mem_of_getElem? (i := 3) rfl) rfl ?_
    refine ww_get (pc := 49) X (ref := "PictureBlock$Stand") (T := TX5) (j := 3) dX9_countMoved_49 inX9_countMoved_RX5 shzC_47 clzC_5 (by decide) rfl (List.mem_of_getElem? (i := 4) rfl) rfl ?_
    refine ww_iconst (pc := 52) X (v := 1) dX9_countMoved_52 (by decide) ?_
    refine ww_aald (pc := 53) X dX9_countMoved_53 shzC_49 rfl hF (fun h10 hF => ?_)
    show WW M _ G zC _ _ _ _ (.ref (G.2.1 51) :: _)
    refine ww_iload_n (pc := 54) X (j := 4) dX9_countMoved_54 rfl rfl ?_
    refine ww_iald (pc := 55) X dX9_countMoved_55 shzC_51 rfl hF (fun v11 ev11 bv11 hF => ?_)
    refine ww_aload_n (pc := 56) X (j := 1) dX9_countMoved_56 rfl rfl ?_
    refine ww_get (pc := 57) X (ref := "PictureBlock") (T := TX9) (j := 7) dX9_countMoved_57 inX9_countMoved_RX9 shzC_0 clzC_9 (by decide) rfl (List.mem_of_getElem? (i := 5) rfl) rfl ?_
    refine ww_get (pc := 60) X (ref := "PictureBlock$Stand") (T := TX5) (j := 3) dX9_countMoved_60 inX9_countMoved_RX5 shzC_71 clzC_5 (by decide) rfl (List.mem_of_getElem? (i := 4) rfl) rfl ?_
    refine ww_iconst (pc := 63) X (v := 1) dX9_countMoved_63 (by decide) ?_
    refine ww_aald (pc := 64) X dX9_countMoved_64 shzC_73 rfl hF (fun h12 hF => ?_)
    show WW M _ G zC _ _ _ _ (.ref (G.2.1 75) :: _)
    refine ww_iload_n (pc := 65) X (j := 4) dX9_countMoved_65 rfl rfl ?_
    refine ww_iald (pc := 66) X dX9_countMoved_66 shzC_75 rfl hF (fun v13 ev13 bv13 hF => ?_)
    refine ww_isub (pc := 67) X dX9_countMoved_67 ?_
    refine ww_mabs (pc := 68) X dX9_countMoved_68 (List.mem_of_getElem? (i := 6) rfl) (List.mem_of_getElem? (i := 7) rfl) (List.mem_of_getElem? (i := 8) rfl) (List.mem_of_getElem? (i := 9) rfl) ⟨Nat.le_of_ble_eq_true rfl, Nat.le_of_ble_eq_true rfl⟩ ?_
    refine ww_istore (pc := 71) X (lv' := [(4, .int x9), (0, .ref (G.2.1 0)), (1, .int c4_1), (2, .int a2), (3, .int a3)]) dX9_countMoved_71 (by decide) rfl hF (fun x14 ex14 hF => ?_)
    refine ww_iload (pc := 73) X (j := 1) dX9_countMoved_73 rfl ?_
    refine ww_iload_n (pc := 75) X (j := 3) dX9_countMoved_75 rfl rfl ?_
    refine ww_icmp_gt (pc := 76) (tgt := 85) X dX9_countMoved_76 (by decide) hF (fun h15 hF => ?_) (fun h15 hF => ?_)
    · refine ww_iinc (pc := 85) X (j := 4) (v := 1) (lv' := [(5, .int x14), (4, .int x9), (0, .ref (G.2.1 0)), (1, .int c4_1), (3, .int a3)]) dX9_countMoved_85 rfl rfl (by decide) rfl hF (fun x16 ex16 hF => ?_)
      refine ww_iinc (pc := 88) X (j := 5) (v := 1) (lv' := [(2, .int x16), (5, .int x14), (4, .int x9), (0, .ref (G.2.1 0)), (1, .int c4_1)]) dX9_countMoved_88 rfl rfl (by decide) rfl hF (fun x17 ex17 hF => ?_)
      refine ww_goto (pc := 91) X (tgt := 4) dX9_countMoved_91 (by decide) ?_
      exact ww_sub [4, 5, 1, 0] rfl (ih4 x16 x17 hF)
    · refine ww_iload (pc := 79) X (j := 0) dX9_countMoved_79 rfl ?_
      refine ww_iload_n (pc := 81) X (j := 3) dX9_countMoved_81 rfl rfl ?_
      refine ww_icmp_le (pc := 82) (tgt := 88) X dX9_countMoved_82 (by decide) hF (fun h18 hF => ?_) (fun h18 hF => ?_)
      · refine ww_iinc (pc := 88) X (j := 5) (v := 1) (lv' := [(5, .int x14), (4, .int x9), (0, .ref (G.2.1 0)), (1, .int c4_1), (2, .int a2)]) dX9_countMoved_88 rfl rfl (by decide) rfl hF (fun x19 ex19 hF => ?_)
        refine ww_goto (pc := 91) X (tgt := 4) dX9_countMoved_91 (by decide) ?_
        exact ww_sub [3, 4, 5, 0] rfl (ih4 a2 x19 hF)
      · refine ww_iinc (pc := 85) X (j := 4) (v := 1) (lv' := [(5, .int x14), (4, .int x9), (0, .ref (G.2.1 0)), (1, .int c4_1), (3, .int a3)]) dX9_countMoved_85 rfl rfl (by decide) rfl hF (fun x20 ex20 hF => ?_)
        refine ww_iinc (pc := 88) X (j := 5) (v := 1) (lv' := [(2, .int x20), (5, .int x14), (4, .int x9), (0, .ref (G.2.1 0)), (1, .int c4_1)]) dX9_countMoved_88 rfl rfl (by decide) rfl hF (fun x21 ex21 hF => ?_)
        refine ww_goto (pc := 91) X (tgt := 4) dX9_countMoved_91 (by decide) ?_
        exact ww_sub [4, 5, 1, 0] rfl (ih4 x20 x21 hF)
set_option maxRecDepth 100000 in
set_option maxHeartbeats 4000000 in
theorem wX9_countMoved {M : gM} {G : gG} {out : Int32} (X : gX M G zC cX9_countMoved RX9 6 wsX9_countMoved rmX9_countMoved (some .int)) {ex : gEx} (hZ : ∀ s : State, G.2.2.2 s → kC ex (gA G zC.1) s) (σ : gS) (p1 : Int32) (hF : fX9_countMoved σ p1 = some out) : WW M (gQi M G zC out σ) G zC 6 σ 0 [(0, .ref (G.2.1 0)), (1, .int p1)] [] := by
  unfold fX9_countMoved at hF
  refine ww_iconst (pc := 0) X (v := 0) dX9_countMoved_0 (by decide) ?_
  refine ww_istore_n (pc := 1) X (lv' := [(0, .ref (G.2.1 0)), (1, .int p1)]) dX9_countMoved_1 rfl (by decide) rfl hF (fun x1 ex1 hF => ?_)
  refine ww_iconst (pc := 2) X (v := 0) dX9_countMoved_2 (by decide) ?_
  refine ww_istore_n (pc := 3) X (lv' := [(2, .int x1), (0, .ref (G.2.1 0)), (1, .int p1)]) dX9_countMoved_3 rfl (by decide) rfl hF (fun x2 ex2 hF => ?_)
  exact ww_sub [2, 3, 1, 0] rfl (lpc_ind (P := (fun (s : Int32 × Int32) => WW M (gQi M G zC out σ) G zC 6 σ 4 [(0, .ref (G.2.1 0)), (1, .int p1), (2, .int s.1), (3, .int s.2)] [])) (fun rec s ih hF => wbX9_countMoved_4 X hZ σ p1 (fun a2 a3 => rec (a2, a3)) (fun a2 a3 h => ih (a2, a3) h) s.1 s.2 hF) K9 (x1, x2) hF)
set_option maxRecDepth 100000 in
set_option maxHeartbeats 4000000 in
theorem kX9_countMoved (l : Launch) (G : gG) {ex : gEx} (hZ : ∀ s : State, G.2.2.2 s → kC ex (gA G zC.1) s) (hG : gOK G zC.1) (hT : G.2.2.1.map (fun q => q.2) = zC.2.1) (σ : gS) (p1 : Int32) (out : Int32) (hF : fX9_countMoved σ p1 = some out) : gCi l yX9_countMoved wsX9_countMoved rmX9_countMoved G zC [.ref (G.2.1 0), .int p1] σ out σ :=
  gEnter (by decide) rfl ⟨rfl, rfl⟩ hG hT (Nat.le_of_ble_eq_true rfl) rfl (fun M X hl => wX9_countMoved X hZ σ p1 hF)
noncomputable def fX9_alters (σ : gS) (p1 : Int32) (p2 : Int32) (p3 : Int32) (p4 : Int32) : Option (Int32 × gS) :=
  bd (fX9_canMeasure σ p1 p2 p3) fun r2 => (if r2 = 0 then some ((-1), σ) else if 0 ≤ p4 then gd (gb 0 2) <| gd (gb p1 60) <| nm (σ.1 13 p1.toNatClampNeg) fun v6 => nm (v6 : Int32) fun x7 => gd (gb 1 2) <| gd (gb p1 60) <| nm (σ.1 14 p1.toNatClampNeg) fun v9 => nm (v9 : Int32) fun x10 => bd (fX5_takeFrom_59_47 σ) fun σ12 => bd2 (fX1_settle σ12 200) fun r14 σ15 => bd (fX5_takeFrom_71_47 σ15) fun σ17 => bd (fX5_takeFrom_47_59 σ17) fun σ19 => bd (fX8_setMeasured_2 σ19 p1 p2 p3) fun σ21 => bd2 (fX1_settle σ21 200) fun r23 σ24 => bd (fX9_countMoved σ24 p4) fun r26 => nm (r26 : Int32) fun x27 => bd (fX8_setMeasured_2 σ24 p1 x7 x10) fun σ29 => bd (fX5_takeFrom_47_59 σ29) fun σ31 => some (x27, σ31) else some ((-1), σ))
noncomputable abbrev rmX9_alters : Room := { frames := 5, cells := 0, slots := 0, locals := 122 }
set_option maxRecDepth 100000 in
set_option maxHeartbeats 4000000 in
theorem wX9_alters {M : gM} {G : gG} {out : Int32 × gS} (X : gX M G zC cX9_alters RX9 8 wsX9_alters rmX9_alters (some .int)) {ex : gEx} (hZ : ∀ s : State, G.2.2.2 s → kC ex (gA G zC.1) s) (σ : gS) (p1 : Int32) (p2 : Int32) (p3 : Int32) (p4 : Int32) (hF : fX9_alters σ p1 p2 p3 p4 = some out) : WW M (gQi M G zC out.1 out.2) G zC 8 σ 0 [(0, .ref (G.2.1 0)), (1, .int p1), (2, .int p2), (3, .int p3), (4, .int p4)] [] := by
  unfold fX9_alters at hF
  refine ww_aload_n (pc := 0) X (j := 0) dX9_alters_0 rfl rfl ?_
  refine ww_iload_n (pc := 1) X (j := 1) dX9_alters_1 rfl rfl ?_
  refine ww_iload_n (pc := 2) X (j := 2) dX9_alters_2 rfl rfl ?_
  refine ww_iload_n (pc := 3) X (j := 3) dX9_alters_3 rfl rfl ?_
  obtain ⟨r2, h1, hF⟩ := bd_some hF
  refine ww_callVi (pc := 4) X (As := [.int p1, .int p2, .int p3]) (rest := []) dX9_alters_4 (kX9_canMeasure (mL M) G hZ X.2.2.2.2.2.2.1 X.2.2.2.2.2.2.2.1 σ p1 p2 p3 r2 h1) rfl shzC_0 clzC_9 gX9_alters_X9_canMeasure hyX9_canMeasure ⟨rfl, rfl⟩ ⟨Nat.le_of_ble_eq_true rfl, Nat.le_of_ble_eq_true rfl⟩ rfl rfl (Nat.le_of_ble_eq_true rfl) ?_
  refine ww_if_eq (pc := 7) (tgt := 15) X dX9_alters_7 (by decide) hF (fun h3 hF => ?_) (fun h3 hF => ?_)
  · refine ww_iconst (pc := 15) X (v := (-1)) dX9_alters_15 (by decide) ?_
    exact ww_iret (pc := 16) X dX9_alters_16 (fst_of hF) (snd_of hF)
  · refine ww_iload (pc := 10) X (j := 4) dX9_alters_10 rfl ?_
    refine ww_if_ge (pc := 12) (tgt := 17) X dX9_alters_12 (by decide) hF (fun h4 hF => ?_) (fun h4 hF => ?_)
    · refine ww_aload_n (pc := 17) X (j := 0) dX9_alters_17 rfl rfl ?_
      refine ww_get (pc := 18) X (ref := "PictureBlock") (T := TX9) (j := 2) dX9_alters_18 inX9_alters_RX9 shzC_0 clzC_9 (by decide) rfl (List.mem_of_getElem? (i := 1) rfl) rfl ?_
      refine ww_get (pc := 21) X (ref := "PictureBlock$Told") (T := TX8) (j := 6) dX9_alters_21 inX9_alters_RX8 shzC_2 clzC_8 (by decide) rfl (List.mem_of_getElem? (i := 2) rfl) rfl ?_
      refine ww_iconst (pc := 24) X (v := 0) dX9_alters_24 (by decide) ?_
      refine ww_aald (pc := 25) X dX9_alters_25 shzC_12 rfl hF (fun h5 hF => ?_)
      show WW M _ G zC _ _ _ _ (.ref (G.2.1 13) :: _)
      refine ww_iload_n (pc := 26) X (j := 1) dX9_alters_26 rfl rfl ?_
      refine ww_iald (pc := 27) X dX9_alters_27 shzC_13 rfl hF (fun v6 ev6 bv6 hF => ?_)
      refine ww_istore (pc := 28) X (lv' := [(0, .ref (G.2.1 0)), (1, .int p1), (2, .int p2), (3, .int p3), (4, .int p4)]) dX9_alters_28 (by decide) rfl hF (fun x7 ex7 hF => ?_)
      refine ww_aload_n (pc := 30) X (j := 1) dX9_alters_30 rfl rfl ?_
      refine ww_get (pc := 31) X (ref := "PictureBlock") (T := TX9) (j := 2) dX9_alters_31 inX9_alters_RX9 shzC_0 clzC_9 (by decide) rfl (List.mem_of_getElem? (i := 1) rfl) rfl ?_
      refine ww_get (pc := 34) X (ref := "PictureBlock$Told") (T := TX8) (j := 6) dX9_alters_34 inX9_alters_RX8 shzC_2 clzC_8 (by decide) rfl (List.mem_of_getElem? (i := 2) rfl) rfl ?_
      refine ww_iconst (pc := 37) X (v := 1) dX9_alters_37 (by decide) ?_
      refine ww_aald (pc := 38) X dX9_alters_38 shzC_12 rfl hF (fun h8 hF => ?_)
      show WW M _ G zC _ _ _ _ (.ref (G.2.1 14) :: _)
      refine ww_iload_n (pc := 39) X (j := 2) dX9_alters_39 rfl rfl ?_
      refine ww_iald (pc := 40) X dX9_alters_40 shzC_14 rfl hF (fun v9 ev9 bv9 hF => ?_)
      refine ww_istore (pc := 41) X (lv' := [(5, .int x7), (0, .ref (G.2.1 0)), (1, .int p1), (2, .int p2), (3, .int p3), (4, .int p4)]) dX9_alters_41 (by decide) rfl hF (fun x10 ex10 hF => ?_)
      refine ww_aload_n (pc := 43) X (j := 2) dX9_alters_43 rfl rfl ?_
      refine ww_get (pc := 44) X (ref := "PictureBlock") (T := TX9) (j := 6) dX9_alters_44 inX9_alters_RX9 shzC_0 clzC_9 (by decide) rfl (List.mem_of_getElem? (i := 3) rfl) rfl ?_
      refine ww_aload_n (pc := 47) X (j := 2) dX9_alters_47 rfl rfl ?_
      refine ww_get (pc := 48) X (ref := "PictureBlock") (T := TX9) (j := 5) dX9_alters_48 inX9_alters_RX9 shzC_0 clzC_9 (by decide) rfl (List.mem_of_getElem? (i := 4) rfl) rfl ?_
      obtain ⟨σ12, h11, hF⟩ := bd_some hF
      refine ww_callVv (pc := 51) X (As := [.ref (G.2.1 47)]) (rest := []) dX9_alters_51 (kX5_takeFrom_59_47 (mL M) G hZ X.2.2.2.2.2.2.1 X.2.2.2.2.2.2.2.1 σ σ12 h11) rfl shzC_59 clzC_5 gX9_alters_X5_takeFrom hyX5_takeFrom ⟨rfl, rfl⟩ ⟨Nat.le_of_ble_eq_true rfl, Nat.le_of_ble_eq_true rfl⟩ rfl rfl (Nat.le_of_ble_eq_true rfl) ?_
      refine ww_aload_n (pc := 54) X (j := 2) dX9_alters_54 rfl rfl ?_
      refine ww_get (pc := 55) X (ref := "PictureBlock") (T := TX9) (j := 9) dX9_alters_55 inX9_alters_RX9 shzC_0 clzC_9 (by decide) rfl (List.mem_of_getElem? (i := 5) rfl) rfl ?_
      refine ww_sipush (pc := 58) X (v := 200) dX9_alters_58 (by decide) ?_
      obtain ⟨r14, σ15, h13, hF⟩ := bd2_some hF
      refine ww_callVi (pc := 61) X (As := [.int 200]) (rest := []) dX9_alters_61 (kX1_settle (mL M) G hZ X.2.2.2.2.2.2.1 X.2.2.2.2.2.2.2.1 σ12 200 (r14, σ15) h13) rfl shzC_90 clzC_1 gX9_alters_X1_settle hyX1_settle ⟨rfl, rfl⟩ ⟨Nat.le_of_ble_eq_true rfl, Nat.le_of_ble_eq_true rfl⟩ rfl rfl (Nat.le_of_ble_eq_true rfl) ?_
      refine ww_pop (pc := 64) X dX9_alters_64 rfl ?_
      refine ww_aload_n (pc := 65) X (j := 2) dX9_alters_65 rfl rfl ?_
      refine ww_get (pc := 66) X (ref := "PictureBlock") (T := TX9) (j := 7) dX9_alters_66 inX9_alters_RX9 shzC_0 clzC_9 (by decide) rfl (List.mem_of_getElem? (i := 6) rfl) rfl ?_
      refine ww_aload_n (pc := 69) X (j := 2) dX9_alters_69 rfl rfl ?_
      refine ww_get (pc := 70) X (ref := "PictureBlock") (T := TX9) (j := 5) dX9_alters_70 inX9_alters_RX9 shzC_0 clzC_9 (by decide) rfl (List.mem_of_getElem? (i := 4) rfl) rfl ?_
      obtain ⟨σ17, h16, hF⟩ := bd_some hF
      refine ww_callVv (pc := 73) X (As := [.ref (G.2.1 47)]) (rest := []) dX9_alters_73 (kX5_takeFrom_71_47 (mL M) G hZ X.2.2.2.2.2.2.1 X.2.2.2.2.2.2.2.1 σ15 σ17 h16) rfl shzC_71 clzC_5 gX9_alters_X5_takeFrom hyX5_takeFrom ⟨rfl, rfl⟩ ⟨Nat.le_of_ble_eq_true rfl, Nat.le_of_ble_eq_true rfl⟩ rfl rfl (Nat.le_of_ble_eq_true rfl) ?_
      refine ww_aload_n (pc := 76) X (j := 2) dX9_alters_76 rfl rfl ?_
      refine ww_get (pc := 77) X (ref := "PictureBlock") (T := TX9) (j := 5) dX9_alters_77 inX9_alters_RX9 shzC_0 clzC_9 (by decide) rfl (List.mem_of_getElem? (i := 4) rfl) rfl ?_
      refine ww_aload_n (pc := 80) X (j := 2) dX9_alters_80 rfl rfl ?_
      refine ww_get (pc := 81) X (ref := "PictureBlock") (T := TX9) (j := 6) dX9_alters_81 inX9_alters_RX9 shzC_0 clzC_9 (by decide) rfl (List.mem_of_getElem? (i := 3) rfl) rfl ?_
      obtain ⟨σ19, h18, hF⟩ := bd_some hF
      refine ww_callVv (pc := 84) X (As := [.ref (G.2.1 59)]) (rest := []) dX9_alters_84 (kX5_takeFrom_47_59 (mL M) G hZ X.2.2.2.2.2.2.1 X.2.2.2.2.2.2.2.1 σ17 σ19 h18) rfl shzC_47 clzC_5 gX9_alters_X5_takeFrom hyX5_takeFrom ⟨rfl, rfl⟩ ⟨Nat.le_of_ble_eq_true rfl, Nat.le_of_ble_eq_true rfl⟩ rfl rfl (Nat.le_of_ble_eq_true rfl) ?_
      refine ww_aload_n (pc := 87) X (j := 2) dX9_alters_87 rfl rfl ?_
      refine ww_get (pc := 88) X (ref := "PictureBlock") (T := TX9) (j := 2) dX9_alters_88 inX9_alters_RX9 shzC_0 clzC_9 (by decide) rfl (List.mem_of_getElem? (i := 1) rfl) rfl ?_
      refine ww_iload_n (pc := 91) X (j := 3) dX9_alters_91 rfl rfl ?_
      refine ww_iload_n (pc := 92) X (j := 4) dX9_alters_92 rfl rfl ?_
      refine ww_iload_n (pc := 93) X (j := 5) dX9_alters_93 rfl rfl ?_
      obtain ⟨σ21, h20, hF⟩ := bd_some hF
      refine ww_callVv (pc := 94) X (As := [.int p1, .int p2, .int p3]) (rest := []) dX9_alters_94 (kX8_setMeasured_2 (mL M) G hZ X.2.2.2.2.2.2.1 X.2.2.2.2.2.2.2.1 σ19 p1 p2 p3 σ21 h20) rfl shzC_2 clzC_8 gX9_alters_X8_setMeasured hyX8_setMeasured ⟨rfl, rfl⟩ ⟨Nat.le_of_ble_eq_true rfl, Nat.le_of_ble_eq_true rfl⟩ rfl rfl (Nat.le_of_ble_eq_true rfl) ?_
      refine ww_aload_n (pc := 97) X (j := 2) dX9_alters_97 rfl rfl ?_
      refine ww_get (pc := 98) X (ref := "PictureBlock") (T := TX9) (j := 9) dX9_alters_98 inX9_alters_RX9 shzC_0 clzC_9 (by decide) rfl (List.mem_of_getElem? (i := 5) rfl) rfl ?_
      refine ww_sipush (pc := 101) X (v := 200) dX9_alters_101 (by decide) ?_
      obtain ⟨r23, σ24, h22, hF⟩ := bd2_some hF
      refine ww_callVi (pc := 104) X (As := [.int 200]) (rest := []) dX9_alters_104 (kX1_settle (mL M) G hZ X.2.2.2.2.2.2.1 X.2.2.2.2.2.2.2.1 σ21 200 (r23, σ24) h22) rfl shzC_90 clzC_1 gX9_alters_X1_settle hyX1_settle ⟨rfl, rfl⟩ ⟨Nat.le_of_ble_eq_true rfl, Nat.le_of_ble_eq_true rfl⟩ rfl rfl (Nat.le_of_ble_eq_true rfl) ?_
      refine ww_pop (pc := 107) X dX9_alters_107 rfl ?_
      refine ww_aload_n (pc := 108) X (j := 2) dX9_alters_108 rfl rfl ?_
      refine ww_iload (pc := 109) X (j := 6) dX9_alters_109 rfl ?_
      obtain ⟨r26, h25, hF⟩ := bd_some hF
      refine ww_callVi (pc := 111) X (As := [.int p4]) (rest := []) dX9_alters_111 (kX9_countMoved (mL M) G hZ X.2.2.2.2.2.2.1 X.2.2.2.2.2.2.2.1 σ24 p4 r26 h25) rfl shzC_0 clzC_9 gX9_alters_X9_countMoved hyX9_countMoved ⟨rfl, rfl⟩ ⟨Nat.le_of_ble_eq_true rfl, Nat.le_of_ble_eq_true rfl⟩ rfl rfl (Nat.le_of_ble_eq_true rfl) ?_
      refine ww_istore (pc := 114) X (lv' := [(6, .int x10), (5, .int x7), (0, .ref (G.2.1 0)), (1, .int p1), (2, .int p2), (3, .int p3), (4, .int p4)]) dX9_alters_114 (by decide) rfl hF (fun x27 ex27 hF => ?_)
      refine ww_aload_n (pc := 116) X (j := 3) dX9_alters_116 rfl rfl ?_
      refine ww_get (pc := 117) X (ref := "PictureBlock") (T := TX9) (j := 2) dX9_alters_117 inX9_alters_RX9 shzC_0 clzC_9 (by decide) rfl (List.mem_of_getElem? (i := 1) rfl) rfl ?_
      refine ww_iload_n (pc := 120) X (j := 4) dX9_alters_120 rfl rfl ?_
      refine ww_iload (pc := 121) X (j := 2) dX9_alters_121 rfl ?_
      refine ww_iload (pc := 123) X (j := 1) dX9_alters_123 rfl ?_
      obtain ⟨σ29, h28, hF⟩ := bd_some hF
      refine ww_callVv (pc := 125) X (As := [.int p1, .int x7, .int x10]) (rest := []) dX9_alters_125 (kX8_setMeasured_2 (mL M) G hZ X.2.2.2.2.2.2.1 X.2.2.2.2.2.2.2.1 σ24 p1 x7 x10 σ29 h28) rfl shzC_2 clzC_8 gX9_alters_X8_setMeasured hyX8_setMeasured ⟨rfl, rfl⟩ ⟨Nat.le_of_ble_eq_true rfl, Nat.le_of_ble_eq_true rfl⟩ rfl rfl (Nat.le_of_ble_eq_true rfl) ?_
      refine ww_aload_n (pc := 128) X (j := 3) dX9_alters_128 rfl rfl ?_
      refine ww_get (pc := 129) X (ref := "PictureBlock") (T := TX9) (j := 5) dX9_alters_129 inX9_alters_RX9 shzC_0 clzC_9 (by decide) rfl (List.mem_of_getElem? (i := 4) rfl) rfl ?_
      refine ww_aload_n (pc := 132) X (j := 3) dX9_alters_132 rfl rfl ?_
      refine ww_get (pc := 133) X (ref := "PictureBlock") (T := TX9) (j := 6) dX9_alters_133 inX9_alters_RX9 shzC_0 clzC_9 (by decide) rfl (List.mem_of_getElem? (i := 3) rfl) rfl ?_
      obtain ⟨σ31, h30, hF⟩ := bd_some hF
      refine ww_callVv (pc := 136) X (As := [.ref (G.2.1 59)]) (rest := []) dX9_alters_136 (kX5_takeFrom_47_59 (mL M) G hZ X.2.2.2.2.2.2.1 X.2.2.2.2.2.2.2.1 σ29 σ31 h30) rfl shzC_47 clzC_5 gX9_alters_X5_takeFrom hyX5_takeFrom ⟨rfl, rfl⟩ ⟨Nat.le_of_ble_eq_true rfl, Nat.le_of_ble_eq_true rfl⟩ rfl rfl (Nat.le_of_ble_eq_true rfl) ?_
      refine ww_iload (pc := 139) X (j := 0) dX9_alters_139 rfl ?_
      exact ww_iret (pc := 141) X dX9_alters_141 (fst_of hF) (snd_of hF)
    · refine ww_iconst (pc := 15) X (v := (-1)) dX9_alters_15 (by decide) ?_
      exact ww_iret (pc := 16) X dX9_alters_16 (fst_of hF) (snd_of hF)
set_option maxRecDepth 100000 in
set_option maxHeartbeats 4000000 in
theorem kX9_alters (l : Launch) (G : gG) {ex : gEx} (hZ : ∀ s : State, G.2.2.2 s → kC ex (gA G zC.1) s) (hG : gOK G zC.1) (hT : G.2.2.1.map (fun q => q.2) = zC.2.1) (σ : gS) (p1 : Int32) (p2 : Int32) (p3 : Int32) (p4 : Int32) (out : Int32 × gS) (hF : fX9_alters σ p1 p2 p3 p4 = some out) : gCi l yX9_alters wsX9_alters rmX9_alters G zC [.ref (G.2.1 0), .int p1, .int p2, .int p3, .int p4] σ out.1 out.2 :=
  gEnter (by decide) rfl ⟨rfl, rfl⟩ hG hT (Nat.le_of_ble_eq_true rfl) rfl (fun M X hl => wX9_alters X hZ σ p1 p2 p3 p4 hF)
noncomputable def fX9_measure (σ : gS) (p1 : Int32) (p2 : Int32) (p3 : Int32) : Option (Int32 × gS) :=
  bd (fX9_canMeasure σ p1 p2 p3) fun r2 => (if r2 = 0 then some (0, σ) else bd (fX8_setMeasured_2 σ p1 p2 p3) fun σ5 => some (1, σ5))
noncomputable abbrev rmX9_measure : Room := { frames := 2, cells := 0, slots := 0, locals := 45 }
set_option maxRecDepth 100000 in
set_option maxHeartbeats 4000000 in
theorem wX9_measure {M : gM} {G : gG} {out : Int32 × gS} (X : gX M G zC cX9_measure RX9 4 wsX9_measure rmX9_measure (some .boolean)) {ex : gEx} (hZ : ∀ s : State, G.2.2.2 s → kC ex (gA G zC.1) s) (σ : gS) (p1 : Int32) (p2 : Int32) (p3 : Int32) (hF : fX9_measure σ p1 p2 p3 = some out) : WW M (gQi M G zC out.1 out.2) G zC 4 σ 0 [(0, .ref (G.2.1 0)), (1, .int p1), (2, .int p2), (3, .int p3)] [] := by
  unfold fX9_measure at hF
  refine ww_aload_n (pc := 0) X (j := 0) dX9_measure_0 rfl rfl ?_
  refine ww_iload_n (pc := 1) X (j := 1) dX9_measure_1 rfl rfl ?_
  refine ww_iload_n (pc := 2) X (j := 2) dX9_measure_2 rfl rfl ?_
  refine ww_iload_n (pc := 3) X (j := 3) dX9_measure_3 rfl rfl ?_
  obtain ⟨r2, h1, hF⟩ := bd_some hF
  refine ww_callVi (pc := 4) X (As := [.int p1, .int p2, .int p3]) (rest := []) dX9_measure_4 (kX9_canMeasure (mL M) G hZ X.2.2.2.2.2.2.1 X.2.2.2.2.2.2.2.1 σ p1 p2 p3 r2 h1) rfl shzC_0 clzC_9 gX9_measure_X9_canMeasure hyX9_canMeasure ⟨rfl, rfl⟩ ⟨Nat.le_of_ble_eq_true rfl, Nat.le_of_ble_eq_true rfl⟩ rfl rfl (Nat.le_of_ble_eq_true rfl) ?_
  refine ww_if_ne (pc := 7) (tgt := 12) X dX9_measure_7 (by decide) hF (fun h3 hF => ?_) (fun h3 hF => ?_)
  · refine ww_aload_n (pc := 12) X (j := 0) dX9_measure_12 rfl rfl ?_
    refine ww_get (pc := 13) X (ref := "PictureBlock") (T := TX9) (j := 2) dX9_measure_13 inX9_measure_RX9 shzC_0 clzC_9 (by decide) rfl (List.mem_of_getElem? (i := 1) rfl) rfl ?_
    refine ww_iload_n (pc := 16) X (j := 1) dX9_measure_16 rfl rfl ?_
    refine ww_iload_n (pc := 17) X (j := 2) dX9_measure_17 rfl rfl ?_
    refine ww_iload_n (pc := 18) X (j := 3) dX9_measure_18 rfl rfl ?_
    obtain ⟨σ5, h4, hF⟩ := bd_some hF
    refine ww_callVv (pc := 19) X (As := [.int p1, .int p2, .int p3]) (rest := []) dX9_measure_19 (kX8_setMeasured_2 (mL M) G hZ X.2.2.2.2.2.2.1 X.2.2.2.2.2.2.2.1 σ p1 p2 p3 σ5 h4) rfl shzC_2 clzC_8 gX9_measure_X8_setMeasured hyX8_setMeasured ⟨rfl, rfl⟩ ⟨Nat.le_of_ble_eq_true rfl, Nat.le_of_ble_eq_true rfl⟩ rfl rfl (Nat.le_of_ble_eq_true rfl) ?_
    refine ww_iconst (pc := 22) X (v := 1) dX9_measure_22 (by decide) ?_
    exact ww_zret (pc := 23) X dX9_measure_23 (by cases hF; rfl) (by cases hF; rfl)
  · refine ww_iconst (pc := 10) X (v := 0) dX9_measure_10 (by decide) ?_
    exact ww_zret (pc := 11) X dX9_measure_11 (by cases hF; rfl) (by cases hF; rfl)
set_option maxRecDepth 100000 in
set_option maxHeartbeats 4000000 in
theorem kX9_measure (l : Launch) (G : gG) {ex : gEx} (hZ : ∀ s : State, G.2.2.2 s → kC ex (gA G zC.1) s) (hG : gOK G zC.1) (hT : G.2.2.1.map (fun q => q.2) = zC.2.1) (σ : gS) (p1 : Int32) (p2 : Int32) (p3 : Int32) (out : Int32 × gS) (hF : fX9_measure σ p1 p2 p3 = some out) : gCi l yX9_measure wsX9_measure rmX9_measure G zC [.ref (G.2.1 0), .int p1, .int p2, .int p3] σ out.1 out.2 :=
  gEnter (by decide) rfl ⟨rfl, rfl⟩ hG hT (Nat.le_of_ble_eq_true rfl) rfl (fun M X hl => wX9_measure X hZ σ p1 p2 p3 hF)
noncomputable def fX9_nextDraw (σ : gS) (p0 : Int64) : Option (Int64) :=
  some (((1103515245 * p0) + 12345) &&& 2147483647)
noncomputable abbrev rmX9_nextDraw : Room := { frames := 0, cells := 0, slots := 0, locals := 0 }
set_option maxRecDepth 100000 in
set_option maxHeartbeats 4000000 in
theorem wX9_nextDraw {M : gM} {G : gG} {out : Int64} (X : gX M G zC cX9_nextDraw RX9 2 wsX9_nextDraw rmX9_nextDraw (some .long)) {ex : gEx} (hZ : ∀ s : State, G.2.2.2 s → kC ex (gA G zC.1) s) (σ : gS) (p0 : Int64) (hF : fX9_nextDraw σ p0 = some out) : WW M (gQl M G zC out σ) G zC 2 σ 0 [(0, .long p0)] [] := by
  unfold fX9_nextDraw at hF
  refine ww_ldc2 (pc := 0) X (v := 1103515245) (List.mem_of_getElem? (i := 1) rfl) dX9_nextDraw_0 ?_
  refine ww_lload_n (pc := 3) X (j := 0) dX9_nextDraw_3 rfl rfl ?_
  refine ww_lmul (pc := 4) X dX9_nextDraw_4 ?_
  refine ww_ldc2 (pc := 5) X (v := 12345) (List.mem_of_getElem? (i := 2) rfl) dX9_nextDraw_5 ?_
  refine ww_ladd (pc := 8) X dX9_nextDraw_8 ?_
  refine ww_ldc2 (pc := 9) X (v := 2147483647) (List.mem_of_getElem? (i := 3) rfl) dX9_nextDraw_9 ?_
  refine ww_land (pc := 12) X dX9_nextDraw_12 ?_
  exact ww_lret (pc := 13) X dX9_nextDraw_13 (Option.some.inj hF) rfl
set_option maxRecDepth 100000 in
set_option maxHeartbeats 4000000 in
theorem kX9_nextDraw (l : Launch) (G : gG) {ex : gEx} (hZ : ∀ s : State, G.2.2.2 s → kC ex (gA G zC.1) s) (hG : gOK G zC.1) (hT : G.2.2.1.map (fun q => q.2) = zC.2.1) (σ : gS) (p0 : Int64) (out : Int64) (hF : fX9_nextDraw σ p0 = some out) : gCl l yX9_nextDraw wsX9_nextDraw rmX9_nextDraw G zC [.long p0] σ out σ :=
  gEnter (by decide) rfl ⟨rfl, rfl⟩ hG hT (Nat.le_of_ble_eq_true rfl) rfl (fun M X hl => wX9_nextDraw X hZ σ p0 hF)
noncomputable def fX9_drawn (σ : gS) (p0 : Int64) (p2 : Int32) : Option (Int32) :=
  if 1 ≤ p2 then gd (decide (¬ p2.toInt64 = 0)) <| some ((lrm (p0 / 64) p2.toInt64).toInt32) else some 0
noncomputable abbrev rmX9_drawn : Room := { frames := 0, cells := 0, slots := 0, locals := 0 }
set_option maxRecDepth 100000 in
set_option maxHeartbeats 4000000 in
theorem wX9_drawn {M : gM} {G : gG} {out : Int32} (X : gX M G zC cX9_drawn RX9 3 wsX9_drawn rmX9_drawn (some .int)) {ex : gEx} (hZ : ∀ s : State, G.2.2.2 s → kC ex (gA G zC.1) s) (σ : gS) (p0 : Int64) (p2 : Int32) (hF : fX9_drawn σ p0 p2 = some out) : WW M (gQi M G zC out σ) G zC 3 σ 0 [(0, .long p0), (2, .int p2)] [] := by
  unfold fX9_drawn at hF
  refine ww_iload_n (pc := 0) X (j := 1) dX9_drawn_0 rfl rfl ?_
  refine ww_iconst (pc := 1) X (v := 1) dX9_drawn_1 (by decide) ?_
  refine ww_icmp_ge (pc := 2) (tgt := 9) X dX9_drawn_2 (by decide) hF (fun h1 hF => ?_) (fun h1 hF => ?_)
  · refine ww_lload_n (pc := 9) X (j := 0) dX9_drawn_9 rfl rfl ?_
    refine ww_ldc2 (pc := 10) X (v := 64) (List.mem_of_getElem? (i := 1) rfl) dX9_drawn_10 ?_
    refine ww_ldiv (pc := 13) X dX9_drawn_13 (by decide) ?_
    refine ww_iload_n (pc := 14) X (j := 1) dX9_drawn_14 rfl rfl ?_
    refine ww_i2l (pc := 15) X dX9_drawn_15 ?_
    refine ww_lremG (pc := 16) X dX9_drawn_16 hF (fun h2 hF => ?_)
    refine ww_l2i (pc := 17) X dX9_drawn_17 ?_
    exact ww_iret (pc := 18) X dX9_drawn_18 (Option.some.inj hF) rfl
  · refine ww_iconst (pc := 5) X (v := 0) dX9_drawn_5 (by decide) ?_
    refine ww_goto (pc := 6) X (tgt := 18) dX9_drawn_6 (by decide) ?_
    exact ww_iret (pc := 18) X dX9_drawn_18 (Option.some.inj hF) rfl
set_option maxRecDepth 100000 in
set_option maxHeartbeats 4000000 in
theorem kX9_drawn (l : Launch) (G : gG) {ex : gEx} (hZ : ∀ s : State, G.2.2.2 s → kC ex (gA G zC.1) s) (hG : gOK G zC.1) (hT : G.2.2.1.map (fun q => q.2) = zC.2.1) (σ : gS) (p0 : Int64) (p2 : Int32) (out : Int32) (hF : fX9_drawn σ p0 p2 = some out) : gCi l yX9_drawn wsX9_drawn rmX9_drawn G zC [.long p0, .int p2] σ out σ :=
  gEnter (by decide) rfl ⟨rfl, rfl⟩ hG hT (Nat.le_of_ble_eq_true rfl) rfl (fun M X hl => wX9_drawn X hZ σ p0 p2 hF)
noncomputable def fX9_keptMeasured (σ : gS) (p0 : Int32) : Option (Int32) :=
  some (if 0 < (if p0 < 9999 then p0 else 9999) then (if p0 < 9999 then p0 else 9999) else 0)
noncomputable abbrev rmX9_keptMeasured : Room := { frames := 1, cells := 0, slots := 0, locals := 32 }
set_option maxRecDepth 100000 in
set_option maxHeartbeats 4000000 in
theorem wX9_keptMeasured {M : gM} {G : gG} {out : Int32} (X : gX M G zC cX9_keptMeasured RX9 1 wsX9_keptMeasured rmX9_keptMeasured (some .int)) {ex : gEx} (hZ : ∀ s : State, G.2.2.2 s → kC ex (gA G zC.1) s) (σ : gS) (p0 : Int32) (hF : fX9_keptMeasured σ p0 = some out) : WW M (gQi M G zC out σ) G zC 1 σ 0 [(0, .int p0)] [] := by
  unfold fX9_keptMeasured at hF
  refine ww_iconst (pc := 0) X (v := 0) dX9_keptMeasured_0 (by decide) ?_
  refine ww_sipush (pc := 1) X (v := 9999) dX9_keptMeasured_1 (by decide) ?_
  refine ww_iload_n (pc := 4) X (j := 0) dX9_keptMeasured_4 rfl rfl ?_
  refine ww_mmin (pc := 5) X dX9_keptMeasured_5 (List.mem_of_getElem? (i := 1) rfl) (List.mem_of_getElem? (i := 2) rfl) (List.mem_of_getElem? (i := 3) rfl) (List.mem_of_getElem? (i := 4) rfl) ⟨Nat.le_of_ble_eq_true rfl, Nat.le_of_ble_eq_true rfl⟩ ?_
  refine ww_mmax (pc := 8) X dX9_keptMeasured_8 (List.mem_of_getElem? (i := 5) rfl) (List.mem_of_getElem? (i := 6) rfl) (List.mem_of_getElem? (i := 3) rfl) (List.mem_of_getElem? (i := 7) rfl) ⟨Nat.le_of_ble_eq_true rfl, Nat.le_of_ble_eq_true rfl⟩ ?_
  exact ww_iret (pc := 11) X dX9_keptMeasured_11 (Option.some.inj hF) rfl
set_option maxRecDepth 100000 in
set_option maxHeartbeats 4000000 in
theorem kX9_keptMeasured (l : Launch) (G : gG) {ex : gEx} (hZ : ∀ s : State, G.2.2.2 s → kC ex (gA G zC.1) s) (hG : gOK G zC.1) (hT : G.2.2.1.map (fun q => q.2) = zC.2.1) (σ : gS) (p0 : Int32) (out : Int32) (hF : fX9_keptMeasured σ p0 = some out) : gCi l yX9_keptMeasured wsX9_keptMeasured rmX9_keptMeasured G zC [.int p0] σ out σ :=
  gEnter (by decide) rfl ⟨rfl, rfl⟩ hG hT (Nat.le_of_ble_eq_true rfl) rfl (fun M X hl => wX9_keptMeasured X hZ σ p0 hF)
noncomputable def bX9_slips_54 (σ : gS) (c54_1 : Int32) (c54_2 : Int32) (c54_4 : Int32) (rec54 : Int64 → Int32 → Int32 → gS → Option (Int32 × gS)) (a5 : Int64) (a7 : Int32) (a8 : Int32) (σ1 : gS) : Option (Int32 × gS) :=
  if c54_1 ≤ a8 then some (a7, σ1) else bd (fX9_nextDraw σ1 a5) fun r14 => nm (r14 : Int64) fun x15 => bd (fX9_drawn σ1 x15 c54_4) fun r17 => nm (r17 : Int32) fun x18 => bd (fX9_nextDraw σ1 x15) fun r20 => nm (r20 : Int64) fun x21 => gd (gb 0 2) <| gd (gb x18 60) <| nm (σ1.1 13 x18.toNatClampNeg) fun v23 => bd (fX9_drawn σ1 x21 ((2 * c54_2) + 1)) fun r25 => nm ((v23 + r25) - c54_2 : Int32) fun x26 => bd (fX9_nextDraw σ1 x21) fun r28 => nm (r28 : Int64) fun x29 => gd (gb 1 2) <| gd (gb x18 60) <| nm (σ1.1 14 x18.toNatClampNeg) fun v31 => bd (fX9_drawn σ1 x29 ((2 * c54_2) + 1)) fun r33 => nm ((v31 + r33) - c54_2 : Int32) fun x34 => bd (fX9_keptMeasured σ1 x26) fun r36 => bd (fX9_keptMeasured σ1 x34) fun r38 => bd (fX8_setMeasured_2 σ1 x18 r36 r38) fun σ40 => nm (a7 + (3) : Int32) fun x41 => nm (a8 + 1 : Int32) fun x42 => rec54 x29 x41 x42 σ40
noncomputable def fX9_slips (σ : gS) (p1 : Int32) (p2 : Int32) (p3 : Int32) : Option (Int32 × gS) :=
  gd (gb 3 6) <| nm (σ.1 3 ((3 : Int32).toNatClampNeg)) fun v1 => nm (v1 : Int32) fun x2 => (if x2 = 0 then some ((-1), σ) else if p1 < 1 then some ((-1), σ) else if 60 < p1 then some ((-1), σ) else if p2 < 0 then some ((-1), σ) else if 999 < p2 then some ((-1), σ) else if 0 ≤ p3 then nm (p3.toInt64 : Int64) fun x9 => nm (0 : Int32) fun x10 => nm (0 : Int32) fun x11 => lpc (S := Int64 × Int32 × Int32 × gS) K9 (fun rec s => bX9_slips_54 σ p1 p2 x2 (fun a5 a7 a8 σ1 => rec (a5, a7, a8, σ1)) s.1 s.2.1 s.2.2.1 s.2.2.2) (x9, x10, x11, σ) else some ((-1), σ))
noncomputable abbrev rmX9_slips : Room := { frames := 2, cells := 0, slots := 0, locals := 52 }
set_option maxRecDepth 100000 in
set_option maxHeartbeats 4000000 in
theorem wbX9_slips_54 {M : gM} {G : gG} {out : Int32 × gS} (X : gX M G zC cX9_slips RX9 12 wsX9_slips rmX9_slips (some .int)) {ex : gEx} (hZ : ∀ s : State, G.2.2.2 s → kC ex (gA G zC.1) s) (σ : gS) (c54_1 : Int32) (c54_2 : Int32) (c54_4 : Int32) (rec54 : Int64 → Int32 → Int32 → gS → Option (Int32 × gS)) (ih54 : ∀ (a5 : Int64) (a7 : Int32) (a8 : Int32) (σ1 : gS), rec54 a5 a7 a8 σ1 = some out → WW M (gQi M G zC out.1 out.2) G zC 12 σ1 54 [(0, .ref (G.2.1 0)), (1, .int c54_1), (2, .int c54_2), (4, .int c54_4), (5, .long a5), (7, .int a7), (8, .int a8)] []) (a5 : Int64) (a7 : Int32) (a8 : Int32) (σ1 : gS) (hF : bX9_slips_54 σ c54_1 c54_2 c54_4 rec54 a5 a7 a8 σ1 = some out) : WW M (gQi M G zC out.1 out.2) G zC 12 σ1 54 [(0, .ref (G.2.1 0)), (1, .int c54_1), (2, .int c54_2), (4, .int c54_4), (5, .long a5), (7, .int a7), (8, .int a8)] [] := by
  unfold bX9_slips_54 at hF
  refine ww_iload (pc := 54) X (j := 6) dX9_slips_54 rfl ?_
  refine ww_iload_n (pc := 56) X (j := 1) dX9_slips_56 rfl rfl ?_
  refine ww_icmp_ge (pc := 57) (tgt := 172) X dX9_slips_57 (by decide) hF (fun h12 hF => ?_) (fun h12 hF => ?_)
  · refine ww_iload (pc := 172) X (j := 5) dX9_slips_172 rfl ?_
    exact ww_iret (pc := 174) X dX9_slips_174 (fst_of hF) (snd_of hF)
  · refine ww_lload (pc := 60) X (j := 4) dX9_slips_60 rfl ?_
    obtain ⟨r14, h13, hF⟩ := bd_some hF
    refine ww_callSl (pc := 62) X (As := [.long a5]) (rest := []) dX9_slips_62 (kX9_nextDraw (mL M) G hZ X.2.2.2.2.2.2.1 X.2.2.2.2.2.2.2.1 σ1 a5 r14 h13) rfl gX9_slips_X9_nextDraw hyX9_nextDraw ⟨rfl, rfl⟩ ⟨Nat.le_of_ble_eq_true rfl, Nat.le_of_ble_eq_true rfl⟩ rfl rfl (Nat.le_of_ble_eq_true rfl) ?_
    refine ww_lstore (pc := 65) X (lv' := [(0, .ref (G.2.1 0)), (1, .int c54_1), (2, .int c54_2), (4, .int c54_4), (7, .int a7), (8, .int a8)]) dX9_slips_65 (by decide) rfl hF (fun x15 ex15 hF => ?_)
    refine ww_lload (pc := 67) X (j := 0) dX9_slips_67 rfl ?_
    refine ww_iload (pc := 69) X (j := 4) dX9_slips_69 rfl ?_
    obtain ⟨r17, h16, hF⟩ := bd_some hF
    refine ww_callSi (pc := 71) X (As := [.long x15, .int c54_4]) (rest := []) dX9_slips_71 (kX9_drawn (mL M) G hZ X.2.2.2.2.2.2.1 X.2.2.2.2.2.2.2.1 σ1 x15 c54_4 r17 h16) rfl gX9_slips_X9_drawn hyX9_drawn ⟨rfl, rfl⟩ ⟨Nat.le_of_ble_eq_true rfl, Nat.le_of_ble_eq_true rfl⟩ rfl rfl (Nat.le_of_ble_eq_true rfl) ?_
    refine ww_istore (pc := 74) X (lv' := [(5, .long x15), (0, .ref (G.2.1 0)), (1, .int c54_1), (2, .int c54_2), (4, .int c54_4), (7, .int a7), (8, .int a8)]) dX9_slips_74 (by decide) rfl hF (fun x18 ex18 hF => ?_)
    refine ww_lload (pc := 76) X (j := 1) dX9_slips_76 rfl ?_
    obtain ⟨r20, h19, hF⟩ := bd_some hF
    refine ww_callSl (pc := 78) X (As := [.long x15]) (rest := []) dX9_slips_78 (kX9_nextDraw (mL M) G hZ X.2.2.2.2.2.2.1 X.2.2.2.2.2.2.2.1 σ1 x15 r20 h19) rfl gX9_slips_X9_nextDraw hyX9_nextDraw ⟨rfl, rfl⟩ ⟨Nat.le_of_ble_eq_true rfl, Nat.le_of_ble_eq_true rfl⟩ rfl rfl (Nat.le_of_ble_eq_true rfl) ?_
    refine ww_lstore (pc := 81) X (lv' := [(9, .int x18), (0, .ref (G.2.1 0)), (1, .int c54_1), (2, .int c54_2), (4, .int c54_4), (7, .int a7), (8, .int a8)]) dX9_slips_81 (by decide) rfl hF (fun x21 ex21 hF => ?_)
    refine ww_aload_n (pc := 83) X (j := 2) dX9_slips_83 rfl rfl ?_
    refine ww_get (pc := 84) X (ref := "PictureBlock") (T := TX9) (j := 2) dX9_slips_84 inX9_slips_RX9 shzC_0 clzC_9 (by decide) rfl (List.mem_of_getElem? (i := 1) rfl) rfl ?_
    refine ww_get (pc := 87) X (ref := "PictureBlock$Told") (T := TX8) (j := 6) dX9_slips_87 inX9_slips_RX8 shzC_2 clzC_8 (by decide) rfl (List.mem_of_getElem? (i := 3) rfl) rfl ?_
    refine ww_iconst (pc := 90) X (v := 0) dX9_slips_90 (by decide) ?_
    refine ww_aald (pc := 91) X dX9_slips_91 shzC_12 rfl hF (fun h22 hF => ?_)
    show WW M _ G zC _ _ _ _ (.ref (G.2.1 13) :: _)
    refine ww_iload (pc := 92) X (j := 1) dX9_slips_92 rfl ?_
    refine ww_iald (pc := 94) X dX9_slips_94 shzC_13 rfl hF (fun v23 ev23 bv23 hF => ?_)
    refine ww_lload (pc := 95) X (j := 0) dX9_slips_95 rfl ?_
    refine ww_iconst (pc := 97) X (v := 2) dX9_slips_97 (by decide) ?_
    refine ww_iload_n (pc := 98) X (j := 4) dX9_slips_98 rfl rfl ?_
    refine ww_imul (pc := 99) X dX9_slips_99 ?_
    refine ww_iconst (pc := 100) X (v := 1) dX9_slips_100 (by decide) ?_
    refine ww_iadd (pc := 101) X dX9_slips_101 ?_
    obtain ⟨r25, h24, hF⟩ := bd_some hF
    refine ww_callSi (pc := 102) X (As := [.long x21, .int ((2 * c54_2) + 1)]) (rest := [.int v23]) dX9_slips_102 (kX9_drawn (mL M) G hZ X.2.2.2.2.2.2.1 X.2.2.2.2.2.2.2.1 σ1 x21 ((2 * c54_2) + 1) r25 h24) rfl gX9_slips_X9_drawn hyX9_drawn ⟨rfl, rfl⟩ ⟨Nat.le_of_ble_eq_true rfl, Nat.le_of_ble_eq_true rfl⟩ rfl rfl (Nat.le_of_ble_eq_true rfl) ?_
    refine ww_iadd (pc := 105) X dX9_slips_105 ?_
    refine ww_iload_n (pc := 106) X (j := 4) dX9_slips_106 rfl rfl ?_
    refine ww_isub (pc := 107) X dX9_slips_107 ?_
    refine ww_istore (pc := 108) X (lv' := [(5, .long x21), (9, .int x18), (0, .ref (G.2.1 0)), (1, .int c54_1), (2, .int c54_2), (4, .int c54_4), (7, .int a7), (8, .int a8)]) dX9_slips_108 (by decide) rfl hF (fun x26 ex26 hF => ?_)
    refine ww_lload (pc := 110) X (j := 1) dX9_slips_110 rfl ?_
    obtain ⟨r28, h27, hF⟩ := bd_some hF
    refine ww_callSl (pc := 112) X (As := [.long x21]) (rest := []) dX9_slips_112 (kX9_nextDraw (mL M) G hZ X.2.2.2.2.2.2.1 X.2.2.2.2.2.2.2.1 σ1 x21 r28 h27) rfl gX9_slips_X9_nextDraw hyX9_nextDraw ⟨rfl, rfl⟩ ⟨Nat.le_of_ble_eq_true rfl, Nat.le_of_ble_eq_true rfl⟩ rfl rfl (Nat.le_of_ble_eq_true rfl) ?_
    refine ww_lstore (pc := 115) X (lv' := [(10, .int x26), (9, .int x18), (0, .ref (G.2.1 0)), (1, .int c54_1), (2, .int c54_2), (4, .int c54_4), (7, .int a7), (8, .int a8)]) dX9_slips_115 (by decide) rfl hF (fun x29 ex29 hF => ?_)
    refine ww_aload_n (pc := 117) X (j := 3) dX9_slips_117 rfl rfl ?_
    refine ww_get (pc := 118) X (ref := "PictureBlock") (T := TX9) (j := 2) dX9_slips_118 inX9_slips_RX9 shzC_0 clzC_9 (by decide) rfl (List.mem_of_getElem? (i := 1) rfl) rfl ?_
    refine ww_get (pc := 121) X (ref := "PictureBlock$Told") (T := TX8) (j := 6) dX9_slips_121 inX9_slips_RX8 shzC_2 clzC_8 (by decide) rfl (List.mem_of_getElem? (i := 3) rfl) rfl ?_
    refine ww_iconst (pc := 124) X (v := 1) dX9_slips_124 (by decide) ?_
    refine ww_aald (pc := 125) X dX9_slips_125 shzC_12 rfl hF (fun h30 hF => ?_)
    show WW M _ G zC _ _ _ _ (.ref (G.2.1 14) :: _)
    refine ww_iload (pc := 126) X (j := 2) dX9_slips_126 rfl ?_
    refine ww_iald (pc := 128) X dX9_slips_128 shzC_14 rfl hF (fun v31 ev31 bv31 hF => ?_)
    refine ww_lload (pc := 129) X (j := 0) dX9_slips_129 rfl ?_
    refine ww_iconst (pc := 131) X (v := 2) dX9_slips_131 (by decide) ?_
    refine ww_iload_n (pc := 132) X (j := 5) dX9_slips_132 rfl rfl ?_
    refine ww_imul (pc := 133) X dX9_slips_133 ?_
    refine ww_iconst (pc := 134) X (v := 1) dX9_slips_134 (by decide) ?_
    refine ww_iadd (pc := 135) X dX9_slips_135 ?_
    obtain ⟨r33, h32, hF⟩ := bd_some hF
    refine ww_callSi (pc := 136) X (As := [.long x29, .int ((2 * c54_2) + 1)]) (rest := [.int v31]) dX9_slips_136 (kX9_drawn (mL M) G hZ X.2.2.2.2.2.2.1 X.2.2.2.2.2.2.2.1 σ1 x29 ((2 * c54_2) + 1) r33 h32) rfl gX9_slips_X9_drawn hyX9_drawn ⟨rfl, rfl⟩ ⟨Nat.le_of_ble_eq_true rfl, Nat.le_of_ble_eq_true rfl⟩ rfl rfl (Nat.le_of_ble_eq_true rfl) ?_
    refine ww_iadd (pc := 139) X dX9_slips_139 ?_
    refine ww_iload_n (pc := 140) X (j := 5) dX9_slips_140 rfl rfl ?_
    refine ww_isub (pc := 141) X dX9_slips_141 ?_
    refine ww_istore (pc := 142) X (lv' := [(5, .long x29), (10, .int x26), (9, .int x18), (0, .ref (G.2.1 0)), (1, .int c54_1), (2, .int c54_2), (4, .int c54_4), (7, .int a7), (8, .int a8)]) dX9_slips_142 (by decide) rfl hF (fun x34 ex34 hF => ?_)
    refine ww_aload_n (pc := 144) X (j := 4) dX9_slips_144 rfl rfl ?_
    refine ww_get (pc := 145) X (ref := "PictureBlock") (T := TX9) (j := 2) dX9_slips_145 inX9_slips_RX9 shzC_0 clzC_9 (by decide) rfl (List.mem_of_getElem? (i := 1) rfl) rfl ?_
    refine ww_iload (pc := 148) X (j := 3) dX9_slips_148 rfl ?_
    refine ww_iload (pc := 150) X (j := 2) dX9_slips_150 rfl ?_
    obtain ⟨r36, h35, hF⟩ := bd_some hF
    refine ww_callSi (pc := 152) X (As := [.int x26]) (rest := [.int x18, .ref (G.2.1 2)]) dX9_slips_152 (kX9_keptMeasured (mL M) G hZ X.2.2.2.2.2.2.1 X.2.2.2.2.2.2.2.1 σ1 x26 r36 h35) rfl gX9_slips_X9_keptMeasured hyX9_keptMeasured ⟨rfl, rfl⟩ ⟨Nat.le_of_ble_eq_true rfl, Nat.le_of_ble_eq_true rfl⟩ rfl rfl (Nat.le_of_ble_eq_true rfl) ?_
    refine ww_iload (pc := 155) X (j := 0) dX9_slips_155 rfl ?_
    obtain ⟨r38, h37, hF⟩ := bd_some hF
    refine ww_callSi (pc := 157) X (As := [.int x34]) (rest := [.int r36, .int x18, .ref (G.2.1 2)]) dX9_slips_157 (kX9_keptMeasured (mL M) G hZ X.2.2.2.2.2.2.1 X.2.2.2.2.2.2.2.1 σ1 x34 r38 h37) rfl gX9_slips_X9_keptMeasured hyX9_keptMeasured ⟨rfl, rfl⟩ ⟨Nat.le_of_ble_eq_true rfl, Nat.le_of_ble_eq_true rfl⟩ rfl rfl (Nat.le_of_ble_eq_true rfl) ?_
    obtain ⟨σ40, h39, hF⟩ := bd_some hF
    refine ww_callVv (pc := 160) X (As := [.int x18, .int r36, .int r38]) (rest := []) dX9_slips_160 (kX8_setMeasured_2 (mL M) G hZ X.2.2.2.2.2.2.1 X.2.2.2.2.2.2.2.1 σ1 x18 r36 r38 σ40 h39) rfl shzC_2 clzC_8 gX9_slips_X8_setMeasured hyX8_setMeasured ⟨rfl, rfl⟩ ⟨Nat.le_of_ble_eq_true rfl, Nat.le_of_ble_eq_true rfl⟩ rfl rfl (Nat.le_of_ble_eq_true rfl) ?_
    refine ww_iinc (pc := 163) X (j := 8) (v := (3)) (lv' := [(11, .int x34), (5, .long x29), (10, .int x26), (9, .int x18), (0, .ref (G.2.1 0)), (1, .int c54_1), (2, .int c54_2), (4, .int c54_4), (8, .int a8)]) dX9_slips_163 rfl rfl (by decide) rfl hF (fun x41 ex41 hF => ?_)
    refine ww_iinc (pc := 166) X (j := 9) (v := 1) (lv' := [(7, .int x41), (11, .int x34), (5, .long x29), (10, .int x26), (9, .int x18), (0, .ref (G.2.1 0)), (1, .int c54_1), (2, .int c54_2), (4, .int c54_4)]) dX9_slips_166 rfl rfl (by decide) rfl hF (fun x42 ex42 hF => ?_)
    refine ww_goto (pc := 169) X (tgt := 54) dX9_slips_169 (by decide) ?_
    exact ww_sub [6, 7, 8, 9, 3, 1, 0] rfl (ih54 x29 x41 x42 σ40 hF)
set_option maxRecDepth 100000 in
set_option maxHeartbeats 4000000 in
theorem wX9_slips {M : gM} {G : gG} {out : Int32 × gS} (X : gX M G zC cX9_slips RX9 12 wsX9_slips rmX9_slips (some .int)) {ex : gEx} (hZ : ∀ s : State, G.2.2.2 s → kC ex (gA G zC.1) s) (σ : gS) (p1 : Int32) (p2 : Int32) (p3 : Int32) (hF : fX9_slips σ p1 p2 p3 = some out) : WW M (gQi M G zC out.1 out.2) G zC 12 σ 0 [(0, .ref (G.2.1 0)), (1, .int p1), (2, .int p2), (3, .int p3)] [] := by
  unfold fX9_slips at hF
  refine ww_aload_n (pc := 0) X (j := 0) dX9_slips_0 rfl rfl ?_
  refine ww_get (pc := 1) X (ref := "PictureBlock") (T := TX9) (j := 2) dX9_slips_1 inX9_slips_RX9 shzC_0 clzC_9 (by decide) rfl (List.mem_of_getElem? (i := 1) rfl) rfl ?_
  refine ww_get (pc := 4) X (ref := "PictureBlock$Told") (T := TX8) (j := 0) dX9_slips_4 inX9_slips_RX8 shzC_2 clzC_8 (by decide) rfl (List.mem_of_getElem? (i := 2) rfl) rfl ?_
  refine ww_iconst (pc := 7) X (v := 3) dX9_slips_7 (by decide) ?_
  refine ww_iald (pc := 8) X dX9_slips_8 shzC_3 rfl hF (fun v1 ev1 bv1 hF => ?_)
  refine ww_istore (pc := 9) X (lv' := [(0, .ref (G.2.1 0)), (1, .int p1), (2, .int p2), (3, .int p3)]) dX9_slips_9 (by decide) rfl hF (fun x2 ex2 hF => ?_)
  refine ww_iload (pc := 11) X (j := 0) dX9_slips_11 rfl ?_
  refine ww_if_eq (pc := 13) (tgt := 42) X dX9_slips_13 (by decide) hF (fun h3 hF => ?_) (fun h3 hF => ?_)
  · refine ww_iconst (pc := 42) X (v := (-1)) dX9_slips_42 (by decide) ?_
    exact ww_iret (pc := 43) X dX9_slips_43 (fst_of hF) (snd_of hF)
  · refine ww_iload_n (pc := 16) X (j := 2) dX9_slips_16 rfl rfl ?_
    refine ww_iconst (pc := 17) X (v := 1) dX9_slips_17 (by decide) ?_
    refine ww_icmp_lt (pc := 18) (tgt := 42) X dX9_slips_18 (by decide) hF (fun h4 hF => ?_) (fun h4 hF => ?_)
    · refine ww_iconst (pc := 42) X (v := (-1)) dX9_slips_42 (by decide) ?_
      exact ww_iret (pc := 43) X dX9_slips_43 (fst_of hF) (snd_of hF)
    · refine ww_iload_n (pc := 21) X (j := 2) dX9_slips_21 rfl rfl ?_
      refine ww_bipush (pc := 22) X (v := 60) dX9_slips_22 (by decide) ?_
      refine ww_icmp_gt (pc := 24) (tgt := 42) X dX9_slips_24 (by decide) hF (fun h5 hF => ?_) (fun h5 hF => ?_)
      · refine ww_iconst (pc := 42) X (v := (-1)) dX9_slips_42 (by decide) ?_
        exact ww_iret (pc := 43) X dX9_slips_43 (fst_of hF) (snd_of hF)
      · refine ww_iload_n (pc := 27) X (j := 3) dX9_slips_27 rfl rfl ?_
        refine ww_if_lt (pc := 28) (tgt := 42) X dX9_slips_28 (by decide) hF (fun h6 hF => ?_) (fun h6 hF => ?_)
        · refine ww_iconst (pc := 42) X (v := (-1)) dX9_slips_42 (by decide) ?_
          exact ww_iret (pc := 43) X dX9_slips_43 (fst_of hF) (snd_of hF)
        · refine ww_iload_n (pc := 31) X (j := 3) dX9_slips_31 rfl rfl ?_
          refine ww_sipush (pc := 32) X (v := 999) dX9_slips_32 (by decide) ?_
          refine ww_icmp_gt (pc := 35) (tgt := 42) X dX9_slips_35 (by decide) hF (fun h7 hF => ?_) (fun h7 hF => ?_)
          · refine ww_iconst (pc := 42) X (v := (-1)) dX9_slips_42 (by decide) ?_
            exact ww_iret (pc := 43) X dX9_slips_43 (fst_of hF) (snd_of hF)
          · refine ww_iload_n (pc := 38) X (j := 4) dX9_slips_38 rfl rfl ?_
            refine ww_if_ge (pc := 39) (tgt := 44) X dX9_slips_39 (by decide) hF (fun h8 hF => ?_) (fun h8 hF => ?_)
            · refine ww_iload_n (pc := 44) X (j := 4) dX9_slips_44 rfl rfl ?_
              refine ww_i2l (pc := 45) X dX9_slips_45 ?_
              refine ww_lstore (pc := 46) X (lv' := [(4, .int x2), (0, .ref (G.2.1 0)), (1, .int p1), (2, .int p2), (3, .int p3)]) dX9_slips_46 (by decide) rfl hF (fun x9 ex9 hF => ?_)
              refine ww_iconst (pc := 48) X (v := 0) dX9_slips_48 (by decide) ?_
              refine ww_istore (pc := 49) X (lv' := [(5, .long x9), (4, .int x2), (0, .ref (G.2.1 0)), (1, .int p1), (2, .int p2), (3, .int p3)]) dX9_slips_49 (by decide) rfl hF (fun x10 ex10 hF => ?_)
              refine ww_iconst (pc := 51) X (v := 0) dX9_slips_51 (by decide) ?_
              refine ww_istore (pc := 52) X (lv' := [(7, .int x10), (5, .long x9), (4, .int x2), (0, .ref (G.2.1 0)), (1, .int p1), (2, .int p2), (3, .int p3)]) dX9_slips_52 (by decide) rfl hF (fun x11 ex11 hF => ?_)
              exact ww_sub [4, 5, 6, 3, 2, 1, 0] rfl (lpc_ind (P := (fun (s : Int64 × Int32 × Int32 × gS) => WW M (gQi M G zC out.1 out.2) G zC 12 s.2.2.2 54 [(0, .ref (G.2.1 0)), (1, .int p1), (2, .int p2), (4, .int x2), (5, .long s.1), (7, .int s.2.1), (8, .int s.2.2.1)] [])) (fun rec s ih hF => wbX9_slips_54 X hZ σ p1 p2 x2 (fun a5 a7 a8 σ1 => rec (a5, a7, a8, σ1)) (fun a5 a7 a8 σ1 h => ih (a5, a7, a8, σ1) h) s.1 s.2.1 s.2.2.1 s.2.2.2 hF) K9 (x9, x10, x11, σ) hF)
            · refine ww_iconst (pc := 42) X (v := (-1)) dX9_slips_42 (by decide) ?_
              exact ww_iret (pc := 43) X dX9_slips_43 (fst_of hF) (snd_of hF)
set_option maxRecDepth 100000 in
set_option maxHeartbeats 4000000 in
theorem kX9_slips (l : Launch) (G : gG) {ex : gEx} (hZ : ∀ s : State, G.2.2.2 s → kC ex (gA G zC.1) s) (hG : gOK G zC.1) (hT : G.2.2.1.map (fun q => q.2) = zC.2.1) (σ : gS) (p1 : Int32) (p2 : Int32) (p3 : Int32) (out : Int32 × gS) (hF : fX9_slips σ p1 p2 p3 = some out) : gCi l yX9_slips wsX9_slips rmX9_slips G zC [.ref (G.2.1 0), .int p1, .int p2, .int p3] σ out.1 out.2 :=
  gEnter (by decide) rfl ⟨rfl, rfl⟩ hG hT (Nat.le_of_ble_eq_true rfl) rfl (fun M X hl => wX9_slips X hZ σ p1 p2 p3 hF)
