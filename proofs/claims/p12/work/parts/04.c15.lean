noncomputable def fX0_writeByte (σ : gS) (p1 : Int32) : Option (gS) :=
  if (σ.1 197 2) < 378 then gd (gb (σ.1 197 2) 378) <| nm (gsI σ 198 (σ.1 197 2).toNatClampNeg (p1 &&& 255)) fun σ2 => nm (gsI σ2 197 2 ((σ2.1 197 2) + 1)) fun σ3 => some σ3 else some σ
noncomputable abbrev rmX0_writeByte : Room := { frames := 0, cells := 0, slots := 0, locals := 0 }
set_option maxRecDepth 100000 in
set_option maxHeartbeats 4000000 in
theorem wX0_writeByte {M : gM} {G : gG} {out : gS} (X : gX M G zC cX0_writeByte RX0 2 wsX0_writeByte rmX0_writeByte none) {ex : gEx} (hZ : ∀ s : State, G.2.2.2 s → kC ex (gA G zC.1) s) (σ : gS) (p1 : Int32) (hF : fX0_writeByte σ p1 = some out) : WW M (gQv M G zC out) G zC 2 σ 0 [(0, .ref (G.2.1 197)), (1, .int p1)] [] := by
  unfold fX0_writeByte at hF
  refine ww_aload_n (pc := 0) X (j := 0) dX0_writeByte_0 rfl rfl ?_
  refine ww_get (pc := 1) X (ref := "PictureBlock$Imager") (T := TX0) (j := 2) dX0_writeByte_1 inX0_writeByte_RX0 shzC_197 clzC_0 (by decide) rfl (List.mem_of_getElem? (i := 1) rfl) rfl ?_
  refine ww_aload_n (pc := 4) X (j := 0) dX0_writeByte_4 rfl rfl ?_
  refine ww_get (pc := 5) X (ref := "PictureBlock$Imager") (T := TX0) (j := 1) dX0_writeByte_5 inX0_writeByte_RX0 shzC_197 clzC_0 (by decide) rfl (List.mem_of_getElem? (i := 2) rfl) rfl ?_
  refine ww_alen (pc := 8) X (v := 378) (by decide) dX0_writeByte_8 shzC_198 rfl (by decide) ?_
  refine ww_icmp_lt (pc := 9) (tgt := 13) X dX0_writeByte_9 (by decide) hF (fun h1 hF => ?_) (fun h1 hF => ?_)
  · refine ww_aload_n (pc := 13) X (j := 0) dX0_writeByte_13 rfl rfl ?_
    refine ww_get (pc := 14) X (ref := "PictureBlock$Imager") (T := TX0) (j := 1) dX0_writeByte_14 inX0_writeByte_RX0 shzC_197 clzC_0 (by decide) rfl (List.mem_of_getElem? (i := 2) rfl) rfl ?_
    refine ww_aload_n (pc := 17) X (j := 0) dX0_writeByte_17 rfl rfl ?_
    refine ww_get (pc := 18) X (ref := "PictureBlock$Imager") (T := TX0) (j := 2) dX0_writeByte_18 inX0_writeByte_RX0 shzC_197 clzC_0 (by decide) rfl (List.mem_of_getElem? (i := 1) rfl) rfl ?_
    refine ww_iload_n (pc := 21) X (j := 1) dX0_writeByte_21 rfl rfl ?_
    refine ww_sipush (pc := 22) X (v := 255) dX0_writeByte_22 (by decide) ?_
    refine ww_iand (pc := 25) X dX0_writeByte_25 ?_
    refine ww_iast (pc := 26) X dX0_writeByte_26 shzC_198 rfl hF (fun σ2 eσ2 bσ2 hF => ?_)
    refine ww_aload_n (pc := 27) X (j := 0) dX0_writeByte_27 rfl rfl ?_
    refine ww_dup (pc := 28) X dX0_writeByte_28 rfl ?_
    refine ww_get (pc := 29) X (ref := "PictureBlock$Imager") (T := TX0) (j := 2) dX0_writeByte_29 inX0_writeByte_RX0 shzC_197 clzC_0 (by decide) rfl (List.mem_of_getElem? (i := 1) rfl) rfl ?_
    refine ww_iconst (pc := 32) X (v := 1) dX0_writeByte_32 (by decide) ?_
    refine ww_iadd (pc := 33) X dX0_writeByte_33 ?_
    refine ww_putI (pc := 34) X (ref := "PictureBlock$Imager") (T := TX0) (j := 2) dX0_writeByte_34 inX0_writeByte_RX0 tyX0 tyX0_ok nmX0 shzC_197 clzC_0 (by decide) rfl (List.mem_of_getElem? (i := 1) rfl) rfl rfl (by decide +kernel) hF (fun σ3 eσ3 hF => ?_)
    exact ww_vret (pc := 37) X dX0_writeByte_37 (by cases hF; rfl)
  · exact ww_vret (pc := 12) X dX0_writeByte_12 (by cases hF; rfl)
set_option maxRecDepth 100000 in
set_option maxHeartbeats 4000000 in
theorem kX0_writeByte (l : Launch) (G : gG) {ex : gEx} (hZ : ∀ s : State, G.2.2.2 s → kC ex (gA G zC.1) s) (hG : gOK G zC.1) (hT : G.2.2.1.map (fun q => q.2) = zC.2.1) (σ : gS) (p1 : Int32) (out : gS) (hF : fX0_writeByte σ p1 = some out) : gCv l yX0_writeByte wsX0_writeByte rmX0_writeByte G zC [.ref (G.2.1 197), .int p1] σ out :=
  gEnter (by decide) rfl ⟨rfl, rfl⟩ hG hT (Nat.le_of_ble_eq_true rfl) rfl (fun M X hl => wX0_writeByte X hZ σ p1 hF)
noncomputable def bX0_check_5 (σ : gS) (c5_0 : Nat) (c5_1 : Int32) (rec5 : Int32 → Int32 → Option (Int32)) (a2 : Int32) (a3 : Int32) : Option (Int32) :=
  if c5_1 ≤ a3 then some a2 else gd (gb a3 (gsz zC.1 0 0 c5_0)) <| nm (σ.1 c5_0 a3.toNatClampNeg) fun v4 => nm (irm ((5 * a2) + v4) 241 : Int32) fun x5 => nm (a3 + 1 : Int32) fun x6 => rec5 x5 x6
noncomputable def fX0_check (σ : gS) (p0 : Nat) (p1 : Int32) : Option (Int32) :=
  nm (45 : Int32) fun x1 => nm (0 : Int32) fun x2 => lpc (S := Int32 × Int32) K9 (fun rec s => bX0_check_5 σ p0 p1 (fun a2 a3 => rec (a2, a3)) s.1 s.2) (x1, x2)
noncomputable abbrev rmX0_check : Room := { frames := 0, cells := 0, slots := 0, locals := 0 }
set_option maxRecDepth 100000 in
set_option maxHeartbeats 4000000 in
theorem wbX0_check_5 {M : gM} {G : gG} {out : Int32} (X : gX M G zC cX0_check RX0 4 wsX0_check rmX0_check (some .int)) {ex : gEx} (hZ : ∀ s : State, G.2.2.2 s → kC ex (gA G zC.1) s) (σ : gS) (c5_0 : Nat) (c5_1 : Int32) (rec5 : Int32 → Int32 → Option (Int32)) (ih5 : ∀ (a2 : Int32) (a3 : Int32), rec5 a2 a3 = some out → WW M (gQi M G zC out σ) G zC 4 σ 5 [(0, .ref (G.2.1 c5_0)), (1, .int c5_1), (2, .int a2), (3, .int a3)] []) (a2 : Int32) (a3 : Int32) (hF : bX0_check_5 σ c5_0 c5_1 rec5 a2 a3 = some out) : WW M (gQi M G zC out σ) G zC 4 σ 5 [(0, .ref (G.2.1 c5_0)), (1, .int c5_1), (2, .int a2), (3, .int a3)] [] := by
  unfold bX0_check_5 at hF
  refine ww_iload_n (pc := 5) X (j := 3) dX0_check_5 rfl rfl ?_
  refine ww_iload_n (pc := 6) X (j := 1) dX0_check_6 rfl rfl ?_
  refine ww_icmp_ge (pc := 7) (tgt := 28) X dX0_check_7 (by decide) hF (fun h3 hF => ?_) (fun h3 hF => ?_)
  · refine ww_iload_n (pc := 28) X (j := 2) dX0_check_28 rfl rfl ?_
    exact ww_iret (pc := 29) X dX0_check_29 (Option.some.inj hF) rfl
  · refine ww_iconst (pc := 10) X (v := 5) dX0_check_10 (by decide) ?_
    refine ww_iload_n (pc := 11) X (j := 2) dX0_check_11 rfl rfl ?_
    refine ww_imul (pc := 12) X dX0_check_12 ?_
    refine ww_aload_n (pc := 13) X (j := 0) dX0_check_13 rfl rfl ?_
    refine ww_iload_n (pc := 14) X (j := 3) dX0_check_14 rfl rfl ?_
    refine ww_ialdS (pc := 15) X dX0_check_15  (t := 0) rfl hF (fun v4 ev4 bv4 hF => ?_)
    refine ww_iadd (pc := 16) X dX0_check_16 ?_
    refine ww_sipush (pc := 17) X (v := 241) dX0_check_17 (by decide) ?_
    refine ww_irem (pc := 20) X dX0_check_20 (by decide) ?_
    refine ww_istore_n (pc := 21) X (lv' := [(0, .ref (G.2.1 c5_0)), (1, .int c5_1), (3, .int a3)]) dX0_check_21 rfl (by decide) rfl hF (fun x5 ex5 hF => ?_)
    refine ww_iinc (pc := 22) X (j := 3) (v := 1) (lv' := [(2, .int x5), (0, .ref (G.2.1 c5_0)), (1, .int c5_1)]) dX0_check_22 rfl rfl (by decide) rfl hF (fun x6 ex6 hF => ?_)
    refine ww_goto (pc := 25) X (tgt := 5) dX0_check_25 (by decide) ?_
    exact ww_sub [2, 3, 1, 0] rfl (ih5 x5 x6 hF)
set_option maxRecDepth 100000 in
set_option maxHeartbeats 4000000 in
theorem wX0_check {M : gM} {G : gG} {out : Int32} (X : gX M G zC cX0_check RX0 4 wsX0_check rmX0_check (some .int)) {ex : gEx} (hZ : ∀ s : State, G.2.2.2 s → kC ex (gA G zC.1) s) (σ : gS) (p0 : Nat) (p1 : Int32) (hF : fX0_check σ p0 p1 = some out) : WW M (gQi M G zC out σ) G zC 4 σ 0 [(0, .ref (G.2.1 p0)), (1, .int p1)] [] := by
  unfold fX0_check at hF
  refine ww_bipush (pc := 0) X (v := 45) dX0_check_0 (by decide) ?_
  refine ww_istore_n (pc := 2) X (lv' := [(0, .ref (G.2.1 p0)), (1, .int p1)]) dX0_check_2 rfl (by decide) rfl hF (fun x1 ex1 hF => ?_)
  refine ww_iconst (pc := 3) X (v := 0) dX0_check_3 (by decide) ?_
  refine ww_istore_n (pc := 4) X (lv' := [(2, .int x1), (0, .ref (G.2.1 p0)), (1, .int p1)]) dX0_check_4 rfl (by decide) rfl hF (fun x2 ex2 hF => ?_)
  exact ww_sub [2, 3, 1, 0] rfl (lpc_ind (P := (fun (s : Int32 × Int32) => WW M (gQi M G zC out σ) G zC 4 σ 5 [(0, .ref (G.2.1 p0)), (1, .int p1), (2, .int s.1), (3, .int s.2)] [])) (fun rec s ih hF => wbX0_check_5 X hZ σ p0 p1 (fun a2 a3 => rec (a2, a3)) (fun a2 a3 h => ih (a2, a3) h) s.1 s.2 hF) K9 (x1, x2) hF)
set_option maxRecDepth 100000 in
set_option maxHeartbeats 4000000 in
theorem kX0_check (l : Launch) (G : gG) {ex : gEx} (hZ : ∀ s : State, G.2.2.2 s → kC ex (gA G zC.1) s) (hG : gOK G zC.1) (hT : G.2.2.1.map (fun q => q.2) = zC.2.1) (σ : gS) (p0 : Nat) (p1 : Int32) (out : Int32) (hF : fX0_check σ p0 p1 = some out) : gCi l yX0_check wsX0_check rmX0_check G zC [.ref (G.2.1 p0), .int p1] σ out σ :=
  gEnter (by decide) rfl ⟨rfl, rfl⟩ hG hT (Nat.le_of_ble_eq_true rfl) rfl (fun M X hl => wX0_check X hZ σ p0 p1 hF)
noncomputable def bX0_writePair_55_11 (σ : gS) (c2_2 : Int32) (c11_3 : Int32) (rec2 : Int32 → gS → Option (gS)) (rec11 : Int32 → gS → Option (gS)) (a4 : Int32) (σ1 : gS) : Option (gS) :=
  if a4 < 0 then nm (c11_3 + 1 : Int32) fun x5 => rec2 x5 σ1 else gd (gb c11_3 2) <| gd (gb c2_2 6) <| nm (σ1.1 (56 + c11_3.toNatClampNeg) c2_2.toNatClampNeg) fun v7 => bd (fX0_writeByte σ1 ((v7.toUInt32 >>> (a4.toUInt32 &&& Int32.toUInt32 31)).toInt32)) fun σ9 => nm (a4 + (-8) : Int32) fun x10 => rec11 x10 σ9
noncomputable def bX0_writePair_55_2 (σ : gS) (c2_2 : Int32) (rec2 : Int32 → gS → Option (gS)) (a3 : Int32) (σ1 : gS) : Option (gS) :=
  if 2 ≤ a3 then some σ1 else nm (24 : Int32) fun x3 => lpc (S := Int32 × gS) K9 (fun rec s => bX0_writePair_55_11 σ1 c2_2 a3 rec2 (fun a4 σ1 => rec (a4, σ1)) s.1 s.2) (x3, σ1)
noncomputable def fX0_writePair_55 (σ : gS) (p2 : Int32) : Option (gS) :=
  nm (0 : Int32) fun x1 => lpc (S := Int32 × gS) K9 (fun rec s => bX0_writePair_55_2 σ p2 (fun a3 σ1 => rec (a3, σ1)) s.1 s.2) (x1, σ)
noncomputable abbrev rmX0_writePair : Room := { frames := 1, cells := 0, slots := 0, locals := 21 }
set_option maxRecDepth 100000 in
set_option maxHeartbeats 4000000 in
theorem wbX0_writePair_55_11 {M : gM} {G : gG} {out : gS} (X : gX M G zC cX0_writePair RX0 5 wsX0_writePair rmX0_writePair none) {ex : gEx} (hZ : ∀ s : State, G.2.2.2 s → kC ex (gA G zC.1) s) (σ : gS) (c2_2 : Int32) (c11_3 : Int32) (rec2 : Int32 → gS → Option (gS)) (ih2 : ∀ (a3 : Int32) (σ1 : gS), rec2 a3 σ1 = some out → WW M (gQv M G zC out) G zC 5 σ1 2 [(0, .ref (G.2.1 197)), (1, .ref (G.2.1 55)), (2, .int c2_2), (3, .int a3)] []) (rec11 : Int32 → gS → Option (gS)) (ih11 : ∀ (a4 : Int32) (σ1 : gS), rec11 a4 σ1 = some out → WW M (gQv M G zC out) G zC 5 σ1 11 [(0, .ref (G.2.1 197)), (1, .ref (G.2.1 55)), (2, .int c2_2), (3, .int c11_3), (4, .int a4)] []) (a4 : Int32) (σ1 : gS) (hF : bX0_writePair_55_11 σ c2_2 c11_3 rec2 rec11 a4 σ1 = some out) : WW M (gQv M G zC out) G zC 5 σ1 11 [(0, .ref (G.2.1 197)), (1, .ref (G.2.1 55)), (2, .int c2_2), (3, .int c11_3), (4, .int a4)] [] := by
  unfold bX0_writePair_55_11 at hF
  refine ww_iload (pc := 11) X (j := 4) dX0_writePair_11 rfl ?_
  refine ww_if_lt (pc := 13) (tgt := 34) X dX0_writePair_13 (by decide) hF (fun h4 hF => ?_) (fun h4 hF => ?_)
  · refine ww_iinc (pc := 34) X (j := 3) (v := 1) (lv' := [(0, .ref (G.2.1 197)), (1, .ref (G.2.1 55)), (2, .int c2_2), (4, .int a4)]) dX0_writePair_34 rfl rfl (by decide) rfl hF (fun x5 ex5 hF => ?_)
    refine ww_goto (pc := 37) X (tgt := 2) dX0_writePair_37 (by decide) ?_
    exact ww_sub [1, 2, 3, 0] rfl (ih2 x5 σ1 hF)
  · refine ww_aload_n (pc := 16) X (j := 0) dX0_writePair_16 rfl rfl ?_
    refine ww_aload_n (pc := 17) X (j := 1) dX0_writePair_17 rfl rfl ?_
    refine ww_iload_n (pc := 18) X (j := 3) dX0_writePair_18 rfl rfl ?_
    refine ww_aald (pc := 19) X dX0_writePair_19 shzC_55 rfl hF (fun h6 hF => ?_)
    refine ww_iload_n (pc := 20) X (j := 2) dX0_writePair_20 rfl rfl ?_
    refine ww_iald (pc := 21) X dX0_writePair_21 (rwzC_55 _ (gb_lt h6)) rfl hF (fun v7 ev7 bv7 hF => ?_)
    refine ww_iload (pc := 22) X (j := 4) dX0_writePair_22 rfl ?_
    refine ww_iushr (pc := 24) X dX0_writePair_24 ?_
    obtain ⟨σ9, h8, hF⟩ := bd_some hF
    refine ww_callVv (pc := 25) X (As := [.int ((v7.toUInt32 >>> (a4.toUInt32 &&& Int32.toUInt32 31)).toInt32)]) (rest := []) dX0_writePair_25 (kX0_writeByte (mL M) G hZ X.2.2.2.2.2.2.1 X.2.2.2.2.2.2.2.1 σ1 ((v7.toUInt32 >>> (a4.toUInt32 &&& Int32.toUInt32 31)).toInt32) σ9 h8) rfl shzC_197 clzC_0 gX0_writePair_X0_writeByte hyX0_writeByte ⟨rfl, rfl⟩ ⟨Nat.le_of_ble_eq_true rfl, Nat.le_of_ble_eq_true rfl⟩ rfl rfl (Nat.le_of_ble_eq_true rfl) ?_
    refine ww_iinc (pc := 28) X (j := 4) (v := (-8)) (lv' := [(0, .ref (G.2.1 197)), (1, .ref (G.2.1 55)), (2, .int c2_2), (3, .int c11_3)]) dX0_writePair_28 rfl rfl (by decide) rfl hF (fun x10 ex10 hF => ?_)
    refine ww_goto (pc := 31) X (tgt := 11) dX0_writePair_31 (by decide) ?_
    exact ww_sub [1, 2, 3, 4, 0] rfl (ih11 x10 σ9 hF)
set_option maxRecDepth 100000 in
set_option maxHeartbeats 4000000 in
theorem wbX0_writePair_55_2 {M : gM} {G : gG} {out : gS} (X : gX M G zC cX0_writePair RX0 5 wsX0_writePair rmX0_writePair none) {ex : gEx} (hZ : ∀ s : State, G.2.2.2 s → kC ex (gA G zC.1) s) (σ : gS) (c2_2 : Int32) (rec2 : Int32 → gS → Option (gS)) (ih2 : ∀ (a3 : Int32) (σ1 : gS), rec2 a3 σ1 = some out → WW M (gQv M G zC out) G zC 5 σ1 2 [(0, .ref (G.2.1 197)), (1, .ref (G.2.1 55)), (2, .int c2_2), (3, .int a3)] []) (a3 : Int32) (σ1 : gS) (hF : bX0_writePair_55_2 σ c2_2 rec2 a3 σ1 = some out) : WW M (gQv M G zC out) G zC 5 σ1 2 [(0, .ref (G.2.1 197)), (1, .ref (G.2.1 55)), (2, .int c2_2), (3, .int a3)] [] := by
  unfold bX0_writePair_55_2 at hF
  refine ww_iload_n (pc := 2) X (j := 3) dX0_writePair_2 rfl rfl ?_
  refine ww_iconst (pc := 3) X (v := 2) dX0_writePair_3 (by decide) ?_
  refine ww_icmp_ge (pc := 4) (tgt := 40) X dX0_writePair_4 (by decide) hF (fun h2 hF => ?_) (fun h2 hF => ?_)
  · exact ww_vret (pc := 40) X dX0_writePair_40 (by cases hF; rfl)
  · refine ww_bipush (pc := 7) X (v := 24) dX0_writePair_7 (by decide) ?_
    refine ww_istore (pc := 9) X (lv' := [(0, .ref (G.2.1 197)), (1, .ref (G.2.1 55)), (2, .int c2_2), (3, .int a3)]) dX0_writePair_9 (by decide) rfl hF (fun x3 ex3 hF => ?_)
    exact ww_sub [1, 2, 3, 4, 0] rfl (lpc_ind (P := (fun (s : Int32 × gS) => WW M (gQv M G zC out) G zC 5 s.2 11 [(0, .ref (G.2.1 197)), (1, .ref (G.2.1 55)), (2, .int c2_2), (3, .int a3), (4, .int s.1)] [])) (fun rec s ih hF => wbX0_writePair_55_11 X hZ σ1 c2_2 a3 rec2  ih2 (fun a4 σ1 => rec (a4, σ1)) (fun a4 σ1 h => ih (a4, σ1) h) s.1 s.2 hF) K9 (x3, σ1) hF)
set_option maxRecDepth 100000 in
set_option maxHeartbeats 4000000 in
theorem wX0_writePair_55 {M : gM} {G : gG} {out : gS} (X : gX M G zC cX0_writePair RX0 5 wsX0_writePair rmX0_writePair none) {ex : gEx} (hZ : ∀ s : State, G.2.2.2 s → kC ex (gA G zC.1) s) (σ : gS) (p2 : Int32) (hF : fX0_writePair_55 σ p2 = some out) : WW M (gQv M G zC out) G zC 5 σ 0 [(0, .ref (G.2.1 197)), (1, .ref (G.2.1 55)), (2, .int p2)] [] := by
  unfold fX0_writePair_55 at hF
  refine ww_iconst (pc := 0) X (v := 0) dX0_writePair_0 (by decide) ?_
  refine ww_istore_n (pc := 1) X (lv' := [(0, .ref (G.2.1 197)), (1, .ref (G.2.1 55)), (2, .int p2)]) dX0_writePair_1 rfl (by decide) rfl hF (fun x1 ex1 hF => ?_)
  exact ww_sub [1, 2, 3, 0] rfl (lpc_ind (P := (fun (s : Int32 × gS) => WW M (gQv M G zC out) G zC 5 s.2 2 [(0, .ref (G.2.1 197)), (1, .ref (G.2.1 55)), (2, .int p2), (3, .int s.1)] [])) (fun rec s ih hF => wbX0_writePair_55_2 X hZ σ p2 (fun a3 σ1 => rec (a3, σ1)) (fun a3 σ1 h => ih (a3, σ1) h) s.1 s.2 hF) K9 (x1, σ) hF)
set_option maxRecDepth 100000 in
set_option maxHeartbeats 4000000 in
theorem kX0_writePair_55 (l : Launch) (G : gG) {ex : gEx} (hZ : ∀ s : State, G.2.2.2 s → kC ex (gA G zC.1) s) (hG : gOK G zC.1) (hT : G.2.2.1.map (fun q => q.2) = zC.2.1) (σ : gS) (p2 : Int32) (out : gS) (hF : fX0_writePair_55 σ p2 = some out) : gCv l yX0_writePair wsX0_writePair rmX0_writePair G zC [.ref (G.2.1 197), .ref (G.2.1 55), .int p2] σ out :=
  gEnter (by decide) rfl ⟨rfl, rfl⟩ hG hT (Nat.le_of_ble_eq_true rfl) rfl (fun M X hl => wX0_writePair_55 X hZ σ p2 hF)
noncomputable def bX0_writePair_52_11 (σ : gS) (c2_2 : Int32) (c11_3 : Int32) (rec2 : Int32 → gS → Option (gS)) (rec11 : Int32 → gS → Option (gS)) (a4 : Int32) (σ1 : gS) : Option (gS) :=
  if a4 < 0 then nm (c11_3 + 1 : Int32) fun x5 => rec2 x5 σ1 else gd (gb c11_3 2) <| gd (gb c2_2 20) <| nm (σ1.1 (53 + c11_3.toNatClampNeg) c2_2.toNatClampNeg) fun v7 => bd (fX0_writeByte σ1 ((v7.toUInt32 >>> (a4.toUInt32 &&& Int32.toUInt32 31)).toInt32)) fun σ9 => nm (a4 + (-8) : Int32) fun x10 => rec11 x10 σ9
noncomputable def bX0_writePair_52_2 (σ : gS) (c2_2 : Int32) (rec2 : Int32 → gS → Option (gS)) (a3 : Int32) (σ1 : gS) : Option (gS) :=
  if 2 ≤ a3 then some σ1 else nm (24 : Int32) fun x3 => lpc (S := Int32 × gS) K9 (fun rec s => bX0_writePair_52_11 σ1 c2_2 a3 rec2 (fun a4 σ1 => rec (a4, σ1)) s.1 s.2) (x3, σ1)
noncomputable def fX0_writePair_52 (σ : gS) (p2 : Int32) : Option (gS) :=
  nm (0 : Int32) fun x1 => lpc (S := Int32 × gS) K9 (fun rec s => bX0_writePair_52_2 σ p2 (fun a3 σ1 => rec (a3, σ1)) s.1 s.2) (x1, σ)
set_option maxRecDepth 100000 in
set_option maxHeartbeats 4000000 in
theorem wbX0_writePair_52_11 {M : gM} {G : gG} {out : gS} (X : gX M G zC cX0_writePair RX0 5 wsX0_writePair rmX0_writePair none) {ex : gEx} (hZ : ∀ s : State, G.2.2.2 s → kC ex (gA G zC.1) s) (σ : gS) (c2_2 : Int32) (c11_3 : Int32) (rec2 : Int32 → gS → Option (gS)) (ih2 : ∀ (a3 : Int32) (σ1 : gS), rec2 a3 σ1 = some out → WW M (gQv M G zC out) G zC 5 σ1 2 [(0, .ref (G.2.1 197)), (1, .ref (G.2.1 52)), (2, .int c2_2), (3, .int a3)] []) (rec11 : Int32 → gS → Option (gS)) (ih11 : ∀ (a4 : Int32) (σ1 : gS), rec11 a4 σ1 = some out → WW M (gQv M G zC out) G zC 5 σ1 11 [(0, .ref (G.2.1 197)), (1, .ref (G.2.1 52)), (2, .int c2_2), (3, .int c11_3), (4, .int a4)] []) (a4 : Int32) (σ1 : gS) (hF : bX0_writePair_52_11 σ c2_2 c11_3 rec2 rec11 a4 σ1 = some out) : WW M (gQv M G zC out) G zC 5 σ1 11 [(0, .ref (G.2.1 197)), (1, .ref (G.2.1 52)), (2, .int c2_2), (3, .int c11_3), (4, .int a4)] [] := by
  unfold bX0_writePair_52_11 at hF
  refine ww_iload (pc := 11) X (j := 4) dX0_writePair_11 rfl ?_
  refine ww_if_lt (pc := 13) (tgt := 34) X dX0_writePair_13 (by decide) hF (fun h4 hF => ?_) (fun h4 hF => ?_)
  · refine ww_iinc (pc := 34) X (j := 3) (v := 1) (lv' := [(0, .ref (G.2.1 197)), (1, .ref (G.2.1 52)), (2, .int c2_2), (4, .int a4)]) dX0_writePair_34 rfl rfl (by decide) rfl hF (fun x5 ex5 hF => ?_)
    refine ww_goto (pc := 37) X (tgt := 2) dX0_writePair_37 (by decide) ?_
    exact ww_sub [1, 2, 3, 0] rfl (ih2 x5 σ1 hF)
  · refine ww_aload_n (pc := 16) X (j := 0) dX0_writePair_16 rfl rfl ?_
    refine ww_aload_n (pc := 17) X (j := 1) dX0_writePair_17 rfl rfl ?_
    refine ww_iload_n (pc := 18) X (j := 3) dX0_writePair_18 rfl rfl ?_
    refine ww_aald (pc := 19) X dX0_writePair_19 shzC_52 rfl hF (fun h6 hF => ?_)
    refine ww_iload_n (pc := 20) X (j := 2) dX0_writePair_20 rfl rfl ?_
    refine ww_iald (pc := 21) X dX0_writePair_21 (rwzC_52 _ (gb_lt h6)) rfl hF (fun v7 ev7 bv7 hF => ?_)
    refine ww_iload (pc := 22) X (j := 4) dX0_writePair_22 rfl ?_
    refine ww_iushr (pc := 24) X dX0_writePair_24 ?_
    obtain ⟨σ9, h8, hF⟩ := bd_some hF
    refine ww_callVv (pc := 25) X (As := [.int ((v7.toUInt32 >>> (a4.toUInt32 &&& Int32.toUInt32 31)).toInt32)]) (rest := []) dX0_writePair_25 (kX0_writeByte (mL M) G hZ X.2.2.2.2.2.2.1 X.2.2.2.2.2.2.2.1 σ1 ((v7.toUInt32 >>> (a4.toUInt32 &&& Int32.toUInt32 31)).toInt32) σ9 h8) rfl shzC_197 clzC_0 gX0_writePair_X0_writeByte hyX0_writeByte ⟨rfl, rfl⟩ ⟨Nat.le_of_ble_eq_true rfl, Nat.le_of_ble_eq_true rfl⟩ rfl rfl (Nat.le_of_ble_eq_true rfl) ?_
    refine ww_iinc (pc := 28) X (j := 4) (v := (-8)) (lv' := [(0, .ref (G.2.1 197)), (1, .ref (G.2.1 52)), (2, .int c2_2), (3, .int c11_3)]) dX0_writePair_28 rfl rfl (by decide) rfl hF (fun x10 ex10 hF => ?_)
    refine ww_goto (pc := 31) X (tgt := 11) dX0_writePair_31 (by decide) ?_
    exact ww_sub [1, 2, 3, 4, 0] rfl (ih11 x10 σ9 hF)
set_option maxRecDepth 100000 in
set_option maxHeartbeats 4000000 in
theorem wbX0_writePair_52_2 {M : gM} {G : gG} {out : gS} (X : gX M G zC cX0_writePair RX0 5 wsX0_writePair rmX0_writePair none) {ex : gEx} (hZ : ∀ s : State, G.2.2.2 s → kC ex (gA G zC.1) s) (σ : gS) (c2_2 : Int32) (rec2 : Int32 → gS → Option (gS)) (ih2 : ∀ (a3 : Int32) (σ1 : gS), rec2 a3 σ1 = some out → WW M (gQv M G zC out) G zC 5 σ1 2 [(0, .ref (G.2.1 197)), (1, .ref (G.2.1 52)), (2, .int c2_2), (3, .int a3)] []) (a3 : Int32) (σ1 : gS) (hF : bX0_writePair_52_2 σ c2_2 rec2 a3 σ1 = some out) : WW M (gQv M G zC out) G zC 5 σ1 2 [(0, .ref (G.2.1 197)), (1, .ref (G.2.1 52)), (2, .int c2_2), (3, .int a3)] [] := by
  unfold bX0_writePair_52_2 at hF
  refine ww_iload_n (pc := 2) X (j := 3) dX0_writePair_2 rfl rfl ?_
  refine ww_iconst (pc := 3) X (v := 2) dX0_writePair_3 (by decide) ?_
  refine ww_icmp_ge (pc := 4) (tgt := 40) X dX0_writePair_4 (by decide) hF (fun h2 hF => ?_) (fun h2 hF => ?_)
  · exact ww_vret (pc := 40) X dX0_writePair_40 (by cases hF; rfl)
  · refine ww_bipush (pc := 7) X (v := 24) dX0_writePair_7 (by decide) ?_
    refine ww_istore (pc := 9) X (lv' := [(0, .ref (G.2.1 197)), (1, .ref (G.2.1 52)), (2, .int c2_2), (3, .int a3)]) dX0_writePair_9 (by decide) rfl hF (fun x3 ex3 hF => ?_)
    exact ww_sub [1, 2, 3, 4, 0] rfl (lpc_ind (P := (fun (s : Int32 × gS) => WW M (gQv M G zC out) G zC 5 s.2 11 [(0, .ref (G.2.1 197)), (1, .ref (G.2.1 52)), (2, .int c2_2), (3, .int a3), (4, .int s.1)] [])) (fun rec s ih hF => wbX0_writePair_52_11 X hZ σ1 c2_2 a3 rec2  ih2 (fun a4 σ1 => rec (a4, σ1)) (fun a4 σ1 h => ih (a4, σ1) h) s.1 s.2 hF) K9 (x3, σ1) hF)
set_option maxRecDepth 100000 in
set_option maxHeartbeats 4000000 in
theorem wX0_writePair_52 {M : gM} {G : gG} {out : gS} (X : gX M G zC cX0_writePair RX0 5 wsX0_writePair rmX0_writePair none) {ex : gEx} (hZ : ∀ s : State, G.2.2.2 s → kC ex (gA G zC.1) s) (σ : gS) (p2 : Int32) (hF : fX0_writePair_52 σ p2 = some out) : WW M (gQv M G zC out) G zC 5 σ 0 [(0, .ref (G.2.1 197)), (1, .ref (G.2.1 52)), (2, .int p2)] [] := by
  unfold fX0_writePair_52 at hF
  refine ww_iconst (pc := 0) X (v := 0) dX0_writePair_0 (by decide) ?_
  refine ww_istore_n (pc := 1) X (lv' := [(0, .ref (G.2.1 197)), (1, .ref (G.2.1 52)), (2, .int p2)]) dX0_writePair_1 rfl (by decide) rfl hF (fun x1 ex1 hF => ?_)
  exact ww_sub [1, 2, 3, 0] rfl (lpc_ind (P := (fun (s : Int32 × gS) => WW M (gQv M G zC out) G zC 5 s.2 2 [(0, .ref (G.2.1 197)), (1, .ref (G.2.1 52)), (2, .int p2), (3, .int s.1)] [])) (fun rec s ih hF => wbX0_writePair_52_2 X hZ σ p2 (fun a3 σ1 => rec (a3, σ1)) (fun a3 σ1 h => ih (a3, σ1) h) s.1 s.2 hF) K9 (x1, σ) hF)
set_option maxRecDepth 100000 in
set_option maxHeartbeats 4000000 in
theorem kX0_writePair_52 (l : Launch) (G : gG) {ex : gEx} (hZ : ∀ s : State, G.2.2.2 s → kC ex (gA G zC.1) s) (hG : gOK G zC.1) (hT : G.2.2.1.map (fun q => q.2) = zC.2.1) (σ : gS) (p2 : Int32) (out : gS) (hF : fX0_writePair_52 σ p2 = some out) : gCv l yX0_writePair wsX0_writePair rmX0_writePair G zC [.ref (G.2.1 197), .ref (G.2.1 52), .int p2] σ out :=
  gEnter (by decide) rfl ⟨rfl, rfl⟩ hG hT (Nat.le_of_ble_eq_true rfl) rfl (fun M X hl => wX0_writePair_52 X hZ σ p2 hF)
noncomputable def bX0_writePair_49_11 (σ : gS) (c2_2 : Int32) (c11_3 : Int32) (rec2 : Int32 → gS → Option (gS)) (rec11 : Int32 → gS → Option (gS)) (a4 : Int32) (σ1 : gS) : Option (gS) :=
  if a4 < 0 then nm (c11_3 + 1 : Int32) fun x5 => rec2 x5 σ1 else gd (gb c11_3 2) <| gd (gb c2_2 12) <| nm (σ1.1 (50 + c11_3.toNatClampNeg) c2_2.toNatClampNeg) fun v7 => bd (fX0_writeByte σ1 ((v7.toUInt32 >>> (a4.toUInt32 &&& Int32.toUInt32 31)).toInt32)) fun σ9 => nm (a4 + (-8) : Int32) fun x10 => rec11 x10 σ9
noncomputable def bX0_writePair_49_2 (σ : gS) (c2_2 : Int32) (rec2 : Int32 → gS → Option (gS)) (a3 : Int32) (σ1 : gS) : Option (gS) :=
  if 2 ≤ a3 then some σ1 else nm (24 : Int32) fun x3 => lpc (S := Int32 × gS) K9 (fun rec s => bX0_writePair_49_11 σ1 c2_2 a3 rec2 (fun a4 σ1 => rec (a4, σ1)) s.1 s.2) (x3, σ1)
noncomputable def fX0_writePair_49 (σ : gS) (p2 : Int32) : Option (gS) :=
  nm (0 : Int32) fun x1 => lpc (S := Int32 × gS) K9 (fun rec s => bX0_writePair_49_2 σ p2 (fun a3 σ1 => rec (a3, σ1)) s.1 s.2) (x1, σ)
set_option maxRecDepth 100000 in
set_option maxHeartbeats 4000000 in
theorem wbX0_writePair_49_11 {M : gM} {G : gG} {out : gS} (X : gX M G zC cX0_writePair RX0 5 wsX0_writePair rmX0_writePair none) {ex : gEx} (hZ : ∀ s : State, G.2.2.2 s → kC ex (gA G zC.1) s) (σ : gS) (c2_2 : Int32) (c11_3 : Int32) (rec2 : Int32 → gS → Option (gS)) (ih2 : ∀ (a3 : Int32) (σ1 : gS), rec2 a3 σ1 = some out → WW M (gQv M G zC out) G zC 5 σ1 2 [(0, .ref (G.2.1 197)), (1, .ref (G.2.1 49)), (2, .int c2_2), (3, .int a3)] []) (rec11 : Int32 → gS → Option (gS)) (ih11 : ∀ (a4 : Int32) (σ1 : gS), rec11 a4 σ1 = some out → WW M (gQv M G zC out) G zC 5 σ1 11 [(0, .ref (G.2.1 197)), (1, .ref (G.2.1 49)), (2, .int c2_2), (3, .int c11_3), (4, .int a4)] []) (a4 : Int32) (σ1 : gS) (hF : bX0_writePair_49_11 σ c2_2 c11_3 rec2 rec11 a4 σ1 = some out) : WW M (gQv M G zC out) G zC 5 σ1 11 [(0, .ref (G.2.1 197)), (1, .ref (G.2.1 49)), (2, .int c2_2), (3, .int c11_3), (4, .int a4)] [] := by
  unfold bX0_writePair_49_11 at hF
  refine ww_iload (pc := 11) X (j := 4) dX0_writePair_11 rfl ?_
  refine ww_if_lt (pc := 13) (tgt := 34) X dX0_writePair_13 (by decide) hF (fun h4 hF => ?_) (fun h4 hF => ?_)
  · refine ww_iinc (pc := 34) X (j := 3) (v := 1) (lv' := [(0, .ref (G.2.1 197)), (1, .ref (G.2.1 49)), (2, .int c2_2), (4, .int a4)]) dX0_writePair_34 rfl rfl (by decide) rfl hF (fun x5 ex5 hF => ?_)
    refine ww_goto (pc := 37) X (tgt := 2) dX0_writePair_37 (by decide) ?_
    exact ww_sub [1, 2, 3, 0] rfl (ih2 x5 σ1 hF)
  · refine ww_aload_n (pc := 16) X (j := 0) dX0_writePair_16 rfl rfl ?_
    refine ww_aload_n (pc := 17) X (j := 1) dX0_writePair_17 rfl rfl ?_
    refine ww_iload_n (pc := 18) X (j := 3) dX0_writePair_18 rfl rfl ?_
    refine ww_aald (pc := 19) X dX0_writePair_19 shzC_49 rfl hF (fun h6 hF => ?_)
    refine ww_iload_n (pc := 20) X (j := 2) dX0_writePair_20 rfl rfl ?_
    refine ww_iald (pc := 21) X dX0_writePair_21 (rwzC_49 _ (gb_lt h6)) rfl hF (fun v7 ev7 bv7 hF => ?_)
    refine ww_iload (pc := 22) X (j := 4) dX0_writePair_22 rfl ?_
    refine ww_iushr (pc := 24) X dX0_writePair_24 ?_
    obtain ⟨σ9, h8, hF⟩ := bd_some hF
    refine ww_callVv (pc := 25) X (As := [.int ((v7.toUInt32 >>> (a4.toUInt32 &&& Int32.toUInt32 31)).toInt32)]) (rest := []) dX0_writePair_25 (kX0_writeByte (mL M) G hZ X.2.2.2.2.2.2.1 X.2.2.2.2.2.2.2.1 σ1 ((v7.toUInt32 >>> (a4.toUInt32 &&& Int32.toUInt32 31)).toInt32) σ9 h8) rfl shzC_197 clzC_0 gX0_writePair_X0_writeByte hyX0_writeByte ⟨rfl, rfl⟩ ⟨Nat.le_of_ble_eq_true rfl, Nat.le_of_ble_eq_true rfl⟩ rfl rfl (Nat.le_of_ble_eq_true rfl) ?_
    refine ww_iinc (pc := 28) X (j := 4) (v := (-8)) (lv' := [(0, .ref (G.2.1 197)), (1, .ref (G.2.1 49)), (2, .int c2_2), (3, .int c11_3)]) dX0_writePair_28 rfl rfl (by decide) rfl hF (fun x10 ex10 hF => ?_)
    refine ww_goto (pc := 31) X (tgt := 11) dX0_writePair_31 (by decide) ?_
    exact ww_sub [1, 2, 3, 4, 0] rfl (ih11 x10 σ9 hF)
set_option maxRecDepth 100000 in
set_option maxHeartbeats 4000000 in
theorem wbX0_writePair_49_2 {M : gM} {G : gG} {out : gS} (X : gX M G zC cX0_writePair RX0 5 wsX0_writePair rmX0_writePair none) {ex : gEx} (hZ : ∀ s : State, G.2.2.2 s → kC ex (gA G zC.1) s) (σ : gS) (c2_2 : Int32) (rec2 : Int32 → gS → Option (gS)) (ih2 : ∀ (a3 : Int32) (σ1 : gS), rec2 a3 σ1 = some out → WW M (gQv M G zC out) G zC 5 σ1 2 [(0, .ref (G.2.1 197)), (1, .ref (G.2.1 49)), (2, .int c2_2), (3, .int a3)] []) (a3 : Int32) (σ1 : gS) (hF : bX0_writePair_49_2 σ c2_2 rec2 a3 σ1 = some out) : WW M (gQv M G zC out) G zC 5 σ1 2 [(0, .ref (G.2.1 197)), (1, .ref (G.2.1 49)), (2, .int c2_2), (3, .int a3)] [] := by
  unfold bX0_writePair_49_2 at hF
  refine ww_iload_n (pc := 2) X (j := 3) dX0_writePair_2 rfl rfl ?_
  refine ww_iconst (pc := 3) X (v := 2) dX0_writePair_3 (by decide) ?_
  refine ww_icmp_ge (pc := 4) (tgt := 40) X dX0_writePair_4 (by decide) hF (fun h2 hF => ?_) (fun h2 hF => ?_)
  · exact ww_vret (pc := 40) X dX0_writePair_40 (by cases hF; rfl)
  · refine ww_bipush (pc := 7) X (v := 24) dX0_writePair_7 (by decide) ?_
    refine ww_istore (pc := 9) X (lv' := [(0, .ref (G.2.1 197)), (1, .ref (G.2.1 49)), (2, .int c2_2), (3, .int a3)]) dX0_writePair_9 (by decide) rfl hF (fun x3 ex3 hF => ?_)
    exact ww_sub [1, 2, 3, 4, 0] rfl (lpc_ind (P := (fun (s : Int32 × gS) => WW M (gQv M G zC out) G zC 5 s.2 11 [(0, .ref (G.2.1 197)), (1, .ref (G.2.1 49)), (2, .int c2_2), (3, .int a3), (4, .int s.1)] [])) (fun rec s ih hF => wbX0_writePair_49_11 X hZ σ1 c2_2 a3 rec2  ih2 (fun a4 σ1 => rec (a4, σ1)) (fun a4 σ1 h => ih (a4, σ1) h) s.1 s.2 hF) K9 (x3, σ1) hF)
set_option maxRecDepth 100000 in
set_option maxHeartbeats 4000000 in
theorem wX0_writePair_49 {M : gM} {G : gG} {out : gS} (X : gX M G zC cX0_writePair RX0 5 wsX0_writePair rmX0_writePair none) {ex : gEx} (hZ : ∀ s : State, G.2.2.2 s → kC ex (gA G zC.1) s) (σ : gS) (p2 : Int32) (hF : fX0_writePair_49 σ p2 = some out) : WW M (gQv M G zC out) G zC 5 σ 0 [(0, .ref (G.2.1 197)), (1, .ref (G.2.1 49)), (2, .int p2)] [] := by
  unfold fX0_writePair_49 at hF
  refine ww_iconst (pc := 0) X (v := 0) dX0_writePair_0 (by decide) ?_
  refine ww_istore_n (pc := 1) X (lv' := [(0, .ref (G.2.1 197)), (1, .ref (G.2.1 49)), (2, .int p2)]) dX0_writePair_1 rfl (by decide) rfl hF (fun x1 ex1 hF => ?_)
  exact ww_sub [1, 2, 3, 0] rfl (lpc_ind (P := (fun (s : Int32 × gS) => WW M (gQv M G zC out) G zC 5 s.2 2 [(0, .ref (G.2.1 197)), (1, .ref (G.2.1 49)), (2, .int p2), (3, .int s.1)] [])) (fun rec s ih hF => wbX0_writePair_49_2 X hZ σ p2 (fun a3 σ1 => rec (a3, σ1)) (fun a3 σ1 h => ih (a3, σ1) h) s.1 s.2 hF) K9 (x1, σ) hF)
set_option maxRecDepth 100000 in
set_option maxHeartbeats 4000000 in
theorem kX0_writePair_49 (l : Launch) (G : gG) {ex : gEx} (hZ : ∀ s : State, G.2.2.2 s → kC ex (gA G zC.1) s) (hG : gOK G zC.1) (hT : G.2.2.1.map (fun q => q.2) = zC.2.1) (σ : gS) (p2 : Int32) (out : gS) (hF : fX0_writePair_49 σ p2 = some out) : gCv l yX0_writePair wsX0_writePair rmX0_writePair G zC [.ref (G.2.1 197), .ref (G.2.1 49), .int p2] σ out :=
  gEnter (by decide) rfl ⟨rfl, rfl⟩ hG hT (Nat.le_of_ble_eq_true rfl) rfl (fun M X hl => wX0_writePair_49 X hZ σ p2 hF)
noncomputable def bX0_write_47_115 (σ : gS) (rec115 : Int32 → gS → Option (Int32 × gS)) (a2 : Int32) (σ1 : gS) : Option (Int32 × gS) :=
  gd (gb 3 6) <| nm (σ1.1 3 ((3 : Int32).toNatClampNeg)) fun v14 => (if v14 ≤ a2 then bd (fX0_check σ1 198 (σ1.1 197 2)) fun r17 => bd (fX0_writeByte σ1 r17) fun σ19 => some (σ19.1 197 2, σ19) else gd (gb a2 60) <| nm (σ1.1 58 a2.toNatClampNeg) fun v20 => bd (fX0_writeByte σ1 v20) fun σ22 => nm (a2 + 1 : Int32) fun x23 => rec115 x23 σ22)
noncomputable def bX0_write_47_85 (σ : gS) (rec85 : Int32 → gS → Option (Int32 × gS)) (a2 : Int32) (σ1 : gS) : Option (Int32 × gS) :=
  gd (gb 0 6) <| nm (σ1.1 3 ((0 : Int32).toNatClampNeg)) fun v11 => (if v11 ≤ a2 then nm (0 : Int32) fun x13 => lpc (S := Int32 × gS) K9 (fun rec s => bX0_write_47_115 σ1 (fun a2 σ1 => rec (a2, σ1)) s.1 s.2) (x13, σ1) else bd (fX0_writePair_55 σ1 a2) fun σ25 => nm (a2 + 1 : Int32) fun x26 => rec85 x26 σ25)
noncomputable def bX0_write_47_55 (σ : gS) (rec55 : Int32 → gS → Option (Int32 × gS)) (a2 : Int32) (σ1 : gS) : Option (Int32 × gS) :=
  gd (gb 2 6) <| nm (σ1.1 3 ((2 : Int32).toNatClampNeg)) fun v8 => (if v8 ≤ a2 then nm (0 : Int32) fun x10 => lpc (S := Int32 × gS) K9 (fun rec s => bX0_write_47_85 σ1 (fun a2 σ1 => rec (a2, σ1)) s.1 s.2) (x10, σ1) else bd (fX0_writePair_52 σ1 a2) fun σ28 => nm (a2 + 1 : Int32) fun x29 => rec55 x29 σ28)
noncomputable def bX0_write_47_15 (σ : gS) (rec15 : Int32 → gS → Option (Int32 × gS)) (a2 : Int32) (σ1 : gS) : Option (Int32 × gS) :=
  gd (gb 1 6) <| nm (σ1.1 3 ((1 : Int32).toNatClampNeg)) fun v5 => (if v5 ≤ a2 then nm (0 : Int32) fun x7 => lpc (S := Int32 × gS) K9 (fun rec s => bX0_write_47_55 σ1 (fun a2 σ1 => rec (a2, σ1)) s.1 s.2) (x7, σ1) else gd (gb a2 12) <| nm (σ1.1 48 a2.toNatClampNeg) fun v30 => bd (fX0_writeByte σ1 v30) fun σ32 => bd (fX0_writePair_49 σ32 a2) fun σ34 => nm (a2 + 1 : Int32) fun x35 => rec15 x35 σ34)
noncomputable def fX0_write_47 (σ : gS) : Option (Int32 × gS) :=
  nm (gsI σ 197 2 0) fun σ1 => bd (fX0_writeByte σ1 (σ1.1 47 1)) fun σ3 => nm (0 : Int32) fun x4 => lpc (S := Int32 × gS) K9 (fun rec s => bX0_write_47_15 σ3 (fun a2 σ1 => rec (a2, σ1)) s.1 s.2) (x4, σ3)
noncomputable abbrev rmX0_write : Room := { frames := 2, cells := 0, slots := 0, locals := 45 }
set_option maxRecDepth 100000 in
set_option maxHeartbeats 4000000 in
theorem wbX0_write_47_115 {M : gM} {G : gG} {out : Int32 × gS} (X : gX M G zC cX0_write RX0 3 wsX0_write rmX0_write (some .int)) {ex : gEx} (hZ : ∀ s : State, G.2.2.2 s → kC ex (gA G zC.1) s) (σ : gS) (rec115 : Int32 → gS → Option (Int32 × gS)) (ih115 : ∀ (a2 : Int32) (σ1 : gS), rec115 a2 σ1 = some out → WW M (gQi M G zC out.1 out.2) G zC 3 σ1 115 [(0, .ref (G.2.1 197)), (1, .ref (G.2.1 47)), (2, .int a2)] []) (a2 : Int32) (σ1 : gS) (hF : bX0_write_47_115 σ rec115 a2 σ1 = some out) : WW M (gQi M G zC out.1 out.2) G zC 3 σ1 115 [(0, .ref (G.2.1 197)), (1, .ref (G.2.1 47)), (2, .int a2)] [] := by
  unfold bX0_write_47_115 at hF
  refine ww_iload_n (pc := 115) X (j := 2) dX0_write_115 rfl rfl ?_
  refine ww_aload_n (pc := 116) X (j := 0) dX0_write_116 rfl rfl ?_
  refine ww_get (pc := 117) X (ref := "PictureBlock$Imager") (T := TX0) (j := 0) dX0_write_117 inX0_write_RX0 shzC_197 clzC_0 (by decide) rfl (List.mem_of_getElem? (i := 3) rfl) rfl ?_
  refine ww_get (pc := 120) X (ref := "PictureBlock$Told") (T := TX8) (j := 0) dX0_write_120 inX0_write_RX8 shzC_2 clzC_8 (by decide) rfl (List.mem_of_getElem? (i := 4) rfl) rfl ?_
  refine ww_iconst (pc := 123) X (v := 3) dX0_write_123 (by decide) ?_
  refine ww_iald (pc := 124) X dX0_write_124 shzC_3 rfl hF (fun v14 ev14 bv14 hF => ?_)
  refine ww_icmp_ge (pc := 125) (tgt := 144) X dX0_write_125 (by decide) hF (fun h15 hF => ?_) (fun h15 hF => ?_)
  · refine ww_aload_n (pc := 144) X (j := 0) dX0_write_144 rfl rfl ?_
    refine ww_aload_n (pc := 145) X (j := 0) dX0_write_145 rfl rfl ?_
    refine ww_get (pc := 146) X (ref := "PictureBlock$Imager") (T := TX0) (j := 1) dX0_write_146 inX0_write_RX0 shzC_197 clzC_0 (by decide) rfl (List.mem_of_getElem? (i := 10) rfl) rfl ?_
    refine ww_aload_n (pc := 149) X (j := 0) dX0_write_149 rfl rfl ?_
    refine ww_get (pc := 150) X (ref := "PictureBlock$Imager") (T := TX0) (j := 2) dX0_write_150 inX0_write_RX0 shzC_197 clzC_0 (by decide) rfl (List.mem_of_getElem? (i := 1) rfl) rfl ?_
    obtain ⟨r17, h16, hF⟩ := bd_some hF
    refine ww_callSi (pc := 153) X (As := [.ref (G.2.1 198), .int (σ1.1 197 2)]) (rest := [.ref (G.2.1 197)]) dX0_write_153 (kX0_check (mL M) G hZ X.2.2.2.2.2.2.1 X.2.2.2.2.2.2.2.1 σ1 198 (σ1.1 197 2) r17 h16) rfl gX0_write_X0_check hyX0_check ⟨rfl, rfl⟩ ⟨Nat.le_of_ble_eq_true rfl, Nat.le_of_ble_eq_true rfl⟩ rfl rfl (Nat.le_of_ble_eq_true rfl) ?_
    obtain ⟨σ19, h18, hF⟩ := bd_some hF
    refine ww_callVv (pc := 156) X (As := [.int r17]) (rest := []) dX0_write_156 (kX0_writeByte (mL M) G hZ X.2.2.2.2.2.2.1 X.2.2.2.2.2.2.2.1 σ1 r17 σ19 h18) rfl shzC_197 clzC_0 gX0_write_X0_writeByte hyX0_writeByte ⟨rfl, rfl⟩ ⟨Nat.le_of_ble_eq_true rfl, Nat.le_of_ble_eq_true rfl⟩ rfl rfl (Nat.le_of_ble_eq_true rfl) ?_
    refine ww_aload_n (pc := 159) X (j := 0) dX0_write_159 rfl rfl ?_
    refine ww_get (pc := 160) X (ref := "PictureBlock$Imager") (T := TX0) (j := 2) dX0_write_160 inX0_write_RX0 shzC_197 clzC_0 (by decide) rfl (List.mem_of_getElem? (i := 1) rfl) rfl ?_
    exact ww_iret (pc := 163) X dX0_write_163 (fst_of hF) (snd_of hF)
  · refine ww_aload_n (pc := 128) X (j := 0) dX0_write_128 rfl rfl ?_
    refine ww_aload_n (pc := 129) X (j := 1) dX0_write_129 rfl rfl ?_
    refine ww_get (pc := 130) X (ref := "PictureBlock$Stand") (T := TX5) (j := 6) dX0_write_130 inX0_write_RX5 shzC_47 clzC_5 (by decide) rfl (List.mem_of_getElem? (i := 9) rfl) rfl ?_
    refine ww_iload_n (pc := 133) X (j := 2) dX0_write_133 rfl rfl ?_
    refine ww_iald (pc := 134) X dX0_write_134 shzC_58 rfl hF (fun v20 ev20 bv20 hF => ?_)
    obtain ⟨σ22, h21, hF⟩ := bd_some hF
    refine ww_callVv (pc := 135) X (As := [.int v20]) (rest := []) dX0_write_135 (kX0_writeByte (mL M) G hZ X.2.2.2.2.2.2.1 X.2.2.2.2.2.2.2.1 σ1 v20 σ22 h21) rfl shzC_197 clzC_0 gX0_write_X0_writeByte hyX0_writeByte ⟨rfl, rfl⟩ ⟨Nat.le_of_ble_eq_true rfl, Nat.le_of_ble_eq_true rfl⟩ rfl rfl (Nat.le_of_ble_eq_true rfl) ?_
    refine ww_iinc (pc := 138) X (j := 2) (v := 1) (lv' := [(0, .ref (G.2.1 197)), (1, .ref (G.2.1 47))]) dX0_write_138 rfl rfl (by decide) rfl hF (fun x23 ex23 hF => ?_)
    refine ww_goto (pc := 141) X (tgt := 115) dX0_write_141 (by decide) ?_
    exact ww_sub [1, 2, 0] rfl (ih115 x23 σ22 hF)
set_option maxRecDepth 100000 in
set_option maxHeartbeats 4000000 in
theorem wbX0_write_47_85 {M : gM} {G : gG} {out : Int32 × gS} (X : gX M G zC cX0_write RX0 3 wsX0_write rmX0_write (some .int)) {ex : gEx} (hZ : ∀ s : State, G.2.2.2 s → kC ex (gA G zC.1) s) (σ : gS) (rec85 : Int32 → gS → Option (Int32 × gS)) (ih85 : ∀ (a2 : Int32) (σ1 : gS), rec85 a2 σ1 = some out → WW M (gQi M G zC out.1 out.2) G zC 3 σ1 85 [(0, .ref (G.2.1 197)), (1, .ref (G.2.1 47)), (2, .int a2)] []) (a2 : Int32) (σ1 : gS) (hF : bX0_write_47_85 σ rec85 a2 σ1 = some out) : WW M (gQi M G zC out.1 out.2) G zC 3 σ1 85 [(0, .ref (G.2.1 197)), (1, .ref (G.2.1 47)), (2, .int a2)] [] := by
  unfold bX0_write_47_85 at hF
  refine ww_iload_n (pc := 85) X (j := 2) dX0_write_85 rfl rfl ?_
  refine ww_aload_n (pc := 86) X (j := 0) dX0_write_86 rfl rfl ?_
  refine ww_get (pc := 87) X (ref := "PictureBlock$Imager") (T := TX0) (j := 0) dX0_write_87 inX0_write_RX0 shzC_197 clzC_0 (by decide) rfl (List.mem_of_getElem? (i := 3) rfl) rfl ?_
  refine ww_get (pc := 90) X (ref := "PictureBlock$Told") (T := TX8) (j := 0) dX0_write_90 inX0_write_RX8 shzC_2 clzC_8 (by decide) rfl (List.mem_of_getElem? (i := 4) rfl) rfl ?_
  refine ww_iconst (pc := 93) X (v := 0) dX0_write_93 (by decide) ?_
  refine ww_iald (pc := 94) X dX0_write_94 shzC_3 rfl hF (fun v11 ev11 bv11 hF => ?_)
  refine ww_icmp_ge (pc := 95) (tgt := 113) X dX0_write_95 (by decide) hF (fun h12 hF => ?_) (fun h12 hF => ?_)
  · refine ww_iconst (pc := 113) X (v := 0) dX0_write_113 (by decide) ?_
    refine ww_istore_n (pc := 114) X (lv' := [(0, .ref (G.2.1 197)), (1, .ref (G.2.1 47))]) dX0_write_114 rfl (by decide) rfl hF (fun x13 ex13 hF => ?_)
    exact ww_sub [1, 2, 0] rfl (lpc_ind (P := (fun (s : Int32 × gS) => WW M (gQi M G zC out.1 out.2) G zC 3 s.2 115 [(0, .ref (G.2.1 197)), (1, .ref (G.2.1 47)), (2, .int s.1)] [])) (fun rec s ih hF => wbX0_write_47_115 X hZ σ1 (fun a2 σ1 => rec (a2, σ1)) (fun a2 σ1 h => ih (a2, σ1) h) s.1 s.2 hF) K9 (x13, σ1) hF)
  · refine ww_aload_n (pc := 98) X (j := 0) dX0_write_98 rfl rfl ?_
    refine ww_aload_n (pc := 99) X (j := 1) dX0_write_99 rfl rfl ?_
    refine ww_get (pc := 100) X (ref := "PictureBlock$Stand") (T := TX5) (j := 5) dX0_write_100 inX0_write_RX5 shzC_47 clzC_5 (by decide) rfl (List.mem_of_getElem? (i := 8) rfl) rfl ?_
    refine ww_iload_n (pc := 103) X (j := 2) dX0_write_103 rfl rfl ?_
    obtain ⟨σ25, h24, hF⟩ := bd_some hF
    refine ww_callVv (pc := 104) X (As := [.ref (G.2.1 55), .int a2]) (rest := []) dX0_write_104 (kX0_writePair_55 (mL M) G hZ X.2.2.2.2.2.2.1 X.2.2.2.2.2.2.2.1 σ1 a2 σ25 h24) rfl shzC_197 clzC_0 gX0_write_X0_writePair hyX0_writePair ⟨rfl, rfl⟩ ⟨Nat.le_of_ble_eq_true rfl, Nat.le_of_ble_eq_true rfl⟩ rfl rfl (Nat.le_of_ble_eq_true rfl) ?_
    refine ww_iinc (pc := 107) X (j := 2) (v := 1) (lv' := [(0, .ref (G.2.1 197)), (1, .ref (G.2.1 47))]) dX0_write_107 rfl rfl (by decide) rfl hF (fun x26 ex26 hF => ?_)
    refine ww_goto (pc := 110) X (tgt := 85) dX0_write_110 (by decide) ?_
    exact ww_sub [1, 2, 0] rfl (ih85 x26 σ25 hF)
set_option maxRecDepth 100000 in
set_option maxHeartbeats 4000000 in
theorem wbX0_write_47_55 {M : gM} {G : gG} {out : Int32 × gS} (X : gX M G zC cX0_write RX0 3 wsX0_write rmX0_write (some .int)) {ex : gEx} (hZ : ∀ s : State, G.2.2.2 s → kC ex (gA G zC.1) s) (σ : gS) (rec55 : Int32 → gS → Option (Int32 × gS)) (ih55 : ∀ (a2 : Int32) (σ1 : gS), rec55 a2 σ1 = some out → WW M (gQi M G zC out.1 out.2) G zC 3 σ1 55 [(0, .ref (G.2.1 197)), (1, .ref (G.2.1 47)), (2, .int a2)] []) (a2 : Int32) (σ1 : gS) (hF : bX0_write_47_55 σ rec55 a2 σ1 = some out) : WW M (gQi M G zC out.1 out.2) G zC 3 σ1 55 [(0, .ref (G.2.1 197)), (1, .ref (G.2.1 47)), (2, .int a2)] [] := by
  unfold bX0_write_47_55 at hF
  refine ww_iload_n (pc := 55) X (j := 2) dX0_write_55 rfl rfl ?_
  refine ww_aload_n (pc := 56) X (j := 0) dX0_write_56 rfl rfl ?_
  refine ww_get (pc := 57) X (ref := "PictureBlock$Imager") (T := TX0) (j := 0) dX0_write_57 inX0_write_RX0 shzC_197 clzC_0 (by decide) rfl (List.mem_of_getElem? (i := 3) rfl) rfl ?_
  refine ww_get (pc := 60) X (ref := "PictureBlock$Told") (T := TX8) (j := 0) dX0_write_60 inX0_write_RX8 shzC_2 clzC_8 (by decide) rfl (List.mem_of_getElem? (i := 4) rfl) rfl ?_
  refine ww_iconst (pc := 63) X (v := 2) dX0_write_63 (by decide) ?_
  refine ww_iald (pc := 64) X dX0_write_64 shzC_3 rfl hF (fun v8 ev8 bv8 hF => ?_)
  refine ww_icmp_ge (pc := 65) (tgt := 83) X dX0_write_65 (by decide) hF (fun h9 hF => ?_) (fun h9 hF => ?_)
  · refine ww_iconst (pc := 83) X (v := 0) dX0_write_83 (by decide) ?_
    refine ww_istore_n (pc := 84) X (lv' := [(0, .ref (G.2.1 197)), (1, .ref (G.2.1 47))]) dX0_write_84 rfl (by decide) rfl hF (fun x10 ex10 hF => ?_)
    exact ww_sub [1, 2, 0] rfl (lpc_ind (P := (fun (s : Int32 × gS) => WW M (gQi M G zC out.1 out.2) G zC 3 s.2 85 [(0, .ref (G.2.1 197)), (1, .ref (G.2.1 47)), (2, .int s.1)] [])) (fun rec s ih hF => wbX0_write_47_85 X hZ σ1 (fun a2 σ1 => rec (a2, σ1)) (fun a2 σ1 h => ih (a2, σ1) h) s.1 s.2 hF) K9 (x10, σ1) hF)
  · refine ww_aload_n (pc := 68) X (j := 0) dX0_write_68 rfl rfl ?_
    refine ww_aload_n (pc := 69) X (j := 1) dX0_write_69 rfl rfl ?_
    refine ww_get (pc := 70) X (ref := "PictureBlock$Stand") (T := TX5) (j := 4) dX0_write_70 inX0_write_RX5 shzC_47 clzC_5 (by decide) rfl (List.mem_of_getElem? (i := 7) rfl) rfl ?_
    refine ww_iload_n (pc := 73) X (j := 2) dX0_write_73 rfl rfl ?_
    obtain ⟨σ28, h27, hF⟩ := bd_some hF
    refine ww_callVv (pc := 74) X (As := [.ref (G.2.1 52), .int a2]) (rest := []) dX0_write_74 (kX0_writePair_52 (mL M) G hZ X.2.2.2.2.2.2.1 X.2.2.2.2.2.2.2.1 σ1 a2 σ28 h27) rfl shzC_197 clzC_0 gX0_write_X0_writePair hyX0_writePair ⟨rfl, rfl⟩ ⟨Nat.le_of_ble_eq_true rfl, Nat.le_of_ble_eq_true rfl⟩ rfl rfl (Nat.le_of_ble_eq_true rfl) ?_
    refine ww_iinc (pc := 77) X (j := 2) (v := 1) (lv' := [(0, .ref (G.2.1 197)), (1, .ref (G.2.1 47))]) dX0_write_77 rfl rfl (by decide) rfl hF (fun x29 ex29 hF => ?_)
    refine ww_goto (pc := 80) X (tgt := 55) dX0_write_80 (by decide) ?_
    exact ww_sub [1, 2, 0] rfl (ih55 x29 σ28 hF)
set_option maxRecDepth 100000 in
set_option maxHeartbeats 4000000 in
theorem wbX0_write_47_15 {M : gM} {G : gG} {out : Int32 × gS} (X : gX M G zC cX0_write RX0 3 wsX0_write rmX0_write (some .int)) {ex : gEx} (hZ : ∀ s : State, G.2.2.2 s → kC ex (gA G zC.1) s) (σ : gS) (rec15 : Int32 → gS → Option (Int32 × gS)) (ih15 : ∀ (a2 : Int32) (σ1 : gS), rec15 a2 σ1 = some out → WW M (gQi M G zC out.1 out.2) G zC 3 σ1 15 [(0, .ref (G.2.1 197)), (1, .ref (G.2.1 47)), (2, .int a2)] []) (a2 : Int32) (σ1 : gS) (hF : bX0_write_47_15 σ rec15 a2 σ1 = some out) : WW M (gQi M G zC out.1 out.2) G zC 3 σ1 15 [(0, .ref (G.2.1 197)), (1, .ref (G.2.1 47)), (2, .int a2)] [] := by
  unfold bX0_write_47_15 at hF
  refine ww_iload_n (pc := 15) X (j := 2) dX0_write_15 rfl rfl ?_
  refine ww_aload_n (pc := 16) X (j := 0) dX0_write_16 rfl rfl ?_
  refine ww_get (pc := 17) X (ref := "PictureBlock$Imager") (T := TX0) (j := 0) dX0_write_17 inX0_write_RX0 shzC_197 clzC_0 (by decide) rfl (List.mem_of_getElem? (i := 3) rfl) rfl ?_
  refine ww_get (pc := 20) X (ref := "PictureBlock$Told") (T := TX8) (j := 0) dX0_write_20 inX0_write_RX8 shzC_2 clzC_8 (by decide) rfl (List.mem_of_getElem? (i := 4) rfl) rfl ?_
  refine ww_iconst (pc := 23) X (v := 1) dX0_write_23 (by decide) ?_
  refine ww_iald (pc := 24) X dX0_write_24 shzC_3 rfl hF (fun v5 ev5 bv5 hF => ?_)
  refine ww_icmp_ge (pc := 25) (tgt := 53) X dX0_write_25 (by decide) hF (fun h6 hF => ?_) (fun h6 hF => ?_)
  · refine ww_iconst (pc := 53) X (v := 0) dX0_write_53 (by decide) ?_
    refine ww_istore_n (pc := 54) X (lv' := [(0, .ref (G.2.1 197)), (1, .ref (G.2.1 47))]) dX0_write_54 rfl (by decide) rfl hF (fun x7 ex7 hF => ?_)
    exact ww_sub [1, 2, 0] rfl (lpc_ind (P := (fun (s : Int32 × gS) => WW M (gQi M G zC out.1 out.2) G zC 3 s.2 55 [(0, .ref (G.2.1 197)), (1, .ref (G.2.1 47)), (2, .int s.1)] [])) (fun rec s ih hF => wbX0_write_47_55 X hZ σ1 (fun a2 σ1 => rec (a2, σ1)) (fun a2 σ1 h => ih (a2, σ1) h) s.1 s.2 hF) K9 (x7, σ1) hF)
  · refine ww_aload_n (pc := 28) X (j := 0) dX0_write_28 rfl rfl ?_
    refine ww_aload_n (pc := 29) X (j := 1) dX0_write_29 rfl rfl ?_
    refine ww_get (pc := 30) X (ref := "PictureBlock$Stand") (T := TX5) (j := 2) dX0_write_30 inX0_write_RX5 shzC_47 clzC_5 (by decide) rfl (List.mem_of_getElem? (i := 5) rfl) rfl ?_
    refine ww_iload_n (pc := 33) X (j := 2) dX0_write_33 rfl rfl ?_
    refine ww_iald (pc := 34) X dX0_write_34 shzC_48 rfl hF (fun v30 ev30 bv30 hF => ?_)
    obtain ⟨σ32, h31, hF⟩ := bd_some hF
    refine ww_callVv (pc := 35) X (As := [.int v30]) (rest := []) dX0_write_35 (kX0_writeByte (mL M) G hZ X.2.2.2.2.2.2.1 X.2.2.2.2.2.2.2.1 σ1 v30 σ32 h31) rfl shzC_197 clzC_0 gX0_write_X0_writeByte hyX0_writeByte ⟨rfl, rfl⟩ ⟨Nat.le_of_ble_eq_true rfl, Nat.le_of_ble_eq_true rfl⟩ rfl rfl (Nat.le_of_ble_eq_true rfl) ?_
    refine ww_aload_n (pc := 38) X (j := 0) dX0_write_38 rfl rfl ?_
    refine ww_aload_n (pc := 39) X (j := 1) dX0_write_39 rfl rfl ?_
    refine ww_get (pc := 40) X (ref := "PictureBlock$Stand") (T := TX5) (j := 3) dX0_write_40 inX0_write_RX5 shzC_47 clzC_5 (by decide) rfl (List.mem_of_getElem? (i := 6) rfl) rfl ?_
    refine ww_iload_n (pc := 43) X (j := 2) dX0_write_43 rfl rfl ?_
    obtain ⟨σ34, h33, hF⟩ := bd_some hF
    refine ww_callVv (pc := 44) X (As := [.ref (G.2.1 49), .int a2]) (rest := []) dX0_write_44 (kX0_writePair_49 (mL M) G hZ X.2.2.2.2.2.2.1 X.2.2.2.2.2.2.2.1 σ32 a2 σ34 h33) rfl shzC_197 clzC_0 gX0_write_X0_writePair hyX0_writePair ⟨rfl, rfl⟩ ⟨Nat.le_of_ble_eq_true rfl, Nat.le_of_ble_eq_true rfl⟩ rfl rfl (Nat.le_of_ble_eq_true rfl) ?_
    refine ww_iinc (pc := 47) X (j := 2) (v := 1) (lv' := [(0, .ref (G.2.1 197)), (1, .ref (G.2.1 47))]) dX0_write_47 rfl rfl (by decide) rfl hF (fun x35 ex35 hF => ?_)
    refine ww_goto (pc := 50) X (tgt := 15) dX0_write_50 (by decide) ?_
    exact ww_sub [1, 2, 0] rfl (ih15 x35 σ34 hF)
set_option maxRecDepth 100000 in
set_option maxHeartbeats 4000000 in
theorem wX0_write_47 {M : gM} {G : gG} {out : Int32 × gS} (X : gX M G zC cX0_write RX0 3 wsX0_write rmX0_write (some .int)) {ex : gEx} (hZ : ∀ s : State, G.2.2.2 s → kC ex (gA G zC.1) s) (σ : gS) (hF : fX0_write_47 σ = some out) : WW M (gQi M G zC out.1 out.2) G zC 3 σ 0 [(0, .ref (G.2.1 197)), (1, .ref (G.2.1 47))] [] := by
  unfold fX0_write_47 at hF
  refine ww_aload_n (pc := 0) X (j := 0) dX0_write_0 rfl rfl ?_
  refine ww_iconst (pc := 1) X (v := 0) dX0_write_1 (by decide) ?_
  refine ww_putI (pc := 2) X (ref := "PictureBlock$Imager") (T := TX0) (j := 2) dX0_write_2 inX0_write_RX0 tyX0 tyX0_ok nmX0 shzC_197 clzC_0 (by decide) rfl (List.mem_of_getElem? (i := 1) rfl) rfl rfl (by decide +kernel) hF (fun σ1 eσ1 hF => ?_)
  refine ww_aload_n (pc := 5) X (j := 0) dX0_write_5 rfl rfl ?_
  refine ww_aload_n (pc := 6) X (j := 1) dX0_write_6 rfl rfl ?_
  refine ww_get (pc := 7) X (ref := "PictureBlock$Stand") (T := TX5) (j := 1) dX0_write_7 inX0_write_RX5 shzC_47 clzC_5 (by decide) rfl (List.mem_of_getElem? (i := 2) rfl) rfl ?_
  obtain ⟨σ3, h2, hF⟩ := bd_some hF
  refine ww_callVv (pc := 10) X (As := [.int (σ1.1 47 1)]) (rest := []) dX0_write_10 (kX0_writeByte (mL M) G hZ X.2.2.2.2.2.2.1 X.2.2.2.2.2.2.2.1 σ1 (σ1.1 47 1) σ3 h2) rfl shzC_197 clzC_0 gX0_write_X0_writeByte hyX0_writeByte ⟨rfl, rfl⟩ ⟨Nat.le_of_ble_eq_true rfl, Nat.le_of_ble_eq_true rfl⟩ rfl rfl (Nat.le_of_ble_eq_true rfl) ?_
  refine ww_iconst (pc := 13) X (v := 0) dX0_write_13 (by decide) ?_
  refine ww_istore_n (pc := 14) X (lv' := [(0, .ref (G.2.1 197)), (1, .ref (G.2.1 47))]) dX0_write_14 rfl (by decide) rfl hF (fun x4 ex4 hF => ?_)
  exact ww_sub [1, 2, 0] rfl (lpc_ind (P := (fun (s : Int32 × gS) => WW M (gQi M G zC out.1 out.2) G zC 3 s.2 15 [(0, .ref (G.2.1 197)), (1, .ref (G.2.1 47)), (2, .int s.1)] [])) (fun rec s ih hF => wbX0_write_47_15 X hZ σ3 (fun a2 σ1 => rec (a2, σ1)) (fun a2 σ1 h => ih (a2, σ1) h) s.1 s.2 hF) K9 (x4, σ3) hF)
set_option maxRecDepth 100000 in
set_option maxHeartbeats 4000000 in
theorem kX0_write_47 (l : Launch) (G : gG) {ex : gEx} (hZ : ∀ s : State, G.2.2.2 s → kC ex (gA G zC.1) s) (hG : gOK G zC.1) (hT : G.2.2.1.map (fun q => q.2) = zC.2.1) (σ : gS) (out : Int32 × gS) (hF : fX0_write_47 σ = some out) : gCi l yX0_write wsX0_write rmX0_write G zC [.ref (G.2.1 197), .ref (G.2.1 47)] σ out.1 out.2 :=
  gEnter (by decide) rfl ⟨rfl, rfl⟩ hG hT (Nat.le_of_ble_eq_true rfl) rfl (fun M X hl => wX0_write_47 X hZ σ hF)
noncomputable def fX9_image (σ : gS) : Option (Int32 × gS) :=
  bd2 (fX0_write_47 σ) fun r2 σ3 => some (r2, σ3)
noncomputable abbrev rmX9_image : Room := { frames := 3, cells := 0, slots := 0, locals := 67 }
set_option maxRecDepth 100000 in
set_option maxHeartbeats 4000000 in
theorem wX9_image {M : gM} {G : gG} {out : Int32 × gS} (X : gX M G zC cX9_image RX9 1 wsX9_image rmX9_image (some .int)) {ex : gEx} (hZ : ∀ s : State, G.2.2.2 s → kC ex (gA G zC.1) s) (σ : gS) (hF : fX9_image σ = some out) : WW M (gQi M G zC out.1 out.2) G zC 1 σ 0 [(0, .ref (G.2.1 0))] [] := by
  unfold fX9_image at hF
  refine ww_aload_n (pc := 0) X (j := 0) dX9_image_0 rfl rfl ?_
  refine ww_get (pc := 1) X (ref := "PictureBlock") (T := TX9) (j := 13) dX9_image_1 inX9_image_RX9 shzC_0 clzC_9 (by decide) rfl (List.mem_of_getElem? (i := 1) rfl) rfl ?_
  refine ww_aload_n (pc := 4) X (j := 0) dX9_image_4 rfl rfl ?_
  refine ww_get (pc := 5) X (ref := "PictureBlock") (T := TX9) (j := 5) dX9_image_5 inX9_image_RX9 shzC_0 clzC_9 (by decide) rfl (List.mem_of_getElem? (i := 2) rfl) rfl ?_
  obtain ⟨r2, σ3, h1, hF⟩ := bd2_some hF
  refine ww_callVi (pc := 8) X (As := [.ref (G.2.1 47)]) (rest := []) dX9_image_8 (kX0_write_47 (mL M) G hZ X.2.2.2.2.2.2.1 X.2.2.2.2.2.2.2.1 σ (r2, σ3) h1) rfl shzC_197 clzC_0 gX9_image_X0_write hyX0_write ⟨rfl, rfl⟩ ⟨Nat.le_of_ble_eq_true rfl, Nat.le_of_ble_eq_true rfl⟩ rfl rfl (Nat.le_of_ble_eq_true rfl) ?_
  exact ww_iret (pc := 11) X dX9_image_11 (fst_of hF) (snd_of hF)
set_option maxRecDepth 100000 in
set_option maxHeartbeats 4000000 in
theorem kX9_image (l : Launch) (G : gG) {ex : gEx} (hZ : ∀ s : State, G.2.2.2 s → kC ex (gA G zC.1) s) (hG : gOK G zC.1) (hT : G.2.2.1.map (fun q => q.2) = zC.2.1) (σ : gS) (out : Int32 × gS) (hF : fX9_image σ = some out) : gCi l yX9_image wsX9_image rmX9_image G zC [.ref (G.2.1 0)] σ out.1 out.2 :=
  gEnter (by decide) rfl ⟨rfl, rfl⟩ hG hT (Nat.le_of_ble_eq_true rfl) rfl (fun M X hl => wX9_image X hZ σ hF)
noncomputable def fX9_octet (σ : gS) (p1 : Int32) : Option (Int32) :=
  if p1 < 0 then some ((-1)) else if p1 < (σ.1 197 2) then gd (gb p1 378) <| nm (σ.1 198 p1.toNatClampNeg) fun v3 => some v3 else some ((-1))
noncomputable abbrev rmX9_octet : Room := { frames := 0, cells := 0, slots := 0, locals := 0 }
set_option maxRecDepth 100000 in
set_option maxHeartbeats 4000000 in
theorem wX9_octet {M : gM} {G : gG} {out : Int32} (X : gX M G zC cX9_octet RX9 2 wsX9_octet rmX9_octet (some .int)) {ex : gEx} (hZ : ∀ s : State, G.2.2.2 s → kC ex (gA G zC.1) s) (σ : gS) (p1 : Int32) (hF : fX9_octet σ p1 = some out) : WW M (gQi M G zC out σ) G zC 2 σ 0 [(0, .ref (G.2.1 0)), (1, .int p1)] [] := by
  unfold fX9_octet at hF
  refine ww_iload_n (pc := 0) X (j := 1) dX9_octet_0 rfl rfl ?_
  refine ww_if_lt (pc := 1) (tgt := 15) X dX9_octet_1 (by decide) hF (fun h1 hF => ?_) (fun h1 hF => ?_)
  · refine ww_iconst (pc := 15) X (v := (-1)) dX9_octet_15 (by decide) ?_
    exact ww_iret (pc := 16) X dX9_octet_16 (Option.some.inj hF) rfl
  · refine ww_iload_n (pc := 4) X (j := 1) dX9_octet_4 rfl rfl ?_
    refine ww_aload_n (pc := 5) X (j := 0) dX9_octet_5 rfl rfl ?_
    refine ww_get (pc := 6) X (ref := "PictureBlock") (T := TX9) (j := 13) dX9_octet_6 inX9_octet_RX9 shzC_0 clzC_9 (by decide) rfl (List.mem_of_getElem? (i := 1) rfl) rfl ?_
    refine ww_get (pc := 9) X (ref := "PictureBlock$Imager") (T := TX0) (j := 2) dX9_octet_9 inX9_octet_RX0 shzC_197 clzC_0 (by decide) rfl (List.mem_of_getElem? (i := 2) rfl) rfl ?_
    refine ww_icmp_lt (pc := 12) (tgt := 17) X dX9_octet_12 (by decide) hF (fun h2 hF => ?_) (fun h2 hF => ?_)
    · refine ww_aload_n (pc := 17) X (j := 0) dX9_octet_17 rfl rfl ?_
      refine ww_get (pc := 18) X (ref := "PictureBlock") (T := TX9) (j := 13) dX9_octet_18 inX9_octet_RX9 shzC_0 clzC_9 (by decide) rfl (List.mem_of_getElem? (i := 1) rfl) rfl ?_
      refine ww_get (pc := 21) X (ref := "PictureBlock$Imager") (T := TX0) (j := 1) dX9_octet_21 inX9_octet_RX0 shzC_197 clzC_0 (by decide) rfl (List.mem_of_getElem? (i := 3) rfl) rfl ?_
      refine ww_iload_n (pc := 24) X (j := 1) dX9_octet_24 rfl rfl ?_
      refine ww_iald (pc := 25) X dX9_octet_25 shzC_198 rfl hF (fun v3 ev3 bv3 hF => ?_)
      exact ww_iret (pc := 26) X dX9_octet_26 (Option.some.inj hF) rfl
    · refine ww_iconst (pc := 15) X (v := (-1)) dX9_octet_15 (by decide) ?_
      exact ww_iret (pc := 16) X dX9_octet_16 (Option.some.inj hF) rfl
set_option maxRecDepth 100000 in
set_option maxHeartbeats 4000000 in
theorem kX9_octet (l : Launch) (G : gG) {ex : gEx} (hZ : ∀ s : State, G.2.2.2 s → kC ex (gA G zC.1) s) (hG : gOK G zC.1) (hT : G.2.2.1.map (fun q => q.2) = zC.2.1) (σ : gS) (p1 : Int32) (out : Int32) (hF : fX9_octet σ p1 = some out) : gCi l yX9_octet wsX9_octet rmX9_octet G zC [.ref (G.2.1 0), .int p1] σ out σ :=
  gEnter (by decide) rfl ⟨rfl, rfl⟩ hG hT (Nat.le_of_ble_eq_true rfl) rfl (fun M X hl => wX9_octet X hZ σ p1 hF)
noncomputable def fX0_dueLength (σ : gS) : Option (Int32) :=
  gd (gb 1 6) <| nm (σ.1 3 ((1 : Int32).toNatClampNeg)) fun v1 => gd (gb 2 6) <| nm (σ.1 3 ((2 : Int32).toNatClampNeg)) fun v2 => gd (gb 0 6) <| nm (σ.1 3 ((0 : Int32).toNatClampNeg)) fun v3 => gd (gb 3 6) <| nm (σ.1 3 ((3 : Int32).toNatClampNeg)) fun v4 => some ((((2 + (9 * v1)) + (8 * v2)) + (8 * v3)) + v4)
noncomputable abbrev rmX0_dueLength : Room := { frames := 0, cells := 0, slots := 0, locals := 0 }
set_option maxRecDepth 100000 in
set_option maxHeartbeats 4000000 in
theorem wX0_dueLength {M : gM} {G : gG} {out : Int32} (X : gX M G zC cX0_dueLength RX0 1 wsX0_dueLength rmX0_dueLength (some .int)) {ex : gEx} (hZ : ∀ s : State, G.2.2.2 s → kC ex (gA G zC.1) s) (σ : gS) (hF : fX0_dueLength σ = some out) : WW M (gQi M G zC out σ) G zC 1 σ 0 [(0, .ref (G.2.1 197))] [] := by
  unfold fX0_dueLength at hF
  refine ww_iconst (pc := 0) X (v := 2) dX0_dueLength_0 (by decide) ?_
  refine ww_bipush (pc := 1) X (v := 9) dX0_dueLength_1 (by decide) ?_
  refine ww_aload_n (pc := 3) X (j := 0) dX0_dueLength_3 rfl rfl ?_
  refine ww_get (pc := 4) X (ref := "PictureBlock$Imager") (T := TX0) (j := 0) dX0_dueLength_4 inX0_dueLength_RX0 shzC_197 clzC_0 (by decide) rfl (List.mem_of_getElem? (i := 1) rfl) rfl ?_
  refine ww_get (pc := 7) X (ref := "PictureBlock$Told") (T := TX8) (j := 0) dX0_dueLength_7 inX0_dueLength_RX8 shzC_2 clzC_8 (by decide) rfl (List.mem_of_getElem? (i := 2) rfl) rfl ?_
  refine ww_iconst (pc := 10) X (v := 1) dX0_dueLength_10 (by decide) ?_
  refine ww_iald (pc := 11) X dX0_dueLength_11 shzC_3 rfl hF (fun v1 ev1 bv1 hF => ?_)
  refine ww_imul (pc := 12) X dX0_dueLength_12 ?_
  refine ww_iadd (pc := 13) X dX0_dueLength_13 ?_
  refine ww_bipush (pc := 14) X (v := 8) dX0_dueLength_14 (by decide) ?_
  refine ww_aload_n (pc := 16) X (j := 0) dX0_dueLength_16 rfl rfl ?_
  refine ww_get (pc := 17) X (ref := "PictureBlock$Imager") (T := TX0) (j := 0) dX0_dueLength_17 inX0_dueLength_RX0 shzC_197 clzC_0 (by decide) rfl (List.mem_of_getElem? (i := 1) rfl) rfl ?_
  refine ww_get (pc := 20) X (ref := "PictureBlock$Told") (T := TX8) (j := 0) dX0_dueLength_20 inX0_dueLength_RX8 shzC_2 clzC_8 (by decide) rfl (List.mem_of_getElem? (i := 2) rfl) rfl ?_
  refine ww_iconst (pc := 23) X (v := 2) dX0_dueLength_23 (by decide) ?_
  refine ww_iald (pc := 24) X dX0_dueLength_24 shzC_3 rfl hF (fun v2 ev2 bv2 hF => ?_)
  refine ww_imul (pc := 25) X dX0_dueLength_25 ?_
  refine ww_iadd (pc := 26) X dX0_dueLength_26 ?_
  refine ww_bipush (pc := 27) X (v := 8) dX0_dueLength_27 (by decide) ?_
  refine ww_aload_n (pc := 29) X (j := 0) dX0_dueLength_29 rfl rfl ?_
  refine ww_get (pc := 30) X (ref := "PictureBlock$Imager") (T := TX0) (j := 0) dX0_dueLength_30 inX0_dueLength_RX0 shzC_197 clzC_0 (by decide) rfl (List.mem_of_getElem? (i := 1) rfl) rfl ?_
  refine ww_get (pc := 33) X (ref := "PictureBlock$Told") (T := TX8) (j := 0) dX0_dueLength_33 inX0_dueLength_RX8 shzC_2 clzC_8 (by decide) rfl (List.mem_of_getElem? (i := 2) rfl) rfl ?_
  refine ww_iconst (pc := 36) X (v := 0) dX0_dueLength_36 (by decide) ?_
  refine ww_iald (pc := 37) X dX0_dueLength_37 shzC_3 rfl hF (fun v3 ev3 bv3 hF => ?_)
  refine ww_imul (pc := 38) X dX0_dueLength_38 ?_
  refine ww_iadd (pc := 39) X dX0_dueLength_39 ?_
  refine ww_aload_n (pc := 40) X (j := 0) dX0_dueLength_40 rfl rfl ?_
  refine ww_get (pc := 41) X (ref := "PictureBlock$Imager") (T := TX0) (j := 0) dX0_dueLength_41 inX0_dueLength_RX0 shzC_197 clzC_0 (by decide) rfl (List.mem_of_getElem? (i := 1) rfl) rfl ?_
  refine ww_get (pc := 44) X (ref := "PictureBlock$Told") (T := TX8) (j := 0) dX0_dueLength_44 inX0_dueLength_RX8 shzC_2 clzC_8 (by decide) rfl (List.mem_of_getElem? (i := 2) rfl) rfl ?_
  refine ww_iconst (pc := 47) X (v := 3) dX0_dueLength_47 (by decide) ?_
  refine ww_iald (pc := 48) X dX0_dueLength_48 shzC_3 rfl hF (fun v4 ev4 bv4 hF => ?_)
  refine ww_iadd (pc := 49) X dX0_dueLength_49 ?_
  exact ww_iret (pc := 50) X dX0_dueLength_50 (Option.some.inj hF) rfl
set_option maxRecDepth 100000 in
set_option maxHeartbeats 4000000 in
theorem kX0_dueLength (l : Launch) (G : gG) {ex : gEx} (hZ : ∀ s : State, G.2.2.2 s → kC ex (gA G zC.1) s) (hG : gOK G zC.1) (hT : G.2.2.1.map (fun q => q.2) = zC.2.1) (σ : gS) (out : Int32) (hF : fX0_dueLength σ = some out) : gCi l yX0_dueLength wsX0_dueLength rmX0_dueLength G zC [.ref (G.2.1 197)] σ out σ :=
  gEnter (by decide) rfl ⟨rfl, rfl⟩ hG hT (Nat.le_of_ble_eq_true rfl) rfl (fun M X hl => wX0_dueLength X hZ σ hF)
noncomputable def bX0_takePair_79_15 (σ : gS) (c3_1 : Nat) (c3_3 : Int32) (c15_4 : Int32) (rec3 : Int32 → gS → Option (gS)) (rec15 : Int32 → Int32 → Option (gS)) (a5 : Int32) (a6 : Int32) : Option (gS) :=
  if 4 ≤ a6 then gd (gb c15_4 2) <| gd (gb c3_3 6) <| nm (gsI σ (80 + c15_4.toNatClampNeg) c3_3.toNatClampNeg a5) fun σ7 => nm (gsI σ7 197 3 ((σ7.1 197 3) + 4)) fun σ8 => nm (c15_4 + 1 : Int32) fun x9 => rec3 x9 σ8 else gd (gb ((σ.1 197 3) + a6) (gsz zC.1 0 0 c3_1)) <| nm (σ.1 c3_1 ((σ.1 197 3) + a6).toNatClampNeg) fun v10 => nm ((a5 <<< (8 &&& 31)) ||| v10 : Int32) fun x11 => nm (a6 + 1 : Int32) fun x12 => rec15 x11 x12
noncomputable def bX0_takePair_79_3 (σ : gS) (c3_1 : Nat) (c3_3 : Int32) (rec3 : Int32 → gS → Option (gS)) (a4 : Int32) (σ1 : gS) : Option (gS) :=
  if 2 ≤ a4 then some σ1 else nm (0 : Int32) fun x3 => nm (0 : Int32) fun x4 => lpc (S := Int32 × Int32) K9 (fun rec s => bX0_takePair_79_15 σ1 c3_1 c3_3 a4 rec3 (fun a5 a6 => rec (a5, a6)) s.1 s.2) (x3, x4)
noncomputable def fX0_takePair_79 (σ : gS) (p1 : Nat) (p3 : Int32) : Option (gS) :=
  nm (0 : Int32) fun x1 => lpc (S := Int32 × gS) K9 (fun rec s => bX0_takePair_79_3 σ p1 p3 (fun a4 σ1 => rec (a4, σ1)) s.1 s.2) (x1, σ)
noncomputable abbrev rmX0_takePair : Room := { frames := 0, cells := 0, slots := 0, locals := 0 }
set_option maxRecDepth 100000 in
set_option maxHeartbeats 4000000 in
theorem wbX0_takePair_79_15 {M : gM} {G : gG} {out : gS} (X : gX M G zC cX0_takePair RX0 7 wsX0_takePair rmX0_takePair none) {ex : gEx} (hZ : ∀ s : State, G.2.2.2 s → kC ex (gA G zC.1) s) (σ : gS) (c3_1 : Nat) (c3_3 : Int32) (c15_4 : Int32) (rec3 : Int32 → gS → Option (gS)) (ih3 : ∀ (a4 : Int32) (σ1 : gS), rec3 a4 σ1 = some out → WW M (gQv M G zC out) G zC 7 σ1 3 [(0, .ref (G.2.1 197)), (1, .ref (G.2.1 c3_1)), (2, .ref (G.2.1 79)), (3, .int c3_3), (4, .int a4)] []) (rec15 : Int32 → Int32 → Option (gS)) (ih15 : ∀ (a5 : Int32) (a6 : Int32), rec15 a5 a6 = some out → WW M (gQv M G zC out) G zC 7 σ 15 [(0, .ref (G.2.1 197)), (1, .ref (G.2.1 c3_1)), (2, .ref (G.2.1 79)), (3, .int c3_3), (4, .int c15_4), (5, .int a5), (6, .int a6)] []) (a5 : Int32) (a6 : Int32) (hF : bX0_takePair_79_15 σ c3_1 c3_3 c15_4 rec3 rec15 a5 a6 = some out) : WW M (gQv M G zC out) G zC 7 σ 15 [(0, .ref (G.2.1 197)), (1, .ref (G.2.1 c3_1)), (2, .ref (G.2.1 79)), (3, .int c3_3), (4, .int c15_4), (5, .int a5), (6, .int a6)] [] := by
  unfold bX0_takePair_79_15 at hF
  refine ww_iload (pc := 15) X (j := 6) dX0_takePair_15 rfl ?_
  refine ww_iconst (pc := 17) X (v := 4) dX0_takePair_17 (by decide) ?_
  refine ww_icmp_ge (pc := 18) (tgt := 44) X dX0_takePair_18 (by decide) hF (fun h5 hF => ?_) (fun h5 hF => ?_)
  · refine ww_aload_n (pc := 44) X (j := 2) dX0_takePair_44 rfl rfl ?_
    refine ww_iload (pc := 45) X (j := 4) dX0_takePair_45 rfl ?_
    refine ww_aald (pc := 47) X dX0_takePair_47 shzC_79 rfl hF (fun h6 hF => ?_)
    refine ww_iload_n (pc := 48) X (j := 3) dX0_takePair_48 rfl rfl ?_
    refine ww_iload (pc := 49) X (j := 5) dX0_takePair_49 rfl ?_
    refine ww_iast (pc := 51) X dX0_takePair_51 (rwzC_79 _ (gb_lt h6)) rfl hF (fun σ7 eσ7 bσ7 hF => ?_)
    refine ww_aload_n (pc := 52) X (j := 0) dX0_takePair_52 rfl rfl ?_
    refine ww_dup (pc := 53) X dX0_takePair_53 rfl ?_
    refine ww_get (pc := 54) X (ref := "PictureBlock$Imager") (T := TX0) (j := 3) dX0_takePair_54 inX0_takePair_RX0 shzC_197 clzC_0 (by decide) rfl (List.mem_of_getElem? (i := 1) rfl) rfl ?_
    refine ww_iconst (pc := 57) X (v := 4) dX0_takePair_57 (by decide) ?_
    refine ww_iadd (pc := 58) X dX0_takePair_58 ?_
    refine ww_putI (pc := 59) X (ref := "PictureBlock$Imager") (T := TX0) (j := 3) dX0_takePair_59 inX0_takePair_RX0 tyX0 tyX0_ok nmX0 shzC_197 clzC_0 (by decide) rfl (List.mem_of_getElem? (i := 1) rfl) rfl rfl (by decide +kernel) hF (fun σ8 eσ8 hF => ?_)
    refine ww_iinc (pc := 62) X (j := 4) (v := 1) (lv' := [(0, .ref (G.2.1 197)), (1, .ref (G.2.1 c3_1)), (2, .ref (G.2.1 79)), (3, .int c3_3), (5, .int a5), (6, .int a6)]) dX0_takePair_62 rfl rfl (by decide) rfl hF (fun x9 ex9 hF => ?_)
    refine ww_goto (pc := 65) X (tgt := 3) dX0_takePair_65 (by decide) ?_
    exact ww_sub [1, 2, 3, 4, 0] rfl (ih3 x9 σ8 hF)
  · refine ww_iload (pc := 21) X (j := 5) dX0_takePair_21 rfl ?_
    refine ww_bipush (pc := 23) X (v := 8) dX0_takePair_23 (by decide) ?_
    refine ww_ishl (pc := 25) X dX0_takePair_25 ?_
    refine ww_aload_n (pc := 26) X (j := 1) dX0_takePair_26 rfl rfl ?_
    refine ww_aload_n (pc := 27) X (j := 0) dX0_takePair_27 rfl rfl ?_
    refine ww_get (pc := 28) X (ref := "PictureBlock$Imager") (T := TX0) (j := 3) dX0_takePair_28 inX0_takePair_RX0 shzC_197 clzC_0 (by decide) rfl (List.mem_of_getElem? (i := 1) rfl) rfl ?_
    refine ww_iload (pc := 31) X (j := 6) dX0_takePair_31 rfl ?_
    refine ww_iadd (pc := 33) X dX0_takePair_33 ?_
    refine ww_ialdS (pc := 34) X dX0_takePair_34  (t := 0) rfl hF (fun v10 ev10 bv10 hF => ?_)
    refine ww_ior (pc := 35) X dX0_takePair_35 ?_
    refine ww_istore (pc := 36) X (lv' := [(0, .ref (G.2.1 197)), (1, .ref (G.2.1 c3_1)), (2, .ref (G.2.1 79)), (3, .int c3_3), (4, .int c15_4), (6, .int a6)]) dX0_takePair_36 (by decide) rfl hF (fun x11 ex11 hF => ?_)
    refine ww_iinc (pc := 38) X (j := 6) (v := 1) (lv' := [(5, .int x11), (0, .ref (G.2.1 197)), (1, .ref (G.2.1 c3_1)), (2, .ref (G.2.1 79)), (3, .int c3_3), (4, .int c15_4)]) dX0_takePair_38 rfl rfl (by decide) rfl hF (fun x12 ex12 hF => ?_)
    refine ww_goto (pc := 41) X (tgt := 15) dX0_takePair_41 (by decide) ?_
    exact ww_sub [2, 3, 4, 5, 6, 1, 0] rfl (ih15 x11 x12 hF)
set_option maxRecDepth 100000 in
set_option maxHeartbeats 4000000 in
theorem wbX0_takePair_79_3 {M : gM} {G : gG} {out : gS} (X : gX M G zC cX0_takePair RX0 7 wsX0_takePair rmX0_takePair none) {ex : gEx} (hZ : ∀ s : State, G.2.2.2 s → kC ex (gA G zC.1) s) (σ : gS) (c3_1 : Nat) (c3_3 : Int32) (rec3 : Int32 → gS → Option (gS)) (ih3 : ∀ (a4 : Int32) (σ1 : gS), rec3 a4 σ1 = some out → WW M (gQv M G zC out) G zC 7 σ1 3 [(0, .ref (G.2.1 197)), (1, .ref (G.2.1 c3_1)), (2, .ref (G.2.1 79)), (3, .int c3_3), (4, .int a4)] []) (a4 : Int32) (σ1 : gS) (hF : bX0_takePair_79_3 σ c3_1 c3_3 rec3 a4 σ1 = some out) : WW M (gQv M G zC out) G zC 7 σ1 3 [(0, .ref (G.2.1 197)), (1, .ref (G.2.1 c3_1)), (2, .ref (G.2.1 79)), (3, .int c3_3), (4, .int a4)] [] := by
  unfold bX0_takePair_79_3 at hF
  refine ww_iload (pc := 3) X (j := 4) dX0_takePair_3 rfl ?_
  refine ww_iconst (pc := 5) X (v := 2) dX0_takePair_5 (by decide) ?_
  refine ww_icmp_ge (pc := 6) (tgt := 68) X dX0_takePair_6 (by decide) hF (fun h2 hF => ?_) (fun h2 hF => ?_)
  · exact ww_vret (pc := 68) X dX0_takePair_68 (by cases hF; rfl)
  · refine ww_iconst (pc := 9) X (v := 0) dX0_takePair_9 (by decide) ?_
    refine ww_istore (pc := 10) X (lv' := [(0, .ref (G.2.1 197)), (1, .ref (G.2.1 c3_1)), (2, .ref (G.2.1 79)), (3, .int c3_3), (4, .int a4)]) dX0_takePair_10 (by decide) rfl hF (fun x3 ex3 hF => ?_)
    refine ww_iconst (pc := 12) X (v := 0) dX0_takePair_12 (by decide) ?_
    refine ww_istore (pc := 13) X (lv' := [(5, .int x3), (0, .ref (G.2.1 197)), (1, .ref (G.2.1 c3_1)), (2, .ref (G.2.1 79)), (3, .int c3_3), (4, .int a4)]) dX0_takePair_13 (by decide) rfl hF (fun x4 ex4 hF => ?_)
    exact ww_sub [2, 3, 4, 5, 6, 1, 0] rfl (lpc_ind (P := (fun (s : Int32 × Int32) => WW M (gQv M G zC out) G zC 7 σ1 15 [(0, .ref (G.2.1 197)), (1, .ref (G.2.1 c3_1)), (2, .ref (G.2.1 79)), (3, .int c3_3), (4, .int a4), (5, .int s.1), (6, .int s.2)] [])) (fun rec s ih hF => wbX0_takePair_79_15 X hZ σ1 c3_1 c3_3 a4 rec3  ih3 (fun a5 a6 => rec (a5, a6)) (fun a5 a6 h => ih (a5, a6) h) s.1 s.2 hF) K9 (x3, x4) hF)
set_option maxRecDepth 100000 in
set_option maxHeartbeats 4000000 in
theorem wX0_takePair_79 {M : gM} {G : gG} {out : gS} (X : gX M G zC cX0_takePair RX0 7 wsX0_takePair rmX0_takePair none) {ex : gEx} (hZ : ∀ s : State, G.2.2.2 s → kC ex (gA G zC.1) s) (σ : gS) (p1 : Nat) (p3 : Int32) (hF : fX0_takePair_79 σ p1 p3 = some out) : WW M (gQv M G zC out) G zC 7 σ 0 [(0, .ref (G.2.1 197)), (1, .ref (G.2.1 p1)), (2, .ref (G.2.1 79)), (3, .int p3)] [] := by
  unfold fX0_takePair_79 at hF
  refine ww_iconst (pc := 0) X (v := 0) dX0_takePair_0 (by decide) ?_
  refine ww_istore (pc := 1) X (lv' := [(0, .ref (G.2.1 197)), (1, .ref (G.2.1 p1)), (2, .ref (G.2.1 79)), (3, .int p3)]) dX0_takePair_1 (by decide) rfl hF (fun x1 ex1 hF => ?_)
  exact ww_sub [1, 2, 3, 4, 0] rfl (lpc_ind (P := (fun (s : Int32 × gS) => WW M (gQv M G zC out) G zC 7 s.2 3 [(0, .ref (G.2.1 197)), (1, .ref (G.2.1 p1)), (2, .ref (G.2.1 79)), (3, .int p3), (4, .int s.1)] [])) (fun rec s ih hF => wbX0_takePair_79_3 X hZ σ p1 p3 (fun a4 σ1 => rec (a4, σ1)) (fun a4 σ1 h => ih (a4, σ1) h) s.1 s.2 hF) K9 (x1, σ) hF)
set_option maxRecDepth 100000 in
set_option maxHeartbeats 4000000 in
theorem kX0_takePair_79 (l : Launch) (G : gG) {ex : gEx} (hZ : ∀ s : State, G.2.2.2 s → kC ex (gA G zC.1) s) (hG : gOK G zC.1) (hT : G.2.2.1.map (fun q => q.2) = zC.2.1) (σ : gS) (p1 : Nat) (p3 : Int32) (out : gS) (hF : fX0_takePair_79 σ p1 p3 = some out) : gCv l yX0_takePair wsX0_takePair rmX0_takePair G zC [.ref (G.2.1 197), .ref (G.2.1 p1), .ref (G.2.1 79), .int p3] σ out :=
  gEnter (by decide) rfl ⟨rfl, rfl⟩ hG hT (Nat.le_of_ble_eq_true rfl) rfl (fun M X hl => wX0_takePair_79 X hZ σ p1 p3 hF)
noncomputable def bX0_takePair_76_15 (σ : gS) (c3_1 : Nat) (c3_3 : Int32) (c15_4 : Int32) (rec3 : Int32 → gS → Option (gS)) (rec15 : Int32 → Int32 → Option (gS)) (a5 : Int32) (a6 : Int32) : Option (gS) :=
  if 4 ≤ a6 then gd (gb c15_4 2) <| gd (gb c3_3 20) <| nm (gsI σ (77 + c15_4.toNatClampNeg) c3_3.toNatClampNeg a5) fun σ7 => nm (gsI σ7 197 3 ((σ7.1 197 3) + 4)) fun σ8 => nm (c15_4 + 1 : Int32) fun x9 => rec3 x9 σ8 else gd (gb ((σ.1 197 3) + a6) (gsz zC.1 0 0 c3_1)) <| nm (σ.1 c3_1 ((σ.1 197 3) + a6).toNatClampNeg) fun v10 => nm ((a5 <<< (8 &&& 31)) ||| v10 : Int32) fun x11 => nm (a6 + 1 : Int32) fun x12 => rec15 x11 x12
noncomputable def bX0_takePair_76_3 (σ : gS) (c3_1 : Nat) (c3_3 : Int32) (rec3 : Int32 → gS → Option (gS)) (a4 : Int32) (σ1 : gS) : Option (gS) :=
  if 2 ≤ a4 then some σ1 else nm (0 : Int32) fun x3 => nm (0 : Int32) fun x4 => lpc (S := Int32 × Int32) K9 (fun rec s => bX0_takePair_76_15 σ1 c3_1 c3_3 a4 rec3 (fun a5 a6 => rec (a5, a6)) s.1 s.2) (x3, x4)
noncomputable def fX0_takePair_76 (σ : gS) (p1 : Nat) (p3 : Int32) : Option (gS) :=
  nm (0 : Int32) fun x1 => lpc (S := Int32 × gS) K9 (fun rec s => bX0_takePair_76_3 σ p1 p3 (fun a4 σ1 => rec (a4, σ1)) s.1 s.2) (x1, σ)
set_option maxRecDepth 100000 in
set_option maxHeartbeats 4000000 in
theorem wbX0_takePair_76_15 {M : gM} {G : gG} {out : gS} (X : gX M G zC cX0_takePair RX0 7 wsX0_takePair rmX0_takePair none) {ex : gEx} (hZ : ∀ s : State, G.2.2.2 s → kC ex (gA G zC.1) s) (σ : gS) (c3_1 : Nat) (c3_3 : Int32) (c15_4 : Int32) (rec3 : Int32 → gS → Option (gS)) (ih3 : ∀ (a4 : Int32) (σ1 : gS), rec3 a4 σ1 = some out → WW M (gQv M G zC out) G zC 7 σ1 3 [(0, .ref (G.2.1 197)), (1, .ref (G.2.1 c3_1)), (2, .ref (G.2.1 76)), (3, .int c3_3), (4, .int a4)] []) (rec15 : Int32 → Int32 → Option (gS)) (ih15 : ∀ (a5 : Int32) (a6 : Int32), rec15 a5 a6 = some out → WW M (gQv M G zC out) G zC 7 σ 15 [(0, .ref (G.2.1 197)), (1, .ref (G.2.1 c3_1)), (2, .ref (G.2.1 76)), (3, .int c3_3), (4, .int c15_4), (5, .int a5), (6, .int a6)] []) (a5 : Int32) (a6 : Int32) (hF : bX0_takePair_76_15 σ c3_1 c3_3 c15_4 rec3 rec15 a5 a6 = some out) : WW M (gQv M G zC out) G zC 7 σ 15 [(0, .ref (G.2.1 197)), (1, .ref (G.2.1 c3_1)), (2, .ref (G.2.1 76)), (3, .int c3_3), (4, .int c15_4), (5, .int a5), (6, .int a6)] [] := by
  unfold bX0_takePair_76_15 at hF
  refine ww_iload (pc := 15) X (j := 6) dX0_takePair_15 rfl ?_
  refine ww_iconst (pc := 17) X (v := 4) dX0_takePair_17 (by decide) ?_
  refine ww_icmp_ge (pc := 18) (tgt := 44) X dX0_takePair_18 (by decide) hF (fun h5 hF => ?_) (fun h5 hF => ?_)
  · refine ww_aload_n (pc := 44) X (j := 2) dX0_takePair_44 rfl rfl ?_
    refine ww_iload (pc := 45) X (j := 4) dX0_takePair_45 rfl ?_
    refine ww_aald (pc := 47) X dX0_takePair_47 shzC_76 rfl hF (fun h6 hF => ?_)
    refine ww_iload_n (pc := 48) X (j := 3) dX0_takePair_48 rfl rfl ?_
    refine ww_iload (pc := 49) X (j := 5) dX0_takePair_49 rfl ?_
    refine ww_iast (pc := 51) X dX0_takePair_51 (rwzC_76 _ (gb_lt h6)) rfl hF (fun σ7 eσ7 bσ7 hF => ?_)
    refine ww_aload_n (pc := 52) X (j := 0) dX0_takePair_52 rfl rfl ?_
    refine ww_dup (pc := 53) X dX0_takePair_53 rfl ?_
    refine ww_get (pc := 54) X (ref := "PictureBlock$Imager") (T := TX0) (j := 3) dX0_takePair_54 inX0_takePair_RX0 shzC_197 clzC_0 (by decide) rfl (List.mem_of_getElem? (i := 1) rfl) rfl ?_
    refine ww_iconst (pc := 57) X (v := 4) dX0_takePair_57 (by decide) ?_
    refine ww_iadd (pc := 58) X dX0_takePair_58 ?_
    refine ww_putI (pc := 59) X (ref := "PictureBlock$Imager") (T := TX0) (j := 3) dX0_takePair_59 inX0_takePair_RX0 tyX0 tyX0_ok nmX0 shzC_197 clzC_0 (by decide) rfl (List.mem_of_getElem? (i := 1) rfl) rfl rfl (by decide +kernel) hF (fun σ8 eσ8 hF => ?_)
    refine ww_iinc (pc := 62) X (j := 4) (v := 1) (lv' := [(0, .ref (G.2.1 197)), (1, .ref (G.2.1 c3_1)), (2, .ref (G.2.1 76)), (3, .int c3_3), (5, .int a5), (6, .int a6)]) dX0_takePair_62 rfl rfl (by decide) rfl hF (fun x9 ex9 hF => ?_)
    refine ww_goto (pc := 65) X (tgt := 3) dX0_takePair_65 (by decide) ?_
    exact ww_sub [1, 2, 3, 4, 0] rfl (ih3 x9 σ8 hF)
  · refine ww_iload (pc := 21) X (j := 5) dX0_takePair_21 rfl ?_
    refine ww_bipush (pc := 23) X (v := 8) dX0_takePair_23 (by decide) ?_
    refine ww_ishl (pc := 25) X dX0_takePair_25 ?_
    refine ww_aload_n (pc := 26) X (j := 1) dX0_takePair_26 rfl rfl ?_
    refine ww_aload_n (pc := 27) X (j := 0) dX0_takePair_27 rfl rfl ?_
    refine ww_get (pc := 28) X (ref := "PictureBlock$Imager") (T := TX0) (j := 3) dX0_takePair_28 inX0_takePair_RX0 shzC_197 clzC_0 (by decide) rfl (List.mem_of_getElem? (i := 1) rfl) rfl ?_
    refine ww_iload (pc := 31) X (j := 6) dX0_takePair_31 rfl ?_
    refine ww_iadd (pc := 33) X dX0_takePair_33 ?_
    refine ww_ialdS (pc := 34) X dX0_takePair_34  (t := 0) rfl hF (fun v10 ev10 bv10 hF => ?_)
    refine ww_ior (pc := 35) X dX0_takePair_35 ?_
    refine ww_istore (pc := 36) X (lv' := [(0, .ref (G.2.1 197)), (1, .ref (G.2.1 c3_1)), (2, .ref (G.2.1 76)), (3, .int c3_3), (4, .int c15_4), (6, .int a6)]) dX0_takePair_36 (by decide) rfl hF (fun x11 ex11 hF => ?_)
    refine ww_iinc (pc := 38) X (j := 6) (v := 1) (lv' := [(5, .int x11), (0, .ref (G.2.1 197)), (1, .ref (G.2.1 c3_1)), (2, .ref (G.2.1 76)), (3, .int c3_3), (4, .int c15_4)]) dX0_takePair_38 rfl rfl (by decide) rfl hF (fun x12 ex12 hF => ?_)
    refine ww_goto (pc := 41) X (tgt := 15) dX0_takePair_41 (by decide) ?_
    exact ww_sub [2, 3, 4, 5, 6, 1, 0] rfl (ih15 x11 x12 hF)
set_option maxRecDepth 100000 in
set_option maxHeartbeats 4000000 in
theorem wbX0_takePair_76_3 {M : gM} {G : gG} {out : gS} (X : gX M G zC cX0_takePair RX0 7 wsX0_takePair rmX0_takePair none) {ex : gEx} (hZ : ∀ s : State, G.2.2.2 s → kC ex (gA G zC.1) s) (σ : gS) (c3_1 : Nat) (c3_3 : Int32) (rec3 : Int32 → gS → Option (gS)) (ih3 : ∀ (a4 : Int32) (σ1 : gS), rec3 a4 σ1 = some out → WW M (gQv M G zC out) G zC 7 σ1 3 [(0, .ref (G.2.1 197)), (1, .ref (G.2.1 c3_1)), (2, .ref (G.2.1 76)), (3, .int c3_3), (4, .int a4)] []) (a4 : Int32) (σ1 : gS) (hF : bX0_takePair_76_3 σ c3_1 c3_3 rec3 a4 σ1 = some out) : WW M (gQv M G zC out) G zC 7 σ1 3 [(0, .ref (G.2.1 197)), (1, .ref (G.2.1 c3_1)), (2, .ref (G.2.1 76)), (3, .int c3_3), (4, .int a4)] [] := by
  unfold bX0_takePair_76_3 at hF
  refine ww_iload (pc := 3) X (j := 4) dX0_takePair_3 rfl ?_
  refine ww_iconst (pc := 5) X (v := 2) dX0_takePair_5 (by decide) ?_
  refine ww_icmp_ge (pc := 6) (tgt := 68) X dX0_takePair_6 (by decide) hF (fun h2 hF => ?_) (fun h2 hF => ?_)
  · exact ww_vret (pc := 68) X dX0_takePair_68 (by cases hF; rfl)
  · refine ww_iconst (pc := 9) X (v := 0) dX0_takePair_9 (by decide) ?_
    refine ww_istore (pc := 10) X (lv' := [(0, .ref (G.2.1 197)), (1, .ref (G.2.1 c3_1)), (2, .ref (G.2.1 76)), (3, .int c3_3), (4, .int a4)]) dX0_takePair_10 (by decide) rfl hF (fun x3 ex3 hF => ?_)
    refine ww_iconst (pc := 12) X (v := 0) dX0_takePair_12 (by decide) ?_
    refine ww_istore (pc := 13) X (lv' := [(5, .int x3), (0, .ref (G.2.1 197)), (1, .ref (G.2.1 c3_1)), (2, .ref (G.2.1 76)), (3, .int c3_3), (4, .int a4)]) dX0_takePair_13 (by decide) rfl hF (fun x4 ex4 hF => ?_)
    exact ww_sub [2, 3, 4, 5, 6, 1, 0] rfl (lpc_ind (P := (fun (s : Int32 × Int32) => WW M (gQv M G zC out) G zC 7 σ1 15 [(0, .ref (G.2.1 197)), (1, .ref (G.2.1 c3_1)), (2, .ref (G.2.1 76)), (3, .int c3_3), (4, .int a4), (5, .int s.1), (6, .int s.2)] [])) (fun rec s ih hF => wbX0_takePair_76_15 X hZ σ1 c3_1 c3_3 a4 rec3  ih3 (fun a5 a6 => rec (a5, a6)) (fun a5 a6 h => ih (a5, a6) h) s.1 s.2 hF) K9 (x3, x4) hF)
set_option maxRecDepth 100000 in
set_option maxHeartbeats 4000000 in
theorem wX0_takePair_76 {M : gM} {G : gG} {out : gS} (X : gX M G zC cX0_takePair RX0 7 wsX0_takePair rmX0_takePair none) {ex : gEx} (hZ : ∀ s : State, G.2.2.2 s → kC ex (gA G zC.1) s) (σ : gS) (p1 : Nat) (p3 : Int32) (hF : fX0_takePair_76 σ p1 p3 = some out) : WW M (gQv M G zC out) G zC 7 σ 0 [(0, .ref (G.2.1 197)), (1, .ref (G.2.1 p1)), (2, .ref (G.2.1 76)), (3, .int p3)] [] := by
  unfold fX0_takePair_76 at hF
  refine ww_iconst (pc := 0) X (v := 0) dX0_takePair_0 (by decide) ?_
  refine ww_istore (pc := 1) X (lv' := [(0, .ref (G.2.1 197)), (1, .ref (G.2.1 p1)), (2, .ref (G.2.1 76)), (3, .int p3)]) dX0_takePair_1 (by decide) rfl hF (fun x1 ex1 hF => ?_)
  exact ww_sub [1, 2, 3, 4, 0] rfl (lpc_ind (P := (fun (s : Int32 × gS) => WW M (gQv M G zC out) G zC 7 s.2 3 [(0, .ref (G.2.1 197)), (1, .ref (G.2.1 p1)), (2, .ref (G.2.1 76)), (3, .int p3), (4, .int s.1)] [])) (fun rec s ih hF => wbX0_takePair_76_3 X hZ σ p1 p3 (fun a4 σ1 => rec (a4, σ1)) (fun a4 σ1 h => ih (a4, σ1) h) s.1 s.2 hF) K9 (x1, σ) hF)
set_option maxRecDepth 100000 in
set_option maxHeartbeats 4000000 in
theorem kX0_takePair_76 (l : Launch) (G : gG) {ex : gEx} (hZ : ∀ s : State, G.2.2.2 s → kC ex (gA G zC.1) s) (hG : gOK G zC.1) (hT : G.2.2.1.map (fun q => q.2) = zC.2.1) (σ : gS) (p1 : Nat) (p3 : Int32) (out : gS) (hF : fX0_takePair_76 σ p1 p3 = some out) : gCv l yX0_takePair wsX0_takePair rmX0_takePair G zC [.ref (G.2.1 197), .ref (G.2.1 p1), .ref (G.2.1 76), .int p3] σ out :=
  gEnter (by decide) rfl ⟨rfl, rfl⟩ hG hT (Nat.le_of_ble_eq_true rfl) rfl (fun M X hl => wX0_takePair_76 X hZ σ p1 p3 hF)
noncomputable def bX0_takePair_73_15 (σ : gS) (c3_1 : Nat) (c3_3 : Int32) (c15_4 : Int32) (rec3 : Int32 → gS → Option (gS)) (rec15 : Int32 → Int32 → Option (gS)) (a5 : Int32) (a6 : Int32) : Option (gS) :=
  if 4 ≤ a6 then gd (gb c15_4 2) <| gd (gb c3_3 12) <| nm (gsI σ (74 + c15_4.toNatClampNeg) c3_3.toNatClampNeg a5) fun σ7 => nm (gsI σ7 197 3 ((σ7.1 197 3) + 4)) fun σ8 => nm (c15_4 + 1 : Int32) fun x9 => rec3 x9 σ8 else gd (gb ((σ.1 197 3) + a6) (gsz zC.1 0 0 c3_1)) <| nm (σ.1 c3_1 ((σ.1 197 3) + a6).toNatClampNeg) fun v10 => nm ((a5 <<< (8 &&& 31)) ||| v10 : Int32) fun x11 => nm (a6 + 1 : Int32) fun x12 => rec15 x11 x12
noncomputable def bX0_takePair_73_3 (σ : gS) (c3_1 : Nat) (c3_3 : Int32) (rec3 : Int32 → gS → Option (gS)) (a4 : Int32) (σ1 : gS) : Option (gS) :=
  if 2 ≤ a4 then some σ1 else nm (0 : Int32) fun x3 => nm (0 : Int32) fun x4 => lpc (S := Int32 × Int32) K9 (fun rec s => bX0_takePair_73_15 σ1 c3_1 c3_3 a4 rec3 (fun a5 a6 => rec (a5, a6)) s.1 s.2) (x3, x4)
noncomputable def fX0_takePair_73 (σ : gS) (p1 : Nat) (p3 : Int32) : Option (gS) :=
  nm (0 : Int32) fun x1 => lpc (S := Int32 × gS) K9 (fun rec s => bX0_takePair_73_3 σ p1 p3 (fun a4 σ1 => rec (a4, σ1)) s.1 s.2) (x1, σ)
set_option maxRecDepth 100000 in
set_option maxHeartbeats 4000000 in
theorem wbX0_takePair_73_15 {M : gM} {G : gG} {out : gS} (X : gX M G zC cX0_takePair RX0 7 wsX0_takePair rmX0_takePair none) {ex : gEx} (hZ : ∀ s : State, G.2.2.2 s → kC ex (gA G zC.1) s) (σ : gS) (c3_1 : Nat) (c3_3 : Int32) (c15_4 : Int32) (rec3 : Int32 → gS → Option (gS)) (ih3 : ∀ (a4 : Int32) (σ1 : gS), rec3 a4 σ1 = some out → WW M (gQv M G zC out) G zC 7 σ1 3 [(0, .ref (G.2.1 197)), (1, .ref (G.2.1 c3_1)), (2, .ref (G.2.1 73)), (3, .int c3_3), (4, .int a4)] []) (rec15 : Int32 → Int32 → Option (gS)) (ih15 : ∀ (a5 : Int32) (a6 : Int32), rec15 a5 a6 = some out → WW M (gQv M G zC out) G zC 7 σ 15 [(0, .ref (G.2.1 197)), (1, .ref (G.2.1 c3_1)), (2, .ref (G.2.1 73)), (3, .int c3_3), (4, .int c15_4), (5, .int a5), (6, .int a6)] []) (a5 : Int32) (a6 : Int32) (hF : bX0_takePair_73_15 σ c3_1 c3_3 c15_4 rec3 rec15 a5 a6 = some out) : WW M (gQv M G zC out) G zC 7 σ 15 [(0, .ref (G.2.1 197)), (1, .ref (G.2.1 c3_1)), (2, .ref (G.2.1 73)), (3, .int c3_3), (4, .int c15_4), (5, .int a5), (6, .int a6)] [] := by
  unfold bX0_takePair_73_15 at hF
  refine ww_iload (pc := 15) X (j := 6) dX0_takePair_15 rfl ?_
  refine ww_iconst (pc := 17) X (v := 4) dX0_takePair_17 (by decide) ?_
  refine ww_icmp_ge (pc := 18) (tgt := 44) X dX0_takePair_18 (by decide) hF (fun h5 hF => ?_) (fun h5 hF => ?_)
  · refine ww_aload_n (pc := 44) X (j := 2) dX0_takePair_44 rfl rfl ?_
    refine ww_iload (pc := 45) X (j := 4) dX0_takePair_45 rfl ?_
    refine ww_aald (pc := 47) X dX0_takePair_47 shzC_73 rfl hF (fun h6 hF => ?_)
    refine ww_iload_n (pc := 48) X (j := 3) dX0_takePair_48 rfl rfl ?_
    refine ww_iload (pc := 49) X (j := 5) dX0_takePair_49 rfl ?_
    refine ww_iast (pc := 51) X dX0_takePair_51 (rwzC_73 _ (gb_lt h6)) rfl hF (fun σ7 eσ7 bσ7 hF => ?_)
    refine ww_aload_n (pc := 52) X (j := 0) dX0_takePair_52 rfl rfl ?_
    refine ww_dup (pc := 53) X dX0_takePair_53 rfl ?_
    refine ww_get (pc := 54) X (ref := "PictureBlock$Imager") (T := TX0) (j := 3) dX0_takePair_54 inX0_takePair_RX0 shzC_197 clzC_0 (by decide) rfl (List.mem_of_getElem? (i := 1) rfl) rfl ?_
    refine ww_iconst (pc := 57) X (v := 4) dX0_takePair_57 (by decide) ?_
    refine ww_iadd (pc := 58) X dX0_takePair_58 ?_
    refine ww_putI (pc := 59) X (ref := "PictureBlock$Imager") (T := TX0) (j := 3) dX0_takePair_59 inX0_takePair_RX0 tyX0 tyX0_ok nmX0 shzC_197 clzC_0 (by decide) rfl (List.mem_of_getElem? (i := 1) rfl) rfl rfl (by decide +kernel) hF (fun σ8 eσ8 hF => ?_)
    refine ww_iinc (pc := 62) X (j := 4) (v := 1) (lv' := [(0, .ref (G.2.1 197)), (1, .ref (G.2.1 c3_1)), (2, .ref (G.2.1 73)), (3, .int c3_3), (5, .int a5), (6, .int a6)]) dX0_takePair_62 rfl rfl (by decide) rfl hF (fun x9 ex9 hF => ?_)
    refine ww_goto (pc := 65) X (tgt := 3) dX0_takePair_65 (by decide) ?_
    exact ww_sub [1, 2, 3, 4, 0] rfl (ih3 x9 σ8 hF)
  · refine ww_iload (pc := 21) X (j := 5) dX0_takePair_21 rfl ?_
    refine ww_bipush (pc := 23) X (v := 8) dX0_takePair_23 (by decide) ?_
    refine ww_ishl (pc := 25) X dX0_takePair_25 ?_
    refine ww_aload_n (pc := 26) X (j := 1) dX0_takePair_26 rfl rfl ?_
    refine ww_aload_n (pc := 27) X (j := 0) dX0_takePair_27 rfl rfl ?_
    refine ww_get (pc := 28) X (ref := "PictureBlock$Imager") (T := TX0) (j := 3) dX0_takePair_28 inX0_takePair_RX0 shzC_197 clzC_0 (by decide) rfl (List.mem_of_getElem? (i := 1) rfl) rfl ?_
    refine ww_iload (pc := 31) X (j := 6) dX0_takePair_31 rfl ?_
    refine ww_iadd (pc := 33) X dX0_takePair_33 ?_
    refine ww_ialdS (pc := 34) X dX0_takePair_34  (t := 0) rfl hF (fun v10 ev10 bv10 hF => ?_)
    refine ww_ior (pc := 35) X dX0_takePair_35 ?_
    refine ww_istore (pc := 36) X (lv' := [(0, .ref (G.2.1 197)), (1, .ref (G.2.1 c3_1)), (2, .ref (G.2.1 73)), (3, .int c3_3), (4, .int c15_4), (6, .int a6)]) dX0_takePair_36 (by decide) rfl hF (fun x11 ex11 hF => ?_)
    refine ww_iinc (pc := 38) X (j := 6) (v := 1) (lv' := [(5, .int x11), (0, .ref (G.2.1 197)), (1, .ref (G.2.1 c3_1)), (2, .ref (G.2.1 73)), (3, .int c3_3), (4, .int c15_4)]) dX0_takePair_38 rfl rfl (by decide) rfl hF (fun x12 ex12 hF => ?_)
    refine ww_goto (pc := 41) X (tgt := 15) dX0_takePair_41 (by decide) ?_
    exact ww_sub [2, 3, 4, 5, 6, 1, 0] rfl (ih15 x11 x12 hF)
set_option maxRecDepth 100000 in
set_option maxHeartbeats 4000000 in
theorem wbX0_takePair_73_3 {M : gM} {G : gG} {out : gS} (X : gX M G zC cX0_takePair RX0 7 wsX0_takePair rmX0_takePair none) {ex : gEx} (hZ : ∀ s : State, G.2.2.2 s → kC ex (gA G zC.1) s) (σ : gS) (c3_1 : Nat) (c3_3 : Int32) (rec3 : Int32 → gS → Option (gS)) (ih3 : ∀ (a4 : Int32) (σ1 : gS), rec3 a4 σ1 = some out → WW M (gQv M G zC out) G zC 7 σ1 3 [(0, .ref (G.2.1 197)), (1, .ref (G.2.1 c3_1)), (2, .ref (G.2.1 73)), (3, .int c3_3), (4, .int a4)] []) (a4 : Int32) (σ1 : gS) (hF : bX0_takePair_73_3 σ c3_1 c3_3 rec3 a4 σ1 = some out) : WW M (gQv M G zC out) G zC 7 σ1 3 [(0, .ref (G.2.1 197)), (1, .ref (G.2.1 c3_1)), (2, .ref (G.2.1 73)), (3, .int c3_3), (4, .int a4)] [] := by
  unfold bX0_takePair_73_3 at hF
  refine ww_iload (pc := 3) X (j := 4) dX0_takePair_3 rfl ?_
  refine ww_iconst (pc := 5) X (v := 2) dX0_takePair_5 (by decide) ?_
  refine ww_icmp_ge (pc := 6) (tgt := 68) X dX0_takePair_6 (by decide) hF (fun h2 hF => ?_) (fun h2 hF => ?_)
  · exact ww_vret (pc := 68) X dX0_takePair_68 (by cases hF; rfl)
  · refine ww_iconst (pc := 9) X (v := 0) dX0_takePair_9 (by decide) ?_
    refine ww_istore (pc := 10) X (lv' := [(0, .ref (G.2.1 197)), (1, .ref (G.2.1 c3_1)), (2, .ref (G.2.1 73)), (3, .int c3_3), (4, .int a4)]) dX0_takePair_10 (by decide) rfl hF (fun x3 ex3 hF => ?_)
    refine ww_iconst (pc := 12) X (v := 0) dX0_takePair_12 (by decide) ?_
    refine ww_istore (pc := 13) X (lv' := [(5, .int x3), (0, .ref (G.2.1 197)), (1, .ref (G.2.1 c3_1)), (2, .ref (G.2.1 73)), (3, .int c3_3), (4, .int a4)]) dX0_takePair_13 (by decide) rfl hF (fun x4 ex4 hF => ?_)
    exact ww_sub [2, 3, 4, 5, 6, 1, 0] rfl (lpc_ind (P := (fun (s : Int32 × Int32) => WW M (gQv M G zC out) G zC 7 σ1 15 [(0, .ref (G.2.1 197)), (1, .ref (G.2.1 c3_1)), (2, .ref (G.2.1 73)), (3, .int c3_3), (4, .int a4), (5, .int s.1), (6, .int s.2)] [])) (fun rec s ih hF => wbX0_takePair_73_15 X hZ σ1 c3_1 c3_3 a4 rec3  ih3 (fun a5 a6 => rec (a5, a6)) (fun a5 a6 h => ih (a5, a6) h) s.1 s.2 hF) K9 (x3, x4) hF)
set_option maxRecDepth 100000 in
set_option maxHeartbeats 4000000 in
theorem wX0_takePair_73 {M : gM} {G : gG} {out : gS} (X : gX M G zC cX0_takePair RX0 7 wsX0_takePair rmX0_takePair none) {ex : gEx} (hZ : ∀ s : State, G.2.2.2 s → kC ex (gA G zC.1) s) (σ : gS) (p1 : Nat) (p3 : Int32) (hF : fX0_takePair_73 σ p1 p3 = some out) : WW M (gQv M G zC out) G zC 7 σ 0 [(0, .ref (G.2.1 197)), (1, .ref (G.2.1 p1)), (2, .ref (G.2.1 73)), (3, .int p3)] [] := by
  unfold fX0_takePair_73 at hF
  refine ww_iconst (pc := 0) X (v := 0) dX0_takePair_0 (by decide) ?_
  refine ww_istore (pc := 1) X (lv' := [(0, .ref (G.2.1 197)), (1, .ref (G.2.1 p1)), (2, .ref (G.2.1 73)), (3, .int p3)]) dX0_takePair_1 (by decide) rfl hF (fun x1 ex1 hF => ?_)
  exact ww_sub [1, 2, 3, 4, 0] rfl (lpc_ind (P := (fun (s : Int32 × gS) => WW M (gQv M G zC out) G zC 7 s.2 3 [(0, .ref (G.2.1 197)), (1, .ref (G.2.1 p1)), (2, .ref (G.2.1 73)), (3, .int p3), (4, .int s.1)] [])) (fun rec s ih hF => wbX0_takePair_73_3 X hZ σ p1 p3 (fun a4 σ1 => rec (a4, σ1)) (fun a4 σ1 h => ih (a4, σ1) h) s.1 s.2 hF) K9 (x1, σ) hF)
set_option maxRecDepth 100000 in
set_option maxHeartbeats 4000000 in
theorem kX0_takePair_73 (l : Launch) (G : gG) {ex : gEx} (hZ : ∀ s : State, G.2.2.2 s → kC ex (gA G zC.1) s) (hG : gOK G zC.1) (hT : G.2.2.1.map (fun q => q.2) = zC.2.1) (σ : gS) (p1 : Nat) (p3 : Int32) (out : gS) (hF : fX0_takePair_73 σ p1 p3 = some out) : gCv l yX0_takePair wsX0_takePair rmX0_takePair G zC [.ref (G.2.1 197), .ref (G.2.1 p1), .ref (G.2.1 73), .int p3] σ out :=
  gEnter (by decide) rfl ⟨rfl, rfl⟩ hG hT (Nat.le_of_ble_eq_true rfl) rfl (fun M X hl => wX0_takePair_73 X hZ σ p1 p3 hF)
noncomputable def bX0_take_71_129 (σ : gS) (c129_1 : Nat) (rec129 : Int32 → gS → Option (gS)) (a3 : Int32) (σ1 : gS) : Option (gS) :=
  gd (gb 3 6) <| nm (σ1.1 3 ((3 : Int32).toNatClampNeg)) fun v14 => (if v14 ≤ a3 then some σ1 else gd (gb (σ1.1 197 3) (gsz zC.1 0 0 c129_1)) <| nm (σ1.1 c129_1 (σ1.1 197 3).toNatClampNeg) fun v16 => gd (gb a3 60) <| nm (gsI σ1 82 a3.toNatClampNeg v16) fun σ17 => nm (gsI σ17 197 3 ((σ17.1 197 3) + 1)) fun σ18 => nm (a3 + 1 : Int32) fun x19 => rec129 x19 σ18)
noncomputable def bX0_take_71_98 (σ : gS) (c98_1 : Nat) (rec98 : Int32 → gS → Option (gS)) (a3 : Int32) (σ1 : gS) : Option (gS) :=
  gd (gb 0 6) <| nm (σ1.1 3 ((0 : Int32).toNatClampNeg)) fun v11 => (if v11 ≤ a3 then nm (0 : Int32) fun x13 => lpc (S := Int32 × gS) K9 (fun rec s => bX0_take_71_129 σ1 c98_1 (fun a3 σ1 => rec (a3, σ1)) s.1 s.2) (x13, σ1) else bd (fX0_takePair_79 σ1 c98_1 a3) fun σ21 => nm (a3 + 1 : Int32) fun x22 => rec98 x22 σ21)
noncomputable def bX0_take_71_67 (σ : gS) (c67_1 : Nat) (rec67 : Int32 → gS → Option (gS)) (a3 : Int32) (σ1 : gS) : Option (gS) :=
  gd (gb 2 6) <| nm (σ1.1 3 ((2 : Int32).toNatClampNeg)) fun v8 => (if v8 ≤ a3 then nm (0 : Int32) fun x10 => lpc (S := Int32 × gS) K9 (fun rec s => bX0_take_71_98 σ1 c67_1 (fun a3 σ1 => rec (a3, σ1)) s.1 s.2) (x10, σ1) else bd (fX0_takePair_76 σ1 c67_1 a3) fun σ24 => nm (a3 + 1 : Int32) fun x25 => rec67 x25 σ24)
noncomputable def bX0_take_71_14 (σ : gS) (c14_1 : Nat) (rec14 : Int32 → gS → Option (gS)) (a3 : Int32) (σ1 : gS) : Option (gS) :=
  gd (gb 1 6) <| nm (σ1.1 3 ((1 : Int32).toNatClampNeg)) fun v5 => (if v5 ≤ a3 then nm (0 : Int32) fun x7 => lpc (S := Int32 × gS) K9 (fun rec s => bX0_take_71_67 σ1 c14_1 (fun a3 σ1 => rec (a3, σ1)) s.1 s.2) (x7, σ1) else gd (gb (σ1.1 197 3) (gsz zC.1 0 0 c14_1)) <| nm (σ1.1 c14_1 (σ1.1 197 3).toNatClampNeg) fun v26 => gd (gb a3 12) <| nm (gsI σ1 72 a3.toNatClampNeg v26) fun σ27 => nm (gsI σ27 197 3 ((σ27.1 197 3) + 1)) fun σ28 => bd (fX0_takePair_73 σ28 c14_1 a3) fun σ30 => nm (a3 + 1 : Int32) fun x31 => rec14 x31 σ30)
noncomputable def fX0_take_71 (σ : gS) (p1 : Nat) : Option (gS) :=
  gd (gb 0 (gsz zC.1 0 0 p1)) <| nm (σ.1 p1 ((0 : Int32).toNatClampNeg)) fun v1 => nm (gsI σ 71 1 v1) fun σ2 => nm (gsI σ2 197 3 1) fun σ3 => nm (0 : Int32) fun x4 => lpc (S := Int32 × gS) K9 (fun rec s => bX0_take_71_14 σ3 p1 (fun a3 σ1 => rec (a3, σ1)) s.1 s.2) (x4, σ3)
noncomputable abbrev rmX0_take : Room := { frames := 1, cells := 0, slots := 0, locals := 26 }
set_option maxRecDepth 100000 in
set_option maxHeartbeats 4000000 in
theorem wbX0_take_71_129 {M : gM} {G : gG} {out : gS} (X : gX M G zC cX0_take RX0 4 wsX0_take rmX0_take none) {ex : gEx} (hZ : ∀ s : State, G.2.2.2 s → kC ex (gA G zC.1) s) (σ : gS) (c129_1 : Nat) (rec129 : Int32 → gS → Option (gS)) (ih129 : ∀ (a3 : Int32) (σ1 : gS), rec129 a3 σ1 = some out → WW M (gQv M G zC out) G zC 4 σ1 129 [(0, .ref (G.2.1 197)), (1, .ref (G.2.1 c129_1)), (2, .ref (G.2.1 71)), (3, .int a3)] []) (a3 : Int32) (σ1 : gS) (hF : bX0_take_71_129 σ c129_1 rec129 a3 σ1 = some out) : WW M (gQv M G zC out) G zC 4 σ1 129 [(0, .ref (G.2.1 197)), (1, .ref (G.2.1 c129_1)), (2, .ref (G.2.1 71)), (3, .int a3)] [] := by
  unfold bX0_take_71_129 at hF
  refine ww_iload_n (pc := 129) X (j := 3) dX0_take_129 rfl rfl ?_
  refine ww_aload_n (pc := 130) X (j := 0) dX0_take_130 rfl rfl ?_
  refine ww_get (pc := 131) X (ref := "PictureBlock$Imager") (T := TX0) (j := 0) dX0_take_131 inX0_take_RX0 shzC_197 clzC_0 (by decide) rfl (List.mem_of_getElem? (i := 3) rfl) rfl ?_
  refine ww_get (pc := 134) X (ref := "PictureBlock$Told") (T := TX8) (j := 0) dX0_take_134 inX0_take_RX8 shzC_2 clzC_8 (by decide) rfl (List.mem_of_getElem? (i := 4) rfl) rfl ?_
  refine ww_iconst (pc := 137) X (v := 3) dX0_take_137 (by decide) ?_
  refine ww_iald (pc := 138) X dX0_take_138 shzC_3 rfl hF (fun v14 ev14 bv14 hF => ?_)
  refine ww_icmp_ge (pc := 139) (tgt := 170) X dX0_take_139 (by decide) hF (fun h15 hF => ?_) (fun h15 hF => ?_)
  · exact ww_vret (pc := 170) X dX0_take_170 (by cases hF; rfl)
  · refine ww_aload_n (pc := 142) X (j := 2) dX0_take_142 rfl rfl ?_
    refine ww_get (pc := 143) X (ref := "PictureBlock$Stand") (T := TX5) (j := 6) dX0_take_143 inX0_take_RX5 shzC_71 clzC_5 (by decide) rfl (List.mem_of_getElem? (i := 9) rfl) rfl ?_
    refine ww_iload_n (pc := 146) X (j := 3) dX0_take_146 rfl rfl ?_
    refine ww_aload_n (pc := 147) X (j := 1) dX0_take_147 rfl rfl ?_
    refine ww_aload_n (pc := 148) X (j := 0) dX0_take_148 rfl rfl ?_
    refine ww_get (pc := 149) X (ref := "PictureBlock$Imager") (T := TX0) (j := 3) dX0_take_149 inX0_take_RX0 shzC_197 clzC_0 (by decide) rfl (List.mem_of_getElem? (i := 2) rfl) rfl ?_
    refine ww_ialdS (pc := 152) X dX0_take_152  (t := 0) rfl hF (fun v16 ev16 bv16 hF => ?_)
    refine ww_iast (pc := 153) X dX0_take_153 shzC_82 rfl hF (fun σ17 eσ17 bσ17 hF => ?_)
    refine ww_aload_n (pc := 154) X (j := 0) dX0_take_154 rfl rfl ?_
    refine ww_dup (pc := 155) X dX0_take_155 rfl ?_
    refine ww_get (pc := 156) X (ref := "PictureBlock$Imager") (T := TX0) (j := 3) dX0_take_156 inX0_take_RX0 shzC_197 clzC_0 (by decide) rfl (List.mem_of_getElem? (i := 2) rfl) rfl ?_
    refine ww_iconst (pc := 159) X (v := 1) dX0_take_159 (by decide) ?_
    refine ww_iadd (pc := 160) X dX0_take_160 ?_
    refine ww_putI (pc := 161) X (ref := "PictureBlock$Imager") (T := TX0) (j := 3) dX0_take_161 inX0_take_RX0 tyX0 tyX0_ok nmX0 shzC_197 clzC_0 (by decide) rfl (List.mem_of_getElem? (i := 2) rfl) rfl rfl (by decide +kernel) hF (fun σ18 eσ18 hF => ?_)
    refine ww_iinc (pc := 164) X (j := 3) (v := 1) (lv' := [(0, .ref (G.2.1 197)), (1, .ref (G.2.1 c129_1)), (2, .ref (G.2.1 71))]) dX0_take_164 rfl rfl (by decide) rfl hF (fun x19 ex19 hF => ?_)
    refine ww_goto (pc := 167) X (tgt := 129) dX0_take_167 (by decide) ?_
    exact ww_sub [1, 2, 3, 0] rfl (ih129 x19 σ18 hF)
set_option maxRecDepth 100000 in
set_option maxHeartbeats 4000000 in
theorem wbX0_take_71_98 {M : gM} {G : gG} {out : gS} (X : gX M G zC cX0_take RX0 4 wsX0_take rmX0_take none) {ex : gEx} (hZ : ∀ s : State, G.2.2.2 s → kC ex (gA G zC.1) s) (σ : gS) (c98_1 : Nat) (rec98 : Int32 → gS → Option (gS)) (ih98 : ∀ (a3 : Int32) (σ1 : gS), rec98 a3 σ1 = some out → WW M (gQv M G zC out) G zC 4 σ1 98 [(0, .ref (G.2.1 197)), (1, .ref (G.2.1 c98_1)), (2, .ref (G.2.1 71)), (3, .int a3)] []) (a3 : Int32) (σ1 : gS) (hF : bX0_take_71_98 σ c98_1 rec98 a3 σ1 = some out) : WW M (gQv M G zC out) G zC 4 σ1 98 [(0, .ref (G.2.1 197)), (1, .ref (G.2.1 c98_1)), (2, .ref (G.2.1 71)), (3, .int a3)] [] := by
  unfold bX0_take_71_98 at hF
  refine ww_iload_n (pc := 98) X (j := 3) dX0_take_98 rfl rfl ?_
  refine ww_aload_n (pc := 99) X (j := 0) dX0_take_99 rfl rfl ?_
  refine ww_get (pc := 100) X (ref := "PictureBlock$Imager") (T := TX0) (j := 0) dX0_take_100 inX0_take_RX0 shzC_197 clzC_0 (by decide) rfl (List.mem_of_getElem? (i := 3) rfl) rfl ?_
  refine ww_get (pc := 103) X (ref := "PictureBlock$Told") (T := TX8) (j := 0) dX0_take_103 inX0_take_RX8 shzC_2 clzC_8 (by decide) rfl (List.mem_of_getElem? (i := 4) rfl) rfl ?_
  refine ww_iconst (pc := 106) X (v := 0) dX0_take_106 (by decide) ?_
  refine ww_iald (pc := 107) X dX0_take_107 shzC_3 rfl hF (fun v11 ev11 bv11 hF => ?_)
  refine ww_icmp_ge (pc := 108) (tgt := 127) X dX0_take_108 (by decide) hF (fun h12 hF => ?_) (fun h12 hF => ?_)
  · refine ww_iconst (pc := 127) X (v := 0) dX0_take_127 (by decide) ?_
    refine ww_istore_n (pc := 128) X (lv' := [(0, .ref (G.2.1 197)), (1, .ref (G.2.1 c98_1)), (2, .ref (G.2.1 71))]) dX0_take_128 rfl (by decide) rfl hF (fun x13 ex13 hF => ?_)
    exact ww_sub [1, 2, 3, 0] rfl (lpc_ind (P := (fun (s : Int32 × gS) => WW M (gQv M G zC out) G zC 4 s.2 129 [(0, .ref (G.2.1 197)), (1, .ref (G.2.1 c98_1)), (2, .ref (G.2.1 71)), (3, .int s.1)] [])) (fun rec s ih hF => wbX0_take_71_129 X hZ σ1 c98_1 (fun a3 σ1 => rec (a3, σ1)) (fun a3 σ1 h => ih (a3, σ1) h) s.1 s.2 hF) K9 (x13, σ1) hF)
  · refine ww_aload_n (pc := 111) X (j := 0) dX0_take_111 rfl rfl ?_
    refine ww_aload_n (pc := 112) X (j := 1) dX0_take_112 rfl rfl ?_
    refine ww_aload_n (pc := 113) X (j := 2) dX0_take_113 rfl rfl ?_
    refine ww_get (pc := 114) X (ref := "PictureBlock$Stand") (T := TX5) (j := 5) dX0_take_114 inX0_take_RX5 shzC_71 clzC_5 (by decide) rfl (List.mem_of_getElem? (i := 8) rfl) rfl ?_
    refine ww_iload_n (pc := 117) X (j := 3) dX0_take_117 rfl rfl ?_
    obtain ⟨σ21, h20, hF⟩ := bd_some hF
    refine ww_callVv (pc := 118) X (As := [.ref (G.2.1 c98_1), .ref (G.2.1 79), .int a3]) (rest := []) dX0_take_118 (kX0_takePair_79 (mL M) G hZ X.2.2.2.2.2.2.1 X.2.2.2.2.2.2.2.1 σ1 c98_1 a3 σ21 h20) rfl shzC_197 clzC_0 gX0_take_X0_takePair hyX0_takePair ⟨rfl, rfl⟩ ⟨Nat.le_of_ble_eq_true rfl, Nat.le_of_ble_eq_true rfl⟩ rfl rfl (Nat.le_of_ble_eq_true rfl) ?_
    refine ww_iinc (pc := 121) X (j := 3) (v := 1) (lv' := [(0, .ref (G.2.1 197)), (1, .ref (G.2.1 c98_1)), (2, .ref (G.2.1 71))]) dX0_take_121 rfl rfl (by decide) rfl hF (fun x22 ex22 hF => ?_)
    refine ww_goto (pc := 124) X (tgt := 98) dX0_take_124 (by decide) ?_
    exact ww_sub [1, 2, 3, 0] rfl (ih98 x22 σ21 hF)
set_option maxRecDepth 100000 in
set_option maxHeartbeats 4000000 in
theorem wbX0_take_71_67 {M : gM} {G : gG} {out : gS} (X : gX M G zC cX0_take RX0 4 wsX0_take rmX0_take none) {ex : gEx} (hZ : ∀ s : State, G.2.2.2 s → kC ex (gA G zC.1) s) (σ : gS) (c67_1 : Nat) (rec67 : Int32 → gS → Option (gS)) (ih67 : ∀ (a3 : Int32) (σ1 : gS), rec67 a3 σ1 = some out → WW M (gQv M G zC out) G zC 4 σ1 67 [(0, .ref (G.2.1 197)), (1, .ref (G.2.1 c67_1)), (2, .ref (G.2.1 71)), (3, .int a3)] []) (a3 : Int32) (σ1 : gS) (hF : bX0_take_71_67 σ c67_1 rec67 a3 σ1 = some out) : WW M (gQv M G zC out) G zC 4 σ1 67 [(0, .ref (G.2.1 197)), (1, .ref (G.2.1 c67_1)), (2, .ref (G.2.1 71)), (3, .int a3)] [] := by
  unfold bX0_take_71_67 at hF
  refine ww_iload_n (pc := 67) X (j := 3) dX0_take_67 rfl rfl ?_
  refine ww_aload_n (pc := 68) X (j := 0) dX0_take_68 rfl rfl ?_
  refine ww_get (pc := 69) X (ref := "PictureBlock$Imager") (T := TX0) (j := 0) dX0_take_69 inX0_take_RX0 shzC_197 clzC_0 (by decide) rfl (List.mem_of_getElem? (i := 3) rfl) rfl ?_
  refine ww_get (pc := 72) X (ref := "PictureBlock$Told") (T := TX8) (j := 0) dX0_take_72 inX0_take_RX8 shzC_2 clzC_8 (by decide) rfl (List.mem_of_getElem? (i := 4) rfl) rfl ?_
  refine ww_iconst (pc := 75) X (v := 2) dX0_take_75 (by decide) ?_
  refine ww_iald (pc := 76) X dX0_take_76 shzC_3 rfl hF (fun v8 ev8 bv8 hF => ?_)
  refine ww_icmp_ge (pc := 77) (tgt := 96) X dX0_take_77 (by decide) hF (fun h9 hF => ?_) (fun h9 hF => ?_)
  · refine ww_iconst (pc := 96) X (v := 0) dX0_take_96 (by decide) ?_
    refine ww_istore_n (pc := 97) X (lv' := [(0, .ref (G.2.1 197)), (1, .ref (G.2.1 c67_1)), (2, .ref (G.2.1 71))]) dX0_take_97 rfl (by decide) rfl hF (fun x10 ex10 hF => ?_)
    exact ww_sub [1, 2, 3, 0] rfl (lpc_ind (P := (fun (s : Int32 × gS) => WW M (gQv M G zC out) G zC 4 s.2 98 [(0, .ref (G.2.1 197)), (1, .ref (G.2.1 c67_1)), (2, .ref (G.2.1 71)), (3, .int s.1)] [])) (fun rec s ih hF => wbX0_take_71_98 X hZ σ1 c67_1 (fun a3 σ1 => rec (a3, σ1)) (fun a3 σ1 h => ih (a3, σ1) h) s.1 s.2 hF) K9 (x10, σ1) hF)
  · refine ww_aload_n (pc := 80) X (j := 0) dX0_take_80 rfl rfl ?_
    refine ww_aload_n (pc := 81) X (j := 1) dX0_take_81 rfl rfl ?_
    refine ww_aload_n (pc := 82) X (j := 2) dX0_take_82 rfl rfl ?_
    refine ww_get (pc := 83) X (ref := "PictureBlock$Stand") (T := TX5) (j := 4) dX0_take_83 inX0_take_RX5 shzC_71 clzC_5 (by decide) rfl (List.mem_of_getElem? (i := 7) rfl) rfl ?_
    refine ww_iload_n (pc := 86) X (j := 3) dX0_take_86 rfl rfl ?_
    obtain ⟨σ24, h23, hF⟩ := bd_some hF
    refine ww_callVv (pc := 87) X (As := [.ref (G.2.1 c67_1), .ref (G.2.1 76), .int a3]) (rest := []) dX0_take_87 (kX0_takePair_76 (mL M) G hZ X.2.2.2.2.2.2.1 X.2.2.2.2.2.2.2.1 σ1 c67_1 a3 σ24 h23) rfl shzC_197 clzC_0 gX0_take_X0_takePair hyX0_takePair ⟨rfl, rfl⟩ ⟨Nat.le_of_ble_eq_true rfl, Nat.le_of_ble_eq_true rfl⟩ rfl rfl (Nat.le_of_ble_eq_true rfl) ?_
    refine ww_iinc (pc := 90) X (j := 3) (v := 1) (lv' := [(0, .ref (G.2.1 197)), (1, .ref (G.2.1 c67_1)), (2, .ref (G.2.1 71))]) dX0_take_90 rfl rfl (by decide) rfl hF (fun x25 ex25 hF => ?_)
    refine ww_goto (pc := 93) X (tgt := 67) dX0_take_93 (by decide) ?_
    exact ww_sub [1, 2, 3, 0] rfl (ih67 x25 σ24 hF)
set_option maxRecDepth 100000 in
set_option maxHeartbeats 4000000 in
theorem wbX0_take_71_14 {M : gM} {G : gG} {out : gS} (X : gX M G zC cX0_take RX0 4 wsX0_take rmX0_take none) {ex : gEx} (hZ : ∀ s : State, G.2.2.2 s → kC ex (gA G zC.1) s) (σ : gS) (c14_1 : Nat) (rec14 : Int32 → gS → Option (gS)) (ih14 : ∀ (a3 : Int32) (σ1 : gS), rec14 a3 σ1 = some out → WW M (gQv M G zC out) G zC 4 σ1 14 [(0, .ref (G.2.1 197)), (1, .ref (G.2.1 c14_1)), (2, .ref (G.2.1 71)), (3, .int a3)] []) (a3 : Int32) (σ1 : gS) (hF : bX0_take_71_14 σ c14_1 rec14 a3 σ1 = some out) : WW M (gQv M G zC out) G zC 4 σ1 14 [(0, .ref (G.2.1 197)), (1, .ref (G.2.1 c14_1)), (2, .ref (G.2.1 71)), (3, .int a3)] [] := by
  unfold bX0_take_71_14 at hF
  refine ww_iload_n (pc := 14) X (j := 3) dX0_take_14 rfl rfl ?_
  refine ww_aload_n (pc := 15) X (j := 0) dX0_take_15 rfl rfl ?_
  refine ww_get (pc := 16) X (ref := "PictureBlock$Imager") (T := TX0) (j := 0) dX0_take_16 inX0_take_RX0 shzC_197 clzC_0 (by decide) rfl (List.mem_of_getElem? (i := 3) rfl) rfl ?_
  refine ww_get (pc := 19) X (ref := "PictureBlock$Told") (T := TX8) (j := 0) dX0_take_19 inX0_take_RX8 shzC_2 clzC_8 (by decide) rfl (List.mem_of_getElem? (i := 4) rfl) rfl ?_
  refine ww_iconst (pc := 22) X (v := 1) dX0_take_22 (by decide) ?_
  refine ww_iald (pc := 23) X dX0_take_23 shzC_3 rfl hF (fun v5 ev5 bv5 hF => ?_)
  refine ww_icmp_ge (pc := 24) (tgt := 65) X dX0_take_24 (by decide) hF (fun h6 hF => ?_) (fun h6 hF => ?_)
  · refine ww_iconst (pc := 65) X (v := 0) dX0_take_65 (by decide) ?_
    refine ww_istore_n (pc := 66) X (lv' := [(0, .ref (G.2.1 197)), (1, .ref (G.2.1 c14_1)), (2, .ref (G.2.1 71))]) dX0_take_66 rfl (by decide) rfl hF (fun x7 ex7 hF => ?_)
    exact ww_sub [1, 2, 3, 0] rfl (lpc_ind (P := (fun (s : Int32 × gS) => WW M (gQv M G zC out) G zC 4 s.2 67 [(0, .ref (G.2.1 197)), (1, .ref (G.2.1 c14_1)), (2, .ref (G.2.1 71)), (3, .int s.1)] [])) (fun rec s ih hF => wbX0_take_71_67 X hZ σ1 c14_1 (fun a3 σ1 => rec (a3, σ1)) (fun a3 σ1 h => ih (a3, σ1) h) s.1 s.2 hF) K9 (x7, σ1) hF)
  · refine ww_aload_n (pc := 27) X (j := 2) dX0_take_27 rfl rfl ?_
    refine ww_get (pc := 28) X (ref := "PictureBlock$Stand") (T := TX5) (j := 2) dX0_take_28 inX0_take_RX5 shzC_71 clzC_5 (by decide) rfl (List.mem_of_getElem? (i := 5) rfl) rfl ?_
    refine ww_iload_n (pc := 31) X (j := 3) dX0_take_31 rfl rfl ?_
    refine ww_aload_n (pc := 32) X (j := 1) dX0_take_32 rfl rfl ?_
    refine ww_aload_n (pc := 33) X (j := 0) dX0_take_33 rfl rfl ?_
    refine ww_get (pc := 34) X (ref := "PictureBlock$Imager") (T := TX0) (j := 3) dX0_take_34 inX0_take_RX0 shzC_197 clzC_0 (by decide) rfl (List.mem_of_getElem? (i := 2) rfl) rfl ?_
    refine ww_ialdS (pc := 37) X dX0_take_37  (t := 0) rfl hF (fun v26 ev26 bv26 hF => ?_)
    refine ww_iast (pc := 38) X dX0_take_38 shzC_72 rfl hF (fun σ27 eσ27 bσ27 hF => ?_)
    refine ww_aload_n (pc := 39) X (j := 0) dX0_take_39 rfl rfl ?_
    refine ww_dup (pc := 40) X dX0_take_40 rfl ?_
    refine ww_get (pc := 41) X (ref := "PictureBlock$Imager") (T := TX0) (j := 3) dX0_take_41 inX0_take_RX0 shzC_197 clzC_0 (by decide) rfl (List.mem_of_getElem? (i := 2) rfl) rfl ?_
    refine ww_iconst (pc := 44) X (v := 1) dX0_take_44 (by decide) ?_
    refine ww_iadd (pc := 45) X dX0_take_45 ?_
    refine ww_putI (pc := 46) X (ref := "PictureBlock$Imager") (T := TX0) (j := 3) dX0_take_46 inX0_take_RX0 tyX0 tyX0_ok nmX0 shzC_197 clzC_0 (by decide) rfl (List.mem_of_getElem? (i := 2) rfl) rfl rfl (by decide +kernel) hF (fun σ28 eσ28 hF => ?_)
    refine ww_aload_n (pc := 49) X (j := 0) dX0_take_49 rfl rfl ?_
    refine ww_aload_n (pc := 50) X (j := 1) dX0_take_50 rfl rfl ?_
    refine ww_aload_n (pc := 51) X (j := 2) dX0_take_51 rfl rfl ?_
    refine ww_get (pc := 52) X (ref := "PictureBlock$Stand") (T := TX5) (j := 3) dX0_take_52 inX0_take_RX5 shzC_71 clzC_5 (by decide) rfl (List.mem_of_getElem? (i := 6) rfl) rfl ?_
    refine ww_iload_n (pc := 55) X (j := 3) dX0_take_55 rfl rfl ?_
    obtain ⟨σ30, h29, hF⟩ := bd_some hF
    refine ww_callVv (pc := 56) X (As := [.ref (G.2.1 c14_1), .ref (G.2.1 73), .int a3]) (rest := []) dX0_take_56 (kX0_takePair_73 (mL M) G hZ X.2.2.2.2.2.2.1 X.2.2.2.2.2.2.2.1 σ28 c14_1 a3 σ30 h29) rfl shzC_197 clzC_0 gX0_take_X0_takePair hyX0_takePair ⟨rfl, rfl⟩ ⟨Nat.le_of_ble_eq_true rfl, Nat.le_of_ble_eq_true rfl⟩ rfl rfl (Nat.le_of_ble_eq_true rfl) ?_
    refine ww_iinc (pc := 59) X (j := 3) (v := 1) (lv' := [(0, .ref (G.2.1 197)), (1, .ref (G.2.1 c14_1)), (2, .ref (G.2.1 71))]) dX0_take_59 rfl rfl (by decide) rfl hF (fun x31 ex31 hF => ?_)
    refine ww_goto (pc := 62) X (tgt := 14) dX0_take_62 (by decide) ?_
    exact ww_sub [1, 2, 3, 0] rfl (ih14 x31 σ30 hF)
set_option maxRecDepth 100000 in
set_option maxHeartbeats 4000000 in
theorem wX0_take_71 {M : gM} {G : gG} {out : gS} (X : gX M G zC cX0_take RX0 4 wsX0_take rmX0_take none) {ex : gEx} (hZ : ∀ s : State, G.2.2.2 s → kC ex (gA G zC.1) s) (σ : gS) (p1 : Nat) (hF : fX0_take_71 σ p1 = some out) : WW M (gQv M G zC out) G zC 4 σ 0 [(0, .ref (G.2.1 197)), (1, .ref (G.2.1 p1)), (2, .ref (G.2.1 71))] [] := by
  unfold fX0_take_71 at hF
  refine ww_aload_n (pc := 0) X (j := 2) dX0_take_0 rfl rfl ?_
  refine ww_aload_n (pc := 1) X (j := 1) dX0_take_1 rfl rfl ?_
  refine ww_iconst (pc := 2) X (v := 0) dX0_take_2 (by decide) ?_
  refine ww_ialdS (pc := 3) X dX0_take_3  (t := 0) rfl hF (fun v1 ev1 bv1 hF => ?_)
  refine ww_putI (pc := 4) X (ref := "PictureBlock$Stand") (T := TX5) (j := 1) dX0_take_4 inX0_take_RX5 tyX5 tyX5_ok nmX5 shzC_71 clzC_5 (by decide) rfl (List.mem_of_getElem? (i := 1) rfl) rfl rfl (by decide +kernel) hF (fun σ2 eσ2 hF => ?_)
  refine ww_aload_n (pc := 7) X (j := 0) dX0_take_7 rfl rfl ?_
  refine ww_iconst (pc := 8) X (v := 1) dX0_take_8 (by decide) ?_
  refine ww_putI (pc := 9) X (ref := "PictureBlock$Imager") (T := TX0) (j := 3) dX0_take_9 inX0_take_RX0 tyX0 tyX0_ok nmX0 shzC_197 clzC_0 (by decide) rfl (List.mem_of_getElem? (i := 2) rfl) rfl rfl (by decide +kernel) hF (fun σ3 eσ3 hF => ?_)
  refine ww_iconst (pc := 12) X (v := 0) dX0_take_12 (by decide) ?_
  refine ww_istore_n (pc := 13) X (lv' := [(0, .ref (G.2.1 197)), (1, .ref (G.2.1 p1)), (2, .ref (G.2.1 71))]) dX0_take_13 rfl (by decide) rfl hF (fun x4 ex4 hF => ?_)
  exact ww_sub [1, 2, 3, 0] rfl (lpc_ind (P := (fun (s : Int32 × gS) => WW M (gQv M G zC out) G zC 4 s.2 14 [(0, .ref (G.2.1 197)), (1, .ref (G.2.1 p1)), (2, .ref (G.2.1 71)), (3, .int s.1)] [])) (fun rec s ih hF => wbX0_take_71_14 X hZ σ3 p1 (fun a3 σ1 => rec (a3, σ1)) (fun a3 σ1 h => ih (a3, σ1) h) s.1 s.2 hF) K9 (x4, σ3) hF)
set_option maxRecDepth 100000 in
set_option maxHeartbeats 4000000 in
theorem kX0_take_71 (l : Launch) (G : gG) {ex : gEx} (hZ : ∀ s : State, G.2.2.2 s → kC ex (gA G zC.1) s) (hG : gOK G zC.1) (hT : G.2.2.1.map (fun q => q.2) = zC.2.1) (σ : gS) (p1 : Nat) (out : gS) (hF : fX0_take_71 σ p1 = some out) : gCv l yX0_take wsX0_take rmX0_take G zC [.ref (G.2.1 197), .ref (G.2.1 p1), .ref (G.2.1 71)] σ out :=
  gEnter (by decide) rfl ⟨rfl, rfl⟩ hG hT (Nat.le_of_ble_eq_true rfl) rfl (fun M X hl => wX0_take_71 X hZ σ p1 hF)
