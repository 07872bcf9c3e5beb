theorem inX0_init_RX0 : ∀ w ∈ u_ws RX0 TX0 4, w ∈ wsX0_init := fun w h => List.mem_cons_of_mem _ (List.mem_append_right _ h)
theorem inX1_init_RX1 : ∀ w ∈ u_ws RX1 TX1 5, w ∈ wsX1_init := fun w h => List.mem_cons_of_mem _ (List.mem_append_right _ h)
theorem inX2_init_RX2 : ∀ w ∈ u_ws RX2 TX2 4, w ∈ wsX2_init := fun w h => List.mem_cons_of_mem _ (List.mem_append_right _ h)
theorem inX3_init_RX3 : ∀ w ∈ u_ws RX3 TX3 14, w ∈ wsX3_init := fun w h => List.mem_cons_of_mem _ (List.mem_append_right _ h)
theorem inX4_init_RX4 : ∀ w ∈ u_ws RX4 TX4 5, w ∈ wsX4_init := fun w h => List.mem_cons_of_mem _ (List.mem_append_right _ h)
theorem inX5_init_RX5 : ∀ w ∈ u_ws RX5 TX5 7, w ∈ wsX5_init := fun w h => List.mem_cons_of_mem _ (List.mem_append_right _ h)
theorem inX6_init_RX6 : ∀ w ∈ u_ws RX6 TX6 6, w ∈ wsX6_init := fun w h => List.mem_cons_of_mem _ (List.mem_append_right _ h)
theorem inX7_init_RX7 : ∀ w ∈ u_ws RX7 TX7 13, w ∈ wsX7_init := fun w h => List.mem_cons_of_mem _ (List.mem_append_right _ h)
theorem inX8_init_RX8 : ∀ w ∈ u_ws RX8 TX8 12, w ∈ wsX8_init := fun w h => List.mem_cons_of_mem _ (List.mem_append_right _ h)
theorem inX9_init_RX0 : ∀ w ∈ u_ws RX0 TX0 4, w ∈ wsX9_init := fun w h => List.mem_cons_of_mem _ (List.mem_append_right _ h)
theorem inX9_init_RX1 : ∀ w ∈ u_ws RX1 TX1 5, w ∈ wsX9_init := fun w h => List.mem_cons_of_mem _ (List.mem_append_left _ (List.mem_append_left _ (List.mem_append_left _ (List.mem_append_left _ (List.mem_append_right _ h)))))
theorem inX9_init_RX2 : ∀ w ∈ u_ws RX2 TX2 4, w ∈ wsX9_init := fun w h => List.mem_cons_of_mem _ (List.mem_append_left _ (List.mem_append_left _ (List.mem_append_right _ h)))
theorem inX9_init_RX3 : ∀ w ∈ u_ws RX3 TX3 14, w ∈ wsX9_init := fun w h => List.mem_cons_of_mem _ (List.mem_append_left _ (List.mem_append_left _ (List.mem_append_left _ (List.mem_append_left _ (List.mem_append_left _ (List.mem_append_left _ (List.mem_append_left _ (List.mem_append_right _ h))))))))
theorem inX9_init_RX4 : ∀ w ∈ u_ws RX4 TX4 5, w ∈ wsX9_init := fun w h => List.mem_cons_of_mem _ (List.mem_append_left _ (List.mem_append_left _ (List.mem_append_left _ (List.mem_append_right _ h))))
theorem inX9_init_RX5 : ∀ w ∈ u_ws RX5 TX5 7, w ∈ wsX9_init := fun w h => List.mem_cons_of_mem _ (List.mem_append_left _ (List.mem_append_left _ (List.mem_append_left _ (List.mem_append_left _ (List.mem_append_left _ (List.mem_append_left _ (List.mem_append_right _ h)))))))
theorem inX9_init_RX6 : ∀ w ∈ u_ws RX6 TX6 6, w ∈ wsX9_init := fun w h => List.mem_cons_of_mem _ (List.mem_append_left _ (List.mem_append_left _ (List.mem_append_left _ (List.mem_append_left _ (List.mem_append_left _ (List.mem_append_right _ h))))))
theorem inX9_init_RX7 : ∀ w ∈ u_ws RX7 TX7 13, w ∈ wsX9_init := fun w h => List.mem_cons_of_mem _ (List.mem_append_left _ (List.mem_append_right _ h))
theorem inX9_init_RX8 : ∀ w ∈ u_ws RX8 TX8 12, w ∈ wsX9_init := fun w h => List.mem_cons_of_mem _ (List.mem_append_left _ (List.mem_append_left _ (List.mem_append_left _ (List.mem_append_left _ (List.mem_append_left _ (List.mem_append_left _ (List.mem_append_left _ (List.mem_append_left _ (List.mem_append_right _ h)))))))))
theorem inX9_init_RX9 : ∀ w ∈ u_ws RX9 TX9 17, w ∈ wsX9_init := fun w h => List.mem_cons_of_mem _ (List.mem_append_left _ (List.mem_append_left _ (List.mem_append_left _ (List.mem_append_left _ (List.mem_append_left _ (List.mem_append_left _ (List.mem_append_left _ (List.mem_append_left _ (List.mem_append_left _ (List.mem_append_right _ h))))))))))
theorem hyiX0_init : yX0_init.cls ≠ "java/lang/invoke/MethodHandle" ∧ yX0_init.cls ≠ "java/lang/invoke/VarHandle" ∧ (parseMethodDescriptor yX0_init.desc).map (fun d => d.parameters.length) = some 1 := by decide +kernel
theorem hyiX1_init : yX1_init.cls ≠ "java/lang/invoke/MethodHandle" ∧ yX1_init.cls ≠ "java/lang/invoke/VarHandle" ∧ (parseMethodDescriptor yX1_init.desc).map (fun d => d.parameters.length) = some 2 := by decide +kernel
theorem hyiX2_init : yX2_init.cls ≠ "java/lang/invoke/MethodHandle" ∧ yX2_init.cls ≠ "java/lang/invoke/VarHandle" ∧ (parseMethodDescriptor yX2_init.desc).map (fun d => d.parameters.length) = some 2 := by decide +kernel
theorem hyiX3_init : yX3_init.cls ≠ "java/lang/invoke/MethodHandle" ∧ yX3_init.cls ≠ "java/lang/invoke/VarHandle" ∧ (parseMethodDescriptor yX3_init.desc).map (fun d => d.parameters.length) = some 2 := by decide +kernel
theorem hyiX4_init : yX4_init.cls ≠ "java/lang/invoke/MethodHandle" ∧ yX4_init.cls ≠ "java/lang/invoke/VarHandle" ∧ (parseMethodDescriptor yX4_init.desc).map (fun d => d.parameters.length) = some 2 := by decide +kernel
theorem hyiX5_init : yX5_init.cls ≠ "java/lang/invoke/MethodHandle" ∧ yX5_init.cls ≠ "java/lang/invoke/VarHandle" ∧ (parseMethodDescriptor yX5_init.desc).map (fun d => d.parameters.length) = some 1 := by decide +kernel
theorem hyiX6_init : yX6_init.cls ≠ "java/lang/invoke/MethodHandle" ∧ yX6_init.cls ≠ "java/lang/invoke/VarHandle" ∧ (parseMethodDescriptor yX6_init.desc).map (fun d => d.parameters.length) = some 2 := by decide +kernel
theorem hyiX7_init : yX7_init.cls ≠ "java/lang/invoke/MethodHandle" ∧ yX7_init.cls ≠ "java/lang/invoke/VarHandle" ∧ (parseMethodDescriptor yX7_init.desc).map (fun d => d.parameters.length) = some 2 := by decide +kernel
theorem hyiX8_init : yX8_init.cls ≠ "java/lang/invoke/MethodHandle" ∧ yX8_init.cls ≠ "java/lang/invoke/VarHandle" ∧ (parseMethodDescriptor yX8_init.desc).map (fun d => d.parameters.length) = some 0 := by decide +kernel
noncomputable def hsC0 : List gC := []
noncomputable def sgC0 : gS := s00
theorem zrC0 : Zr sgC0 0 := fun _ _ => ⟨rfl, rfl⟩
noncomputable def hsC1 : List gC := hsC0 ++ [(3, 9, 0, [2, 0, 2, 2, 2, 2, 2, 2, 2, 2, 2, 2, 2, 2, 2, 0, 0])]
noncomputable def hsC2 : List gC := hsC1 ++ [(0, 0, 1600, [])]
theorem atC2_0 : hsC2[0]? = some (3, 9, 0, [2, 0, 2, 2, 2, 2, 2, 2, 2, 2, 2, 2, 2, 2, 2, 0, 0]) := by decide +kernel
noncomputable def hsC3 : List gC := hsC2.set 0 (3, 9, 0, [4, 0, 2, 2, 2, 2, 2, 2, 2, 2, 2, 2, 2, 2, 2, 0, 0])
theorem atC3_0 : hsC3[0]? = some (3, 9, 0, [4, 0, 2, 2, 2, 2, 2, 2, 2, 2, 2, 2, 2, 2, 2, 0, 0]) := by decide +kernel
noncomputable def sgC1 : gS := gsI sgC0 0 1 0
theorem zrC1 : Zr sgC1 2 := Zr_I (Zr_mono zrC0 (by decide)) (by decide)
noncomputable def hsC4 : List gC := hsC3 ++ [(3, 8, 0, [2, 2, 2, 2, 2, 2, 2, 2, 2, 2, 2, 2])]
noncomputable def hsC5 : List gC := hsC4 ++ [(0, 0, 6, [])]
theorem atC5_2 : hsC5[2]? = some (3, 8, 0, [2, 2, 2, 2, 2, 2, 2, 2, 2, 2, 2, 2]) := by decide +kernel
noncomputable def hsC6 : List gC := hsC5.set 2 (3, 8, 0, [6, 2, 2, 2, 2, 2, 2, 2, 2, 2, 2, 2])
noncomputable def hsC7 : List gC := hsC6 ++ ((2, 1, 3, [5]) :: List.replicate 3 (0, 0, 20, []))
theorem atC7_2 : hsC7[2]? = some (3, 8, 0, [6, 2, 2, 2, 2, 2, 2, 2, 2, 2, 2, 2]) := by decide +kernel
noncomputable def hsC8 : List gC := hsC7.set 2 (3, 8, 0, [6, 7, 2, 2, 2, 2, 2, 2, 2, 2, 2, 2])
noncomputable def hsC9 : List gC := hsC8 ++ [(0, 0, 12, [])]
theorem atC9_2 : hsC9[2]? = some (3, 8, 0, [6, 7, 2, 2, 2, 2, 2, 2, 2, 2, 2, 2]) := by decide +kernel
noncomputable def hsC10 : List gC := hsC9.set 2 (3, 8, 0, [6, 7, 11, 2, 2, 2, 2, 2, 2, 2, 2, 2])
noncomputable def hsC11 : List gC := hsC10 ++ [(0, 0, 12, [])]
theorem atC11_2 : hsC11[2]? = some (3, 8, 0, [6, 7, 11, 2, 2, 2, 2, 2, 2, 2, 2, 2]) := by decide +kernel
noncomputable def hsC12 : List gC := hsC11.set 2 (3, 8, 0, [6, 7, 11, 12, 2, 2, 2, 2, 2, 2, 2, 2])
noncomputable def hsC13 : List gC := hsC12 ++ [(0, 0, 60, [])]
theorem atC13_2 : hsC13[2]? = some (3, 8, 0, [6, 7, 11, 12, 2, 2, 2, 2, 2, 2, 2, 2]) := by decide +kernel
noncomputable def hsC14 : List gC := hsC13.set 2 (3, 8, 0, [6, 7, 11, 12, 13, 2, 2, 2, 2, 2, 2, 2])
noncomputable def hsC15 : List gC := hsC14 ++ [(0, 0, 60, [])]
theorem atC15_2 : hsC15[2]? = some (3, 8, 0, [6, 7, 11, 12, 13, 2, 2, 2, 2, 2, 2, 2]) := by decide +kernel
noncomputable def hsC16 : List gC := hsC15.set 2 (3, 8, 0, [6, 7, 11, 12, 13, 14, 2, 2, 2, 2, 2, 2])
noncomputable def hsC17 : List gC := hsC16 ++ ((2, 1, 2, [13]) :: List.replicate 2 (0, 0, 60, []))
theorem atC17_2 : hsC17[2]? = some (3, 8, 0, [6, 7, 11, 12, 13, 14, 2, 2, 2, 2, 2, 2]) := by decide +kernel
noncomputable def hsC18 : List gC := hsC17.set 2 (3, 8, 0, [6, 7, 11, 12, 13, 14, 15, 2, 2, 2, 2, 2])
noncomputable def hsC19 : List gC := hsC18 ++ [(0, 0, 60, [])]
theorem atC19_2 : hsC19[2]? = some (3, 8, 0, [6, 7, 11, 12, 13, 14, 15, 2, 2, 2, 2, 2]) := by decide +kernel
noncomputable def hsC20 : List gC := hsC19.set 2 (3, 8, 0, [6, 7, 11, 12, 13, 14, 15, 18, 2, 2, 2, 2])
noncomputable def hsC21 : List gC := hsC20 ++ [(0, 0, 20, [])]
theorem atC21_2 : hsC21[2]? = some (3, 8, 0, [6, 7, 11, 12, 13, 14, 15, 18, 2, 2, 2, 2]) := by decide +kernel
noncomputable def hsC22 : List gC := hsC21.set 2 (3, 8, 0, [6, 7, 11, 12, 13, 14, 15, 18, 19, 2, 2, 2])
noncomputable def hsC23 : List gC := hsC22 ++ ((2, 1, 2, [18]) :: List.replicate 2 (0, 0, 20, []))
theorem atC23_2 : hsC23[2]? = some (3, 8, 0, [6, 7, 11, 12, 13, 14, 15, 18, 19, 2, 2, 2]) := by decide +kernel
noncomputable def hsC24 : List gC := hsC23.set 2 (3, 8, 0, [6, 7, 11, 12, 13, 14, 15, 18, 19, 20, 2, 2])
noncomputable def hsC25 : List gC := hsC24 ++ [(0, 0, 12, [])]
theorem atC25_2 : hsC25[2]? = some (3, 8, 0, [6, 7, 11, 12, 13, 14, 15, 18, 19, 20, 2, 2]) := by decide +kernel
noncomputable def hsC26 : List gC := hsC25.set 2 (3, 8, 0, [6, 7, 11, 12, 13, 14, 15, 18, 19, 20, 23, 2])
noncomputable def hsC27 : List gC := hsC26 ++ ((2, 1, 2, [22]) :: List.replicate 2 (0, 0, 12, []))
theorem atC27_2 : hsC27[2]? = some (3, 8, 0, [6, 7, 11, 12, 13, 14, 15, 18, 19, 20, 23, 2]) := by decide +kernel
noncomputable def hsC28 : List gC := hsC27.set 2 (3, 8, 0, [6, 7, 11, 12, 13, 14, 15, 18, 19, 20, 23, 24])
noncomputable abbrev rmIC1 : Room := { frames := 1, cells := 21, slots := 495, locals := 20 }
set_option maxRecDepth 100000 in
set_option maxHeartbeats 8000000 in
theorem kIC1 (l : Launch) (G : gG) (b0 : Nat) (hb : ∀ k, G.2.1 k = b0 + k) (hT : G.2.2.1.map (fun q => q.2) = zC.2.1) : yC l yX8_init wsX8_init rmIC1 G vwCl b0 [.ref (G.2.1 2)] hsC4 sgC1 hsC28 sgC1 21 495 := by
  refine yEnter (maxL := 1) (by decide +kernel) rfl rfl hb hT (Nat.le_of_ble_eq_true rfl) rfl (fun M X hl hin => ?_)
  subst hl
  refine yy_aload_n X (j := 0) dX8_init_0 rfl rfl ?_
  refine yy_objInit X (List.mem_of_getElem? (i := 1) rfl) (List.mem_of_getElem? (i := 2) rfl) (List.mem_of_getElem? (i := 3) rfl) dX8_init_1 ⟨Nat.le_of_ble_eq_true rfl, Nat.le_of_ble_eq_true rfl⟩ ?_
  refine yy_aload_n X (j := 0) dX8_init_4 rfl rfl ?_
  refine yy_bipush X (v := 6) dX8_init_5 (by decide) ?_
  refine yy_newa X (ki := 0) (t := 0) (N := 6) (n := 3) (atype := .int) (ty := .int) (sh' := hsC5) (cells' := 1) (slots' := 6) dX8_init_7 rfl (fun C h => by cases h) rfl (List.mem_of_getElem? (i := 4) rfl) (by decide) (by decide) (Nat.le_of_ble_eq_true rfl) (by decide +kernel) (zrC1 _ (Nat.le_of_ble_eq_true rfl)).1 (zrC1 _ (Nat.le_of_ble_eq_true rfl)).2 (Or.inl ⟨rfl, rfl⟩) rfl rfl rfl ⟨Nat.le_of_ble_eq_true rfl, Nat.le_of_ble_eq_true rfl⟩ ?_
  refine yy_putF X hin (ref := "PictureBlock$Told") (T := TX8) (k := 2) (j := 0) (ty := tyX8 0) (sh' := hsC6) (σ' := sgC1) dX8_init_9 inX8_init_RX8 tyX8 tyX8_ok nmX8 atC5_2 rfl (by decide) (List.mem_of_getElem? (i := 5) rfl) rfl rfl rfl (tyX8_ok 0 (by decide)) rfl rfl (by decide) (by decide +kernel) (hSet_R (k2 := 3) atC5_2 rfl rfl rfl) ?_
  refine yy_aload_n X (j := 0) dX8_init_12 rfl rfl ?_
  refine yy_iconst X (v := 3) dX8_init_13 (by decide) ?_
  refine yy_bipush X (v := 20) dX8_init_14 (by decide) ?_
  refine yy_mna X (ki := 0) (to := 1) (ti := 0) (N := 3) (K := 20) (n := 4) (ty := .int) (sh' := hsC7) (cells' := 5) (slots' := 69) dX8_init_16 (Or.inl rfl) rfl rfl (List.mem_of_getElem? (i := 6) rfl) (List.mem_of_getElem? (i := 4) rfl) (by decide) (by decide) (by decide) (by decide) (Nat.le_of_ble_eq_true rfl) (Nat.le_of_ble_eq_true rfl) (Nat.le_of_ble_eq_true rfl) (by decide +kernel) (fun j _ => (zrC1 (j + 4) (Nat.le_trans (Nat.le_of_ble_eq_true rfl) (Nat.le_add_left 4 j))).1) (fun j _ => (zrC1 (j + 4) (Nat.le_trans (Nat.le_of_ble_eq_true rfl) (Nat.le_add_left 4 j))).2) (Or.inl ⟨rfl, rfl⟩) rfl rfl rfl ⟨Nat.le_of_ble_eq_true rfl, Nat.le_of_ble_eq_true rfl⟩ ?_
  refine yy_putF X hin (ref := "PictureBlock$Told") (T := TX8) (k := 2) (j := 1) (ty := tyX8 1) (sh' := hsC8) (σ' := sgC1) dX8_init_20 inX8_init_RX8 tyX8 tyX8_ok nmX8 atC7_2 rfl (by decide) (List.mem_of_getElem? (i := 7) rfl) rfl rfl rfl (tyX8_ok 1 (by decide)) rfl rfl (by decide) (by decide +kernel) (hSet_R (k2 := 4) atC7_2 rfl rfl rfl) ?_
  refine yy_aload_n X (j := 0) dX8_init_23 rfl rfl ?_
  refine yy_bipush X (v := 12) dX8_init_24 (by decide) ?_
  refine yy_newa X (ki := 0) (t := 0) (N := 12) (n := 8) (atype := .int) (ty := .int) (sh' := hsC9) (cells' := 6) (slots' := 81) dX8_init_26 rfl (fun C h => by cases h) rfl (List.mem_of_getElem? (i := 4) rfl) (by decide) (by decide) (Nat.le_of_ble_eq_true rfl) (by decide +kernel) (zrC1 _ (Nat.le_of_ble_eq_true rfl)).1 (zrC1 _ (Nat.le_of_ble_eq_true rfl)).2 (Or.inl ⟨rfl, rfl⟩) rfl rfl rfl ⟨Nat.le_of_ble_eq_true rfl, Nat.le_of_ble_eq_true rfl⟩ ?_
  refine yy_putF X hin (ref := "PictureBlock$Told") (T := TX8) (k := 2) (j := 2) (ty := tyX8 2) (sh' := hsC10) (σ' := sgC1) dX8_init_28 inX8_init_RX8 tyX8 tyX8_ok nmX8 atC9_2 rfl (by decide) (List.mem_of_getElem? (i := 8) rfl) rfl rfl rfl (tyX8_ok 2 (by decide)) rfl rfl (by decide) (by decide +kernel) (hSet_R (k2 := 8) atC9_2 rfl rfl rfl) ?_
  refine yy_aload_n X (j := 0) dX8_init_31 rfl rfl ?_
  refine yy_bipush X (v := 12) dX8_init_32 (by decide) ?_
  refine yy_newa X (ki := 0) (t := 0) (N := 12) (n := 9) (atype := .int) (ty := .int) (sh' := hsC11) (cells' := 7) (slots' := 93) dX8_init_34 rfl (fun C h => by cases h) rfl (List.mem_of_getElem? (i := 4) rfl) (by decide) (by decide) (Nat.le_of_ble_eq_true rfl) (by decide +kernel) (zrC1 _ (Nat.le_of_ble_eq_true rfl)).1 (zrC1 _ (Nat.le_of_ble_eq_true rfl)).2 (Or.inl ⟨rfl, rfl⟩) rfl rfl rfl ⟨Nat.le_of_ble_eq_true rfl, Nat.le_of_ble_eq_true rfl⟩ ?_
  refine yy_putF X hin (ref := "PictureBlock$Told") (T := TX8) (k := 2) (j := 3) (ty := tyX8 3) (sh' := hsC12) (σ' := sgC1) dX8_init_36 inX8_init_RX8 tyX8 tyX8_ok nmX8 atC11_2 rfl (by decide) (List.mem_of_getElem? (i := 9) rfl) rfl rfl rfl (tyX8_ok 3 (by decide)) rfl rfl (by decide) (by decide +kernel) (hSet_R (k2 := 9) atC11_2 rfl rfl rfl) ?_
  refine yy_aload_n X (j := 0) dX8_init_39 rfl rfl ?_
  refine yy_bipush X (v := 60) dX8_init_40 (by decide) ?_
  refine yy_newa X (ki := 0) (t := 0) (N := 60) (n := 10) (atype := .int) (ty := .int) (sh' := hsC13) (cells' := 8) (slots' := 153) dX8_init_42 rfl (fun C h => by cases h) rfl (List.mem_of_getElem? (i := 4) rfl) (by decide) (by decide) (Nat.le_of_ble_eq_true rfl) (by decide +kernel) (zrC1 _ (Nat.le_of_ble_eq_true rfl)).1 (zrC1 _ (Nat.le_of_ble_eq_true rfl)).2 (Or.inl ⟨rfl, rfl⟩) rfl rfl rfl ⟨Nat.le_of_ble_eq_true rfl, Nat.le_of_ble_eq_true rfl⟩ ?_
  refine yy_putF X hin (ref := "PictureBlock$Told") (T := TX8) (k := 2) (j := 4) (ty := tyX8 4) (sh' := hsC14) (σ' := sgC1) dX8_init_44 inX8_init_RX8 tyX8 tyX8_ok nmX8 atC13_2 rfl (by decide) (List.mem_of_getElem? (i := 10) rfl) rfl rfl rfl (tyX8_ok 4 (by decide)) rfl rfl (by decide) (by decide +kernel) (hSet_R (k2 := 10) atC13_2 rfl rfl rfl) ?_
  refine yy_aload_n X (j := 0) dX8_init_47 rfl rfl ?_
  refine yy_bipush X (v := 60) dX8_init_48 (by decide) ?_
  refine yy_newa X (ki := 0) (t := 0) (N := 60) (n := 11) (atype := .int) (ty := .int) (sh' := hsC15) (cells' := 9) (slots' := 213) dX8_init_50 rfl (fun C h => by cases h) rfl (List.mem_of_getElem? (i := 4) rfl) (by decide) (by decide) (Nat.le_of_ble_eq_true rfl) (by decide +kernel) (zrC1 _ (Nat.le_of_ble_eq_true rfl)).1 (zrC1 _ (Nat.le_of_ble_eq_true rfl)).2 (Or.inl ⟨rfl, rfl⟩) rfl rfl rfl ⟨Nat.le_of_ble_eq_true rfl, Nat.le_of_ble_eq_true rfl⟩ ?_
  refine yy_putF X hin (ref := "PictureBlock$Told") (T := TX8) (k := 2) (j := 5) (ty := tyX8 5) (sh' := hsC16) (σ' := sgC1) dX8_init_52 inX8_init_RX8 tyX8 tyX8_ok nmX8 atC15_2 rfl (by decide) (List.mem_of_getElem? (i := 11) rfl) rfl rfl rfl (tyX8_ok 5 (by decide)) rfl rfl (by decide) (by decide +kernel) (hSet_R (k2 := 11) atC15_2 rfl rfl rfl) ?_
  refine yy_aload_n X (j := 0) dX8_init_55 rfl rfl ?_
  refine yy_iconst X (v := 2) dX8_init_56 (by decide) ?_
  refine yy_bipush X (v := 60) dX8_init_57 (by decide) ?_
  refine yy_mna X (ki := 0) (to := 1) (ti := 0) (N := 2) (K := 60) (n := 12) (ty := .int) (sh' := hsC17) (cells' := 12) (slots' := 335) dX8_init_59 (Or.inl rfl) rfl rfl (List.mem_of_getElem? (i := 6) rfl) (List.mem_of_getElem? (i := 4) rfl) (by decide) (by decide) (by decide) (by decide) (Nat.le_of_ble_eq_true rfl) (Nat.le_of_ble_eq_true rfl) (Nat.le_of_ble_eq_true rfl) (by decide +kernel) (fun j _ => (zrC1 (j + 12) (Nat.le_trans (Nat.le_of_ble_eq_true rfl) (Nat.le_add_left 12 j))).1) (fun j _ => (zrC1 (j + 12) (Nat.le_trans (Nat.le_of_ble_eq_true rfl) (Nat.le_add_left 12 j))).2) (Or.inl ⟨rfl, rfl⟩) rfl rfl rfl ⟨Nat.le_of_ble_eq_true rfl, Nat.le_of_ble_eq_true rfl⟩ ?_
  refine yy_putF X hin (ref := "PictureBlock$Told") (T := TX8) (k := 2) (j := 6) (ty := tyX8 6) (sh' := hsC18) (σ' := sgC1) dX8_init_63 inX8_init_RX8 tyX8 tyX8_ok nmX8 atC17_2 rfl (by decide) (List.mem_of_getElem? (i := 12) rfl) rfl rfl rfl (tyX8_ok 6 (by decide)) rfl rfl (by decide) (by decide +kernel) (hSet_R (k2 := 12) atC17_2 rfl rfl rfl) ?_
  refine yy_aload_n X (j := 0) dX8_init_66 rfl rfl ?_
  refine yy_bipush X (v := 60) dX8_init_67 (by decide) ?_
  refine yy_newa X (ki := 0) (t := 0) (N := 60) (n := 15) (atype := .int) (ty := .int) (sh' := hsC19) (cells' := 13) (slots' := 395) dX8_init_69 rfl (fun C h => by cases h) rfl (List.mem_of_getElem? (i := 4) rfl) (by decide) (by decide) (Nat.le_of_ble_eq_true rfl) (by decide +kernel) (zrC1 _ (Nat.le_of_ble_eq_true rfl)).1 (zrC1 _ (Nat.le_of_ble_eq_true rfl)).2 (Or.inl ⟨rfl, rfl⟩) rfl rfl rfl ⟨Nat.le_of_ble_eq_true rfl, Nat.le_of_ble_eq_true rfl⟩ ?_
  refine yy_putF X hin (ref := "PictureBlock$Told") (T := TX8) (k := 2) (j := 7) (ty := tyX8 7) (sh' := hsC20) (σ' := sgC1) dX8_init_71 inX8_init_RX8 tyX8 tyX8_ok nmX8 atC19_2 rfl (by decide) (List.mem_of_getElem? (i := 13) rfl) rfl rfl rfl (tyX8_ok 7 (by decide)) rfl rfl (by decide) (by decide +kernel) (hSet_R (k2 := 15) atC19_2 rfl rfl rfl) ?_
  refine yy_aload_n X (j := 0) dX8_init_74 rfl rfl ?_
  refine yy_bipush X (v := 20) dX8_init_75 (by decide) ?_
  refine yy_newa X (ki := 0) (t := 0) (N := 20) (n := 16) (atype := .int) (ty := .int) (sh' := hsC21) (cells' := 14) (slots' := 415) dX8_init_77 rfl (fun C h => by cases h) rfl (List.mem_of_getElem? (i := 4) rfl) (by decide) (by decide) (Nat.le_of_ble_eq_true rfl) (by decide +kernel) (zrC1 _ (Nat.le_of_ble_eq_true rfl)).1 (zrC1 _ (Nat.le_of_ble_eq_true rfl)).2 (Or.inl ⟨rfl, rfl⟩) rfl rfl rfl ⟨Nat.le_of_ble_eq_true rfl, Nat.le_of_ble_eq_true rfl⟩ ?_
  refine yy_putF X hin (ref := "PictureBlock$Told") (T := TX8) (k := 2) (j := 8) (ty := tyX8 8) (sh' := hsC22) (σ' := sgC1) dX8_init_79 inX8_init_RX8 tyX8 tyX8_ok nmX8 atC21_2 rfl (by decide) (List.mem_of_getElem? (i := 14) rfl) rfl rfl rfl (tyX8_ok 8 (by decide)) rfl rfl (by decide) (by decide +kernel) (hSet_R (k2 := 16) atC21_2 rfl rfl rfl) ?_
  refine yy_aload_n X (j := 0) dX8_init_82 rfl rfl ?_
  refine yy_iconst X (v := 2) dX8_init_83 (by decide) ?_
  refine yy_bipush X (v := 20) dX8_init_84 (by decide) ?_
  refine yy_mna X (ki := 0) (to := 1) (ti := 0) (N := 2) (K := 20) (n := 17) (ty := .int) (sh' := hsC23) (cells' := 17) (slots' := 457) dX8_init_86 (Or.inl rfl) rfl rfl (List.mem_of_getElem? (i := 6) rfl) (List.mem_of_getElem? (i := 4) rfl) (by decide) (by decide) (by decide) (by decide) (Nat.le_of_ble_eq_true rfl) (Nat.le_of_ble_eq_true rfl) (Nat.le_of_ble_eq_true rfl) (by decide +kernel) (fun j _ => (zrC1 (j + 17) (Nat.le_trans (Nat.le_of_ble_eq_true rfl) (Nat.le_add_left 17 j))).1) (fun j _ => (zrC1 (j + 17) (Nat.le_trans (Nat.le_of_ble_eq_true rfl) (Nat.le_add_left 17 j))).2) (Or.inl ⟨rfl, rfl⟩) rfl rfl rfl ⟨Nat.le_of_ble_eq_true rfl, Nat.le_of_ble_eq_true rfl⟩ ?_
  refine yy_putF X hin (ref := "PictureBlock$Told") (T := TX8) (k := 2) (j := 9) (ty := tyX8 9) (sh' := hsC24) (σ' := sgC1) dX8_init_90 inX8_init_RX8 tyX8 tyX8_ok nmX8 atC23_2 rfl (by decide) (List.mem_of_getElem? (i := 15) rfl) rfl rfl rfl (tyX8_ok 9 (by decide)) rfl rfl (by decide) (by decide +kernel) (hSet_R (k2 := 17) atC23_2 rfl rfl rfl) ?_
  refine yy_aload_n X (j := 0) dX8_init_93 rfl rfl ?_
  refine yy_bipush X (v := 12) dX8_init_94 (by decide) ?_
  refine yy_newa X (ki := 0) (t := 0) (N := 12) (n := 20) (atype := .int) (ty := .int) (sh' := hsC25) (cells' := 18) (slots' := 469) dX8_init_96 rfl (fun C h => by cases h) rfl (List.mem_of_getElem? (i := 4) rfl) (by decide) (by decide) (Nat.le_of_ble_eq_true rfl) (by decide +kernel) (zrC1 _ (Nat.le_of_ble_eq_true rfl)).1 (zrC1 _ (Nat.le_of_ble_eq_true rfl)).2 (Or.inl ⟨rfl, rfl⟩) rfl rfl rfl ⟨Nat.le_of_ble_eq_true rfl, Nat.le_of_ble_eq_true rfl⟩ ?_
  refine yy_putF X hin (ref := "PictureBlock$Told") (T := TX8) (k := 2) (j := 10) (ty := tyX8 10) (sh' := hsC26) (σ' := sgC1) dX8_init_98 inX8_init_RX8 tyX8 tyX8_ok nmX8 atC25_2 rfl (by decide) (List.mem_of_getElem? (i := 16) rfl) rfl rfl rfl (tyX8_ok 10 (by decide)) rfl rfl (by decide) (by decide +kernel) (hSet_R (k2 := 20) atC25_2 rfl rfl rfl) ?_
  refine yy_aload_n X (j := 0) dX8_init_101 rfl rfl ?_
  refine yy_iconst X (v := 2) dX8_init_102 (by decide) ?_
  refine yy_bipush X (v := 12) dX8_init_103 (by decide) ?_
  refine yy_mna X (ki := 0) (to := 1) (ti := 0) (N := 2) (K := 12) (n := 21) (ty := .int) (sh' := hsC27) (cells' := 21) (slots' := 495) dX8_init_105 (Or.inl rfl) rfl rfl (List.mem_of_getElem? (i := 6) rfl) (List.mem_of_getElem? (i := 4) rfl) (by decide) (by decide) (by decide) (by decide) (Nat.le_of_ble_eq_true rfl) (Nat.le_of_ble_eq_true rfl) (Nat.le_of_ble_eq_true rfl) (by decide +kernel) (fun j _ => (zrC1 (j + 21) (Nat.le_trans (Nat.le_of_ble_eq_true rfl) (Nat.le_add_left 21 j))).1) (fun j _ => (zrC1 (j + 21) (Nat.le_trans (Nat.le_of_ble_eq_true rfl) (Nat.le_add_left 21 j))).2) (Or.inl ⟨rfl, rfl⟩) rfl rfl rfl ⟨Nat.le_of_ble_eq_true rfl, Nat.le_of_ble_eq_true rfl⟩ ?_
  refine yy_putF X hin (ref := "PictureBlock$Told") (T := TX8) (k := 2) (j := 11) (ty := tyX8 11) (sh' := hsC28) (σ' := sgC1) dX8_init_109 inX8_init_RX8 tyX8 tyX8_ok nmX8 atC27_2 rfl (by decide) (List.mem_of_getElem? (i := 17) rfl) rfl rfl rfl (tyX8_ok 11 (by decide)) rfl rfl (by decide) (by decide +kernel) (hSet_R (k2 := 21) atC27_2 rfl rfl rfl) ?_
  exact yy_ret X dX8_init_112
theorem atC28_0 : hsC28[0]? = some (3, 9, 0, [4, 0, 2, 2, 2, 2, 2, 2, 2, 2, 2, 2, 2, 2, 2, 0, 0]) := by decide +kernel
noncomputable def hsC29 : List gC := hsC28.set 0 (3, 9, 0, [4, 0, 5, 2, 2, 2, 2, 2, 2, 2, 2, 2, 2, 2, 2, 0, 0])
noncomputable def hsC30 : List gC := hsC29 ++ [(3, 8, 0, [2, 2, 2, 2, 2, 2, 2, 2, 2, 2, 2, 2])]
noncomputable def hsC31 : List gC := hsC30 ++ [(0, 0, 6, [])]
theorem atC31_24 : hsC31[24]? = some (3, 8, 0, [2, 2, 2, 2, 2, 2, 2, 2, 2, 2, 2, 2]) := by decide +kernel
noncomputable def hsC32 : List gC := hsC31.set 24 (3, 8, 0, [28, 2, 2, 2, 2, 2, 2, 2, 2, 2, 2, 2])
noncomputable def hsC33 : List gC := hsC32 ++ ((2, 1, 3, [27]) :: List.replicate 3 (0, 0, 20, []))
theorem atC33_24 : hsC33[24]? = some (3, 8, 0, [28, 2, 2, 2, 2, 2, 2, 2, 2, 2, 2, 2]) := by decide +kernel
noncomputable def hsC34 : List gC := hsC33.set 24 (3, 8, 0, [28, 29, 2, 2, 2, 2, 2, 2, 2, 2, 2, 2])
noncomputable def hsC35 : List gC := hsC34 ++ [(0, 0, 12, [])]
theorem atC35_24 : hsC35[24]? = some (3, 8, 0, [28, 29, 2, 2, 2, 2, 2, 2, 2, 2, 2, 2]) := by decide +kernel
noncomputable def hsC36 : List gC := hsC35.set 24 (3, 8, 0, [28, 29, 33, 2, 2, 2, 2, 2, 2, 2, 2, 2])
noncomputable def hsC37 : List gC := hsC36 ++ [(0, 0, 12, [])]
theorem atC37_24 : hsC37[24]? = some (3, 8, 0, [28, 29, 33, 2, 2, 2, 2, 2, 2, 2, 2, 2]) := by decide +kernel
noncomputable def hsC38 : List gC := hsC37.set 24 (3, 8, 0, [28, 29, 33, 34, 2, 2, 2, 2, 2, 2, 2, 2])
noncomputable def hsC39 : List gC := hsC38 ++ [(0, 0, 60, [])]
theorem atC39_24 : hsC39[24]? = some (3, 8, 0, [28, 29, 33, 34, 2, 2, 2, 2, 2, 2, 2, 2]) := by decide +kernel
noncomputable def hsC40 : List gC := hsC39.set 24 (3, 8, 0, [28, 29, 33, 34, 35, 2, 2, 2, 2, 2, 2, 2])
noncomputable def hsC41 : List gC := hsC40 ++ [(0, 0, 60, [])]
theorem atC41_24 : hsC41[24]? = some (3, 8, 0, [28, 29, 33, 34, 35, 2, 2, 2, 2, 2, 2, 2]) := by decide +kernel
noncomputable def hsC42 : List gC := hsC41.set 24 (3, 8, 0, [28, 29, 33, 34, 35, 36, 2, 2, 2, 2, 2, 2])
noncomputable def hsC43 : List gC := hsC42 ++ ((2, 1, 2, [35]) :: List.replicate 2 (0, 0, 60, []))
theorem atC43_24 : hsC43[24]? = some (3, 8, 0, [28, 29, 33, 34, 35, 36, 2, 2, 2, 2, 2, 2]) := by decide +kernel
noncomputable def hsC44 : List gC := hsC43.set 24 (3, 8, 0, [28, 29, 33, 34, 35, 36, 37, 2, 2, 2, 2, 2])
noncomputable def hsC45 : List gC := hsC44 ++ [(0, 0, 60, [])]
theorem atC45_24 : hsC45[24]? = some (3, 8, 0, [28, 29, 33, 34, 35, 36, 37, 2, 2, 2, 2, 2]) := by decide +kernel
noncomputable def hsC46 : List gC := hsC45.set 24 (3, 8, 0, [28, 29, 33, 34, 35, 36, 37, 40, 2, 2, 2, 2])
noncomputable def hsC47 : List gC := hsC46 ++ [(0, 0, 20, [])]
theorem atC47_24 : hsC47[24]? = some (3, 8, 0, [28, 29, 33, 34, 35, 36, 37, 40, 2, 2, 2, 2]) := by decide +kernel
noncomputable def hsC48 : List gC := hsC47.set 24 (3, 8, 0, [28, 29, 33, 34, 35, 36, 37, 40, 41, 2, 2, 2])
noncomputable def hsC49 : List gC := hsC48 ++ ((2, 1, 2, [40]) :: List.replicate 2 (0, 0, 20, []))
theorem atC49_24 : hsC49[24]? = some (3, 8, 0, [28, 29, 33, 34, 35, 36, 37, 40, 41, 2, 2, 2]) := by decide +kernel
noncomputable def hsC50 : List gC := hsC49.set 24 (3, 8, 0, [28, 29, 33, 34, 35, 36, 37, 40, 41, 42, 2, 2])
noncomputable def hsC51 : List gC := hsC50 ++ [(0, 0, 12, [])]
theorem atC51_24 : hsC51[24]? = some (3, 8, 0, [28, 29, 33, 34, 35, 36, 37, 40, 41, 42, 2, 2]) := by decide +kernel
noncomputable def hsC52 : List gC := hsC51.set 24 (3, 8, 0, [28, 29, 33, 34, 35, 36, 37, 40, 41, 42, 45, 2])
noncomputable def hsC53 : List gC := hsC52 ++ ((2, 1, 2, [44]) :: List.replicate 2 (0, 0, 12, []))
theorem atC53_24 : hsC53[24]? = some (3, 8, 0, [28, 29, 33, 34, 35, 36, 37, 40, 41, 42, 45, 2]) := by decide +kernel
noncomputable def hsC54 : List gC := hsC53.set 24 (3, 8, 0, [28, 29, 33, 34, 35, 36, 37, 40, 41, 42, 45, 46])
noncomputable abbrev rmIC2 : Room := { frames := 1, cells := 21, slots := 495, locals := 20 }
set_option maxRecDepth 100000 in
set_option maxHeartbeats 8000000 in
theorem kIC2 (l : Launch) (G : gG) (b0 : Nat) (hb : ∀ k, G.2.1 k = b0 + k) (hT : G.2.2.1.map (fun q => q.2) = zC.2.1) : yC l yX8_init wsX8_init rmIC2 G vwCl b0 [.ref (G.2.1 24)] hsC30 sgC1 hsC54 sgC1 21 495 := by
  refine yEnter (maxL := 1) (by decide +kernel) rfl rfl hb hT (Nat.le_of_ble_eq_true rfl) rfl (fun M X hl hin => ?_)
  subst hl
  refine yy_aload_n X (j := 0) dX8_init_0 rfl rfl ?_
  refine yy_objInit X (List.mem_of_getElem? (i := 1) rfl) (List.mem_of_getElem? (i := 2) rfl) (List.mem_of_getElem? (i := 3) rfl) dX8_init_1 ⟨Nat.le_of_ble_eq_true rfl, Nat.le_of_ble_eq_true rfl⟩ ?_
  refine yy_aload_n X (j := 0) dX8_init_4 rfl rfl ?_
  refine yy_bipush X (v := 6) dX8_init_5 (by decide) ?_
  refine yy_newa X (ki := 0) (t := 0) (N := 6) (n := 25) (atype := .int) (ty := .int) (sh' := hsC31) (cells' := 1) (slots' := 6) dX8_init_7 rfl (fun C h => by cases h) rfl (List.mem_of_getElem? (i := 4) rfl) (by decide) (by decide) (Nat.le_of_ble_eq_true rfl) (by decide +kernel) (zrC1 _ (Nat.le_of_ble_eq_true rfl)).1 (zrC1 _ (Nat.le_of_ble_eq_true rfl)).2 (Or.inl ⟨rfl, rfl⟩) rfl rfl rfl ⟨Nat.le_of_ble_eq_true rfl, Nat.le_of_ble_eq_true rfl⟩ ?_
  refine yy_putF X hin (ref := "PictureBlock$Told") (T := TX8) (k := 24) (j := 0) (ty := tyX8 0) (sh' := hsC32) (σ' := sgC1) dX8_init_9 inX8_init_RX8 tyX8 tyX8_ok nmX8 atC31_24 rfl (by decide) (List.mem_of_getElem? (i := 5) rfl) rfl rfl rfl (tyX8_ok 0 (by decide)) rfl rfl (by decide) (by decide +kernel) (hSet_R (k2 := 25) atC31_24 rfl rfl rfl) ?_
  refine yy_aload_n X (j := 0) dX8_init_12 rfl rfl ?_
  refine yy_iconst X (v := 3) dX8_init_13 (by decide) ?_
  refine yy_bipush X (v := 20) dX8_init_14 (by decide) ?_
  refine yy_mna X (ki := 0) (to := 1) (ti := 0) (N := 3) (K := 20) (n := 26) (ty := .int) (sh' := hsC33) (cells' := 5) (slots' := 69) dX8_init_16 (Or.inl rfl) rfl rfl (List.mem_of_getElem? (i := 6) rfl) (List.mem_of_getElem? (i := 4) rfl) (by decide) (by decide) (by decide) (by decide) (Nat.le_of_ble_eq_true rfl) (Nat.le_of_ble_eq_true rfl) (Nat.le_of_ble_eq_true rfl) (by decide +kernel) (fun j _ => (zrC1 (j + 26) (Nat.le_trans (Nat.le_of_ble_eq_true rfl) (Nat.le_add_left 26 j))).1) (fun j _ => (zrC1 (j + 26) (Nat.le_trans (Nat.le_of_ble_eq_true rfl) (Nat.le_add_left 26 j))).2) (Or.inl ⟨rfl, rfl⟩) rfl rfl rfl ⟨Nat.le_of_ble_eq_true rfl, Nat.le_of_ble_eq_true rfl⟩ ?_
  refine yy_putF X hin (ref := "PictureBlock$Told") (T := TX8) (k := 24) (j := 1) (ty := tyX8 1) (sh' := hsC34) (σ' := sgC1) dX8_init_20 inX8_init_RX8 tyX8 tyX8_ok nmX8 atC33_24 rfl (by decide) (List.mem_of_getElem? (i := 7) rfl) rfl rfl rfl (tyX8_ok 1 (by decide)) rfl rfl (by decide) (by decide +kernel) (hSet_R (k2 := 26) atC33_24 rfl rfl rfl) ?_
  refine yy_aload_n X (j := 0) dX8_init_23 rfl rfl ?_
  refine yy_bipush X (v := 12) dX8_init_24 (by decide) ?_
  refine yy_newa X (ki := 0) (t := 0) (N := 12) (n := 30) (atype := .int) (ty := .int) (sh' := hsC35) (cells' := 6) (slots' := 81) dX8_init_26 rfl (fun C h => by cases h) rfl (List.mem_of_getElem? (i := 4) rfl) (by decide) (by decide) (Nat.le_of_ble_eq_true rfl) (by decide +kernel) (zrC1 _ (Nat.le_of_ble_eq_true rfl)).1 (zrC1 _ (Nat.le_of_ble_eq_true rfl)).2 (Or.inl ⟨rfl, rfl⟩) rfl rfl rfl ⟨Nat.le_of_ble_eq_true rfl, Nat.le_of_ble_eq_true rfl⟩ ?_
  refine yy_putF X hin (ref := "PictureBlock$Told") (T := TX8) (k := 24) (j := 2) (ty := tyX8 2) (sh' := hsC36) (σ' := sgC1) dX8_init_28 inX8_init_RX8 tyX8 tyX8_ok nmX8 atC35_24 rfl (by decide) (List.mem_of_getElem? (i := 8) rfl) rfl rfl rfl (tyX8_ok 2 (by decide)) rfl rfl (by decide) (by decide +kernel) (hSet_R (k2 := 30) atC35_24 rfl rfl rfl) ?_
  refine yy_aload_n X (j := 0) dX8_init_31 rfl rfl ?_
  refine yy_bipush X (v := 12) dX8_init_32 (by decide) ?_
  refine yy_newa X (ki := 0) (t := 0) (N := 12) (n := 31) (atype := .int) (ty := .int) (sh' := hsC37) (cells' := 7) (slots' := 93) dX8_init_34 rfl (fun C h => by cases h) rfl (List.mem_of_getElem? (i := 4) rfl) (by decide) (by decide) (Nat.le_of_ble_eq_true rfl) (by decide +kernel) (zrC1 _ (Nat.le_of_ble_eq_true rfl)).1 (zrC1 _ (Nat.le_of_ble_eq_true rfl)).2 (Or.inl ⟨rfl, rfl⟩) rfl rfl rfl ⟨Nat.le_of_ble_eq_true rfl, Nat.le_of_ble_eq_true rfl⟩ ?_
  refine yy_putF X hin (ref := "PictureBlock$Told") (T := TX8) (k := 24) (j := 3) (ty := tyX8 3) (sh' := hsC38) (σ' := sgC1) dX8_init_36 inX8_init_RX8 tyX8 tyX8_ok nmX8 atC37_24 rfl (by decide) (List.mem_of_getElem? (i := 9) rfl) rfl rfl rfl (tyX8_ok 3 (by decide)) rfl rfl (by decide) (by decide +kernel) (hSet_R (k2 := 31) atC37_24 rfl rfl rfl) ?_
  refine yy_aload_n X (j := 0) dX8_init_39 rfl rfl ?_
  refine yy_bipush X (v := 60) dX8_init_40 (by decide) ?_
  refine yy_newa X (ki := 0) (t := 0) (N := 60) (n := 32) (atype := .int) (ty := .int) (sh' := hsC39) (cells' := 8) (slots' := 153) dX8_init_42 rfl (fun C h => by cases h) rfl (List.mem_of_getElem? (i := 4) rfl) (by decide) (by decide) (Nat.le_of_ble_eq_true rfl) (by decide +kernel) (zrC1 _ (Nat.le_of_ble_eq_true rfl)).1 (zrC1 _ (Nat.le_of_ble_eq_true rfl)).2 (Or.inl ⟨rfl, rfl⟩) rfl rfl rfl ⟨Nat.le_of_ble_eq_true rfl, Nat.le_of_ble_eq_true rfl⟩ ?_
  refine yy_putF X hin (ref := "PictureBlock$Told") (T := TX8) (k := 24) (j := 4) (ty := tyX8 4) (sh' := hsC40) (σ' := sgC1) dX8_init_44 inX8_init_RX8 tyX8 tyX8_ok nmX8 atC39_24 rfl (by decide) (List.mem_of_getElem? (i := 10) rfl) rfl rfl rfl (tyX8_ok 4 (by decide)) rfl rfl (by decide) (by decide +kernel) (hSet_R (k2 := 32) atC39_24 rfl rfl rfl) ?_
  refine yy_aload_n X (j := 0) dX8_init_47 rfl rfl ?_
  refine yy_bipush X (v := 60) dX8_init_48 (by decide) ?_
  refine yy_newa X (ki := 0) (t := 0) (N := 60) (n := 33) (atype := .int) (ty := .int) (sh' := hsC41) (cells' := 9) (slots' := 213) dX8_init_50 rfl (fun C h => by cases h) rfl (List.mem_of_getElem? (i := 4) rfl) (by decide) (by decide) (Nat.le_of_ble_eq_true rfl) (by decide +kernel) (zrC1 _ (Nat.le_of_ble_eq_true rfl)).1 (zrC1 _ (Nat.le_of_ble_eq_true rfl)).2 (Or.inl ⟨rfl, rfl⟩) rfl rfl rfl ⟨Nat.le_of_ble_eq_true rfl, Nat.le_of_ble_eq_true rfl⟩ ?_
  refine yy_putF X hin (ref := "PictureBlock$Told") (T := TX8) (k := 24) (j := 5) (ty := tyX8 5) (sh' := hsC42) (σ' := sgC1) dX8_init_52 inX8_init_RX8 tyX8 tyX8_ok nmX8 atC41_24 rfl (by decide) (List.mem_of_getElem? (i := 11) rfl) rfl rfl rfl (tyX8_ok 5 (by decide)) rfl rfl (by decide) (by decide +kernel) (hSet_R (k2 := 33) atC41_24 rfl rfl rfl) ?_
  refine yy_aload_n X (j := 0) dX8_init_55 rfl rfl ?_
  refine yy_iconst X (v := 2) dX8_init_56 (by decide) ?_
  refine yy_bipush X (v := 60) dX8_init_57 (by decide) ?_
  refine yy_mna X (ki := 0) (to := 1) (ti := 0) (N := 2) (K := 60) (n := 34) (ty := .int) (sh' := hsC43) (cells' := 12) (slots' := 335) dX8_init_59 (Or.inl rfl) rfl rfl (List.mem_of_getElem? (i := 6) rfl) (List.mem_of_getElem? (i := 4) rfl) (by decide) (by decide) (by decide) (by decide) (Nat.le_of_ble_eq_true rfl) (Nat.le_of_ble_eq_true rfl) (Nat.le_of_ble_eq_true rfl) (by decide +kernel) (fun j _ => (zrC1 (j + 34) (Nat.le_trans (Nat.le_of_ble_eq_true rfl) (Nat.le_add_left 34 j))).1) (fun j _ => (zrC1 (j + 34) (Nat.le_trans (Nat.le_of_ble_eq_true rfl) (Nat.le_add_left 34 j))).2) (Or.inl ⟨rfl, rfl⟩) rfl rfl rfl ⟨Nat.le_of_ble_eq_true rfl, Nat.le_of_ble_eq_true rfl⟩ ?_
  refine yy_putF X hin (ref := "PictureBlock$Told") (T := TX8) (k := 24) (j := 6) (ty := tyX8 6) (sh' := hsC44) (σ' := sgC1) dX8_init_63 inX8_init_RX8 tyX8 tyX8_ok nmX8 atC43_24 rfl (by decide) (List.mem_of_getElem? (i := 12) rfl) rfl rfl rfl (tyX8_ok 6 (by decide)) rfl rfl (by decide) (by decide +kernel) (hSet_R (k2 := 34) atC43_24 rfl rfl rfl) ?_
  refine yy_aload_n X (j := 0) dX8_init_66 rfl rfl ?_
  refine yy_bipush X (v := 60) dX8_init_67 (by decide) ?_
  refine yy_newa X (ki := 0) (t := 0) (N := 60) (n := 37) (atype := .int) (ty := .int) (sh' := hsC45) (cells' := 13) (slots' := 395) dX8_init_69 rfl (fun C h => by cases h) rfl (List.mem_of_getElem? (i := 4) rfl) (by decide) (by decide) (Nat.le_of_ble_eq_true rfl) (by decide +kernel) (zrC1 _ (Nat.le_of_ble_eq_true rfl)).1 (zrC1 _ (Nat.le_of_ble_eq_true rfl)).2 (Or.inl ⟨rfl, rfl⟩) rfl rfl rfl ⟨Nat.le_of_ble_eq_true rfl, Nat.le_of_ble_eq_true rfl⟩ ?_
  refine yy_putF X hin (ref := "PictureBlock$Told") (T := TX8) (k := 24) (j := 7) (ty := tyX8 7) (sh' := hsC46) (σ' := sgC1) dX8_init_71 inX8_init_RX8 tyX8 tyX8_ok nmX8 atC45_24 rfl (by decide) (List.mem_of_getElem? (i := 13) rfl) rfl rfl rfl (tyX8_ok 7 (by decide)) rfl rfl (by decide) (by decide +kernel) (hSet_R (k2 := 37) atC45_24 rfl rfl rfl) ?_
  refine yy_aload_n X (j := 0) dX8_init_74 rfl rfl ?_
  refine yy_bipush X (v := 20) dX8_init_75 (by decide) ?_
  refine yy_newa X (ki := 0) (t := 0) (N := 20) (n := 38) (atype := .int) (ty := .int) (sh' := hsC47) (cells' := 14) (slots' := 415) dX8_init_77 rfl (fun C h => by cases h) rfl (List.mem_of_getElem? (i := 4) rfl) (by decide) (by decide) (Nat.le_of_ble_eq_true rfl) (by decide +kernel) (zrC1 _ (Nat.le_of_ble_eq_true rfl)).1 (zrC1 _ (Nat.le_of_ble_eq_true rfl)).2 (Or.inl ⟨rfl, rfl⟩) rfl rfl rfl ⟨Nat.le_of_ble_eq_true rfl, Nat.le_of_ble_eq_true rfl⟩ ?_
  refine yy_putF X hin (ref := "PictureBlock$Told") (T := TX8) (k := 24) (j := 8) (ty := tyX8 8) (sh' := hsC48) (σ' := sgC1) dX8_init_79 inX8_init_RX8 tyX8 tyX8_ok nmX8 atC47_24 rfl (by decide) (List.mem_of_getElem? (i := 14) rfl) rfl rfl rfl (tyX8_ok 8 (by decide)) rfl rfl (by decide) (by decide +kernel) (hSet_R (k2 := 38) atC47_24 rfl rfl rfl) ?_
  refine yy_aload_n X (j := 0) dX8_init_82 rfl rfl ?_
  refine yy_iconst X (v := 2) dX8_init_83 (by decide) ?_
  refine yy_bipush X (v := 20) dX8_init_84 (by decide) ?_
  refine yy_mna X (ki := 0) (to := 1) (ti := 0) (N := 2) (K := 20) (n := 39) (ty := .int) (sh' := hsC49) (cells' := 17) (slots' := 457) dX8_init_86 (Or.inl rfl) rfl rfl (List.mem_of_getElem? (i := 6) rfl) (List.mem_of_getElem? (i := 4) rfl) (by decide) (by decide) (by decide) (by decide) (Nat.le_of_ble_eq_true rfl) (Nat.le_of_ble_eq_true rfl) (Nat.le_of_ble_eq_true rfl) (by decide +kernel) (fun j _ => (zrC1 (j + 39) (Nat.le_trans (Nat.le_of_ble_eq_true rfl) (Nat.le_add_left 39 j))).1) (fun j _ => (zrC1 (j + 39) (Nat.le_trans (Nat.le_of_ble_eq_true rfl) (Nat.le_add_left 39 j))).2) (Or.inl ⟨rfl, rfl⟩) rfl rfl rfl ⟨Nat.le_of_ble_eq_true rfl, Nat.le_of_ble_eq_true rfl⟩ ?_
  refine yy_putF X hin (ref := "PictureBlock$Told") (T := TX8) (k := 24) (j := 9) (ty := tyX8 9) (sh' := hsC50) (σ' := sgC1) dX8_init_90 inX8_init_RX8 tyX8 tyX8_ok nmX8 atC49_24 rfl (by decide) (List.mem_of_getElem? (i := 15) rfl) rfl rfl rfl (tyX8_ok 9 (by decide)) rfl rfl (by decide) (by decide +kernel) (hSet_R (k2 := 39) atC49_24 rfl rfl rfl) ?_
  refine yy_aload_n X (j := 0) dX8_init_93 rfl rfl ?_
  refine yy_bipush X (v := 12) dX8_init_94 (by decide) ?_
  refine yy_newa X (ki := 0) (t := 0) (N := 12) (n := 42) (atype := .int) (ty := .int) (sh' := hsC51) (cells' := 18) (slots' := 469) dX8_init_96 rfl (fun C h => by cases h) rfl (List.mem_of_getElem? (i := 4) rfl) (by decide) (by decide) (Nat.le_of_ble_eq_true rfl) (by decide +kernel) (zrC1 _ (Nat.le_of_ble_eq_true rfl)).1 (zrC1 _ (Nat.le_of_ble_eq_true rfl)).2 (Or.inl ⟨rfl, rfl⟩) rfl rfl rfl ⟨Nat.le_of_ble_eq_true rfl, Nat.le_of_ble_eq_true rfl⟩ ?_
  refine yy_putF X hin (ref := "PictureBlock$Told") (T := TX8) (k := 24) (j := 10) (ty := tyX8 10) (sh' := hsC52) (σ' := sgC1) dX8_init_98 inX8_init_RX8 tyX8 tyX8_ok nmX8 atC51_24 rfl (by decide) (List.mem_of_getElem? (i := 16) rfl) rfl rfl rfl (tyX8_ok 10 (by decide)) rfl rfl (by decide) (by decide +kernel) (hSet_R (k2 := 42) atC51_24 rfl rfl rfl) ?_
  refine yy_aload_n X (j := 0) dX8_init_101 rfl rfl ?_
  refine yy_iconst X (v := 2) dX8_init_102 (by decide) ?_
  refine yy_bipush X (v := 12) dX8_init_103 (by decide) ?_
  refine yy_mna X (ki := 0) (to := 1) (ti := 0) (N := 2) (K := 12) (n := 43) (ty := .int) (sh' := hsC53) (cells' := 21) (slots' := 495) dX8_init_105 (Or.inl rfl) rfl rfl (List.mem_of_getElem? (i := 6) rfl) (List.mem_of_getElem? (i := 4) rfl) (by decide) (by decide) (by decide) (by decide) (Nat.le_of_ble_eq_true rfl) (Nat.le_of_ble_eq_true rfl) (Nat.le_of_ble_eq_true rfl) (by decide +kernel) (fun j _ => (zrC1 (j + 43) (Nat.le_trans (Nat.le_of_ble_eq_true rfl) (Nat.le_add_left 43 j))).1) (fun j _ => (zrC1 (j + 43) (Nat.le_trans (Nat.le_of_ble_eq_true rfl) (Nat.le_add_left 43 j))).2) (Or.inl ⟨rfl, rfl⟩) rfl rfl rfl ⟨Nat.le_of_ble_eq_true rfl, Nat.le_of_ble_eq_true rfl⟩ ?_
  refine yy_putF X hin (ref := "PictureBlock$Told") (T := TX8) (k := 24) (j := 11) (ty := tyX8 11) (sh' := hsC54) (σ' := sgC1) dX8_init_109 inX8_init_RX8 tyX8 tyX8_ok nmX8 atC53_24 rfl (by decide) (List.mem_of_getElem? (i := 17) rfl) rfl rfl rfl (tyX8_ok 11 (by decide)) rfl rfl (by decide) (by decide +kernel) (hSet_R (k2 := 43) atC53_24 rfl rfl rfl) ?_
  exact yy_ret X dX8_init_112
theorem atC54_0 : hsC54[0]? = some (3, 9, 0, [4, 0, 5, 2, 2, 2, 2, 2, 2, 2, 2, 2, 2, 2, 2, 0, 0]) := by decide +kernel
noncomputable def hsC55 : List gC := hsC54.set 0 (3, 9, 0, [4, 0, 5, 27, 2, 2, 2, 2, 2, 2, 2, 2, 2, 2, 2, 0, 0])
noncomputable def hsC56 : List gC := hsC55 ++ [(3, 3, 0, [2, 2, 0, 0, 0, 0, 0, 0, 0, 0, 0, 0, 0, 0])]
theorem atC56_0 : hsC56[0]? = some (3, 9, 0, [4, 0, 5, 27, 2, 2, 2, 2, 2, 2, 2, 2, 2, 2, 2, 0, 0]) := by decide +kernel
theorem atC56_46 : hsC56[46]? = some (3, 3, 0, [2, 2, 0, 0, 0, 0, 0, 0, 0, 0, 0, 0, 0, 0]) := by decide +kernel
noncomputable def sgC2 : gS := gsI sgC1 46 2 0
theorem zrC2 : Zr sgC2 47 := Zr_I (Zr_mono zrC1 (by decide)) (by decide)
noncomputable def sgC3 : gS := gsI sgC2 46 3 (-1)
theorem zrC3 : Zr sgC3 47 := Zr_I (Zr_mono zrC2 (by decide)) (by decide)
noncomputable def sgC4 : gS := gsI sgC3 46 4 0
theorem zrC4 : Zr sgC4 47 := Zr_I (Zr_mono zrC3 (by decide)) (by decide)
noncomputable def sgC5 : gS := gsI sgC4 46 5 0
theorem zrC5 : Zr sgC5 47 := Zr_I (Zr_mono zrC4 (by decide)) (by decide)
noncomputable def sgC6 : gS := gsI sgC5 46 6 0
theorem zrC6 : Zr sgC6 47 := Zr_I (Zr_mono zrC5 (by decide)) (by decide)
noncomputable def sgC7 : gS := gsI sgC6 46 7 0
theorem zrC7 : Zr sgC7 47 := Zr_I (Zr_mono zrC6 (by decide)) (by decide)
noncomputable def sgC8 : gS := gsI sgC7 46 8 (-1)
theorem zrC8 : Zr sgC8 47 := Zr_I (Zr_mono zrC7 (by decide)) (by decide)
noncomputable def sgC9 : gS := gsI sgC8 46 9 0
theorem zrC9 : Zr sgC9 47 := Zr_I (Zr_mono zrC8 (by decide)) (by decide)
noncomputable def sgC10 : gS := gsI sgC9 46 10 (-1)
theorem zrC10 : Zr sgC10 47 := Zr_I (Zr_mono zrC9 (by decide)) (by decide)
noncomputable def sgC11 : gS := gsI sgC10 46 11 0
theorem zrC11 : Zr sgC11 47 := Zr_I (Zr_mono zrC10 (by decide)) (by decide)
noncomputable def sgC12 : gS := gsI sgC11 46 12 0
theorem zrC12 : Zr sgC12 47 := Zr_I (Zr_mono zrC11 (by decide)) (by decide)
noncomputable def sgC13 : gS := gsI sgC12 46 13 0
theorem zrC13 : Zr sgC13 47 := Zr_I (Zr_mono zrC12 (by decide)) (by decide)
noncomputable def hsC57 : List gC := hsC56.set 46 (3, 3, 0, [4, 2, 0, 0, 0, 0, 0, 0, 0, 0, 0, 0, 0, 0])
theorem atC57_46 : hsC57[46]? = some (3, 3, 0, [4, 2, 0, 0, 0, 0, 0, 0, 0, 0, 0, 0, 0, 0]) := by decide +kernel
noncomputable def hsC58 : List gC := hsC57.set 46 (3, 3, 0, [4, 27, 0, 0, 0, 0, 0, 0, 0, 0, 0, 0, 0, 0])
noncomputable abbrev rmIC3 : Room := { frames := 1, cells := 0, slots := 0, locals := 20 }
set_option maxRecDepth 100000 in
set_option maxHeartbeats 8000000 in
theorem kIC3 (l : Launch) (G : gG) (b0 : Nat) (hb : ∀ k, G.2.1 k = b0 + k) (hT : G.2.2.1.map (fun q => q.2) = zC.2.1) : yC l yX3_init wsX3_init rmIC3 G vwCl b0 [.ref (G.2.1 46), .ref (G.2.1 1), .ref (G.2.1 24)] hsC56 sgC1 hsC58 sgC13 0 0 := by
  refine yEnter (maxL := 3) (by decide +kernel) rfl rfl hb hT (Nat.le_of_ble_eq_true rfl) rfl (fun M X hl hin => ?_)
  subst hl
  refine yy_aload_n X (j := 0) dX3_init_0 rfl rfl ?_
  refine yy_objInit X (List.mem_of_getElem? (i := 1) rfl) (List.mem_of_getElem? (i := 2) rfl) (List.mem_of_getElem? (i := 3) rfl) dX3_init_1 ⟨Nat.le_of_ble_eq_true rfl, Nat.le_of_ble_eq_true rfl⟩ ?_
  refine yy_aload_n X (j := 0) dX3_init_4 rfl rfl ?_
  refine yy_iconst X (v := 0) dX3_init_5 (by decide) ?_
  refine yy_put X (ref := "PictureBlock$Reader") (T := TX3) (k := 46) (j := 2) (ty := tyX3 2) (sh' := hsC56) (σ' := sgC2) dX3_init_6 inX3_init_RX3 tyX3 tyX3_ok nmX3 atC56_46 rfl (by decide) (List.mem_of_getElem? (i := 4) rfl) rfl rfl (tyX3_ok 2 (by decide)) rfl rfl (by decide) rfl (hSet_I atC56_46 rfl 0) ?_
  refine yy_aload_n X (j := 0) dX3_init_9 rfl rfl ?_
  refine yy_iconst X (v := (-1)) dX3_init_10 (by decide) ?_
  refine yy_put X (ref := "PictureBlock$Reader") (T := TX3) (k := 46) (j := 3) (ty := tyX3 3) (sh' := hsC56) (σ' := sgC3) dX3_init_11 inX3_init_RX3 tyX3 tyX3_ok nmX3 atC56_46 rfl (by decide) (List.mem_of_getElem? (i := 5) rfl) rfl rfl (tyX3_ok 3 (by decide)) rfl rfl (by decide) rfl (hSet_I atC56_46 rfl (-1)) ?_
  refine yy_aload_n X (j := 0) dX3_init_14 rfl rfl ?_
  refine yy_iconst X (v := 0) dX3_init_15 (by decide) ?_
  refine yy_put X (ref := "PictureBlock$Reader") (T := TX3) (k := 46) (j := 4) (ty := tyX3 4) (sh' := hsC56) (σ' := sgC4) dX3_init_16 inX3_init_RX3 tyX3 tyX3_ok nmX3 atC56_46 rfl (by decide) (List.mem_of_getElem? (i := 6) rfl) rfl rfl (tyX3_ok 4 (by decide)) rfl rfl (by decide) rfl (hSet_I atC56_46 rfl 0) ?_
  refine yy_aload_n X (j := 0) dX3_init_19 rfl rfl ?_
  refine yy_iconst X (v := 0) dX3_init_20 (by decide) ?_
  refine yy_put X (ref := "PictureBlock$Reader") (T := TX3) (k := 46) (j := 5) (ty := tyX3 5) (sh' := hsC56) (σ' := sgC5) dX3_init_21 inX3_init_RX3 tyX3 tyX3_ok nmX3 atC56_46 rfl (by decide) (List.mem_of_getElem? (i := 7) rfl) rfl rfl (tyX3_ok 5 (by decide)) rfl rfl (by decide) rfl (hSet_I atC56_46 rfl 0) ?_
  refine yy_aload_n X (j := 0) dX3_init_24 rfl rfl ?_
  refine yy_iconst X (v := 0) dX3_init_25 (by decide) ?_
  refine yy_put X (ref := "PictureBlock$Reader") (T := TX3) (k := 46) (j := 6) (ty := tyX3 6) (sh' := hsC56) (σ' := sgC6) dX3_init_26 inX3_init_RX3 tyX3 tyX3_ok nmX3 atC56_46 rfl (by decide) (List.mem_of_getElem? (i := 8) rfl) rfl rfl (tyX3_ok 6 (by decide)) rfl rfl (by decide) rfl (hSet_I atC56_46 rfl 0) ?_
  refine yy_aload_n X (j := 0) dX3_init_29 rfl rfl ?_
  refine yy_iconst X (v := 0) dX3_init_30 (by decide) ?_
  refine yy_put X (ref := "PictureBlock$Reader") (T := TX3) (k := 46) (j := 7) (ty := tyX3 7) (sh' := hsC56) (σ' := sgC7) dX3_init_31 inX3_init_RX3 tyX3 tyX3_ok nmX3 atC56_46 rfl (by decide) (List.mem_of_getElem? (i := 9) rfl) rfl rfl (tyX3_ok 7 (by decide)) rfl rfl (by decide) rfl (hSet_I atC56_46 rfl 0) ?_
  refine yy_aload_n X (j := 0) dX3_init_34 rfl rfl ?_
  refine yy_iconst X (v := (-1)) dX3_init_35 (by decide) ?_
  refine yy_put X (ref := "PictureBlock$Reader") (T := TX3) (k := 46) (j := 8) (ty := tyX3 8) (sh' := hsC56) (σ' := sgC8) dX3_init_36 inX3_init_RX3 tyX3 tyX3_ok nmX3 atC56_46 rfl (by decide) (List.mem_of_getElem? (i := 10) rfl) rfl rfl (tyX3_ok 8 (by decide)) rfl rfl (by decide) rfl (hSet_I atC56_46 rfl (-1)) ?_
  refine yy_aload_n X (j := 0) dX3_init_39 rfl rfl ?_
  refine yy_iconst X (v := 0) dX3_init_40 (by decide) ?_
  refine yy_put X (ref := "PictureBlock$Reader") (T := TX3) (k := 46) (j := 9) (ty := tyX3 9) (sh' := hsC56) (σ' := sgC9) dX3_init_41 inX3_init_RX3 tyX3 tyX3_ok nmX3 atC56_46 rfl (by decide) (List.mem_of_getElem? (i := 11) rfl) rfl rfl (tyX3_ok 9 (by decide)) rfl rfl (by decide) rfl (hSet_I atC56_46 rfl 0) ?_
  refine yy_aload_n X (j := 0) dX3_init_44 rfl rfl ?_
  refine yy_iconst X (v := (-1)) dX3_init_45 (by decide) ?_
  refine yy_put X (ref := "PictureBlock$Reader") (T := TX3) (k := 46) (j := 10) (ty := tyX3 10) (sh' := hsC56) (σ' := sgC10) dX3_init_46 inX3_init_RX3 tyX3 tyX3_ok nmX3 atC56_46 rfl (by decide) (List.mem_of_getElem? (i := 12) rfl) rfl rfl (tyX3_ok 10 (by decide)) rfl rfl (by decide) rfl (hSet_I atC56_46 rfl (-1)) ?_
  refine yy_aload_n X (j := 0) dX3_init_49 rfl rfl ?_
  refine yy_iconst X (v := 0) dX3_init_50 (by decide) ?_
  refine yy_put X (ref := "PictureBlock$Reader") (T := TX3) (k := 46) (j := 11) (ty := tyX3 11) (sh' := hsC56) (σ' := sgC11) dX3_init_51 inX3_init_RX3 tyX3 tyX3_ok nmX3 atC56_46 rfl (by decide) (List.mem_of_getElem? (i := 13) rfl) rfl rfl (tyX3_ok 11 (by decide)) rfl rfl (by decide) rfl (hSet_I atC56_46 rfl 0) ?_
  refine yy_aload_n X (j := 0) dX3_init_54 rfl rfl ?_
  refine yy_iconst X (v := 0) dX3_init_55 (by decide) ?_
  refine yy_put X (ref := "PictureBlock$Reader") (T := TX3) (k := 46) (j := 12) (ty := tyX3 12) (sh' := hsC56) (σ' := sgC12) dX3_init_56 inX3_init_RX3 tyX3 tyX3_ok nmX3 atC56_46 rfl (by decide) (List.mem_of_getElem? (i := 14) rfl) rfl rfl (tyX3_ok 12 (by decide)) rfl rfl (by decide) rfl (hSet_I atC56_46 rfl 0) ?_
  refine yy_aload_n X (j := 0) dX3_init_59 rfl rfl ?_
  refine yy_iconst X (v := 0) dX3_init_60 (by decide) ?_
  refine yy_put X (ref := "PictureBlock$Reader") (T := TX3) (k := 46) (j := 13) (ty := tyX3 13) (sh' := hsC56) (σ' := sgC13) dX3_init_61 inX3_init_RX3 tyX3 tyX3_ok nmX3 atC56_46 rfl (by decide) (List.mem_of_getElem? (i := 15) rfl) rfl rfl (tyX3_ok 13 (by decide)) rfl rfl (by decide) rfl (hSet_I atC56_46 rfl 0) ?_
  refine yy_aload_n X (j := 0) dX3_init_64 rfl rfl ?_
  refine yy_aload_n X (j := 1) dX3_init_65 rfl rfl ?_
  refine yy_putF X hin (ref := "PictureBlock$Reader") (T := TX3) (k := 46) (j := 0) (ty := tyX3 0) (sh' := hsC57) (σ' := sgC13) dX3_init_66 inX3_init_RX3 tyX3 tyX3_ok nmX3 atC56_46 rfl (by decide) (List.mem_of_getElem? (i := 16) rfl) rfl rfl rfl (tyX3_ok 0 (by decide)) rfl rfl (by decide) (by decide +kernel) (hSet_R (k2 := 1) atC56_46 rfl rfl rfl) ?_
  refine yy_aload_n X (j := 0) dX3_init_69 rfl rfl ?_
  refine yy_aload_n X (j := 2) dX3_init_70 rfl rfl ?_
  refine yy_putF X hin (ref := "PictureBlock$Reader") (T := TX3) (k := 46) (j := 1) (ty := tyX3 1) (sh' := hsC58) (σ' := sgC13) dX3_init_71 inX3_init_RX3 tyX3 tyX3_ok nmX3 atC57_46 rfl (by decide) (List.mem_of_getElem? (i := 17) rfl) rfl rfl rfl (tyX3_ok 1 (by decide)) rfl rfl (by decide) (by decide +kernel) (hSet_R (k2 := 24) atC57_46 rfl rfl rfl) ?_
  exact yy_ret X dX3_init_74
theorem atC58_0 : hsC58[0]? = some (3, 9, 0, [4, 0, 5, 27, 2, 2, 2, 2, 2, 2, 2, 2, 2, 2, 2, 0, 0]) := by decide +kernel
noncomputable def hsC59 : List gC := hsC58.set 0 (3, 9, 0, [4, 0, 5, 27, 49, 2, 2, 2, 2, 2, 2, 2, 2, 2, 2, 0, 0])
noncomputable def hsC60 : List gC := hsC59 ++ [(3, 5, 0, [2, 0, 2, 2, 2, 2, 2])]
theorem atC60_0 : hsC60[0]? = some (3, 9, 0, [4, 0, 5, 27, 49, 2, 2, 2, 2, 2, 2, 2, 2, 2, 2, 0, 0]) := by decide +kernel
theorem atC60_47 : hsC60[47]? = some (3, 5, 0, [2, 0, 2, 2, 2, 2, 2]) := by decide +kernel
noncomputable def sgC14 : gS := gsI sgC13 47 1 3
theorem zrC14 : Zr sgC14 48 := Zr_I (Zr_mono zrC13 (by decide)) (by decide)
noncomputable def hsC61 : List gC := hsC60 ++ [(0, 0, 12, [])]
theorem atC61_47 : hsC61[47]? = some (3, 5, 0, [2, 0, 2, 2, 2, 2, 2]) := by decide +kernel
noncomputable def hsC62 : List gC := hsC61.set 47 (3, 5, 0, [2, 0, 51, 2, 2, 2, 2])
noncomputable def hsC63 : List gC := hsC62 ++ ((2, 1, 2, [50]) :: List.replicate 2 (0, 0, 12, []))
theorem atC63_47 : hsC63[47]? = some (3, 5, 0, [2, 0, 51, 2, 2, 2, 2]) := by decide +kernel
noncomputable def hsC64 : List gC := hsC63.set 47 (3, 5, 0, [2, 0, 51, 52, 2, 2, 2])
noncomputable def hsC65 : List gC := hsC64 ++ ((2, 1, 2, [53]) :: List.replicate 2 (0, 0, 20, []))
theorem atC65_47 : hsC65[47]? = some (3, 5, 0, [2, 0, 51, 52, 2, 2, 2]) := by decide +kernel
noncomputable def hsC66 : List gC := hsC65.set 47 (3, 5, 0, [2, 0, 51, 52, 55, 2, 2])
noncomputable def hsC67 : List gC := hsC66 ++ ((2, 1, 2, [56]) :: List.replicate 2 (0, 0, 6, []))
theorem atC67_47 : hsC67[47]? = some (3, 5, 0, [2, 0, 51, 52, 55, 2, 2]) := by decide +kernel
noncomputable def hsC68 : List gC := hsC67.set 47 (3, 5, 0, [2, 0, 51, 52, 55, 58, 2])
noncomputable def hsC69 : List gC := hsC68 ++ [(0, 0, 60, [])]
theorem atC69_47 : hsC69[47]? = some (3, 5, 0, [2, 0, 51, 52, 55, 58, 2]) := by decide +kernel
noncomputable def hsC70 : List gC := hsC69.set 47 (3, 5, 0, [2, 0, 51, 52, 55, 58, 61])
theorem atC70_47 : hsC70[47]? = some (3, 5, 0, [2, 0, 51, 52, 55, 58, 61]) := by decide +kernel
noncomputable def hsC71 : List gC := hsC70.set 47 (3, 5, 0, [5, 0, 51, 52, 55, 58, 61])
noncomputable abbrev rmIC4 : Room := { frames := 1, cells := 11, slots := 154, locals := 20 }
set_option maxRecDepth 100000 in
set_option maxHeartbeats 8000000 in
theorem kIC4 (l : Launch) (G : gG) (b0 : Nat) (hb : ∀ k, G.2.1 k = b0 + k) (hT : G.2.2.1.map (fun q => q.2) = zC.2.1) : yC l yX5_init wsX5_init rmIC4 G vwCl b0 [.ref (G.2.1 47), .ref (G.2.1 2)] hsC60 sgC13 hsC71 sgC14 11 154 := by
  refine yEnter (maxL := 2) (by decide +kernel) rfl rfl hb hT (Nat.le_of_ble_eq_true rfl) rfl (fun M X hl hin => ?_)
  subst hl
  refine yy_aload_n X (j := 0) dX5_init_0 rfl rfl ?_
  refine yy_objInit X (List.mem_of_getElem? (i := 1) rfl) (List.mem_of_getElem? (i := 2) rfl) (List.mem_of_getElem? (i := 3) rfl) dX5_init_1 ⟨Nat.le_of_ble_eq_true rfl, Nat.le_of_ble_eq_true rfl⟩ ?_
  refine yy_aload_n X (j := 0) dX5_init_4 rfl rfl ?_
  refine yy_iconst X (v := 3) dX5_init_5 (by decide) ?_
  refine yy_put X (ref := "PictureBlock$Stand") (T := TX5) (k := 47) (j := 1) (ty := tyX5 1) (sh' := hsC60) (σ' := sgC14) dX5_init_6 inX5_init_RX5 tyX5 tyX5_ok nmX5 atC60_47 rfl (by decide) (List.mem_of_getElem? (i := 4) rfl) rfl rfl (tyX5_ok 1 (by decide)) rfl rfl (by decide) rfl (hSet_I atC60_47 rfl 3) ?_
  refine yy_aload_n X (j := 0) dX5_init_9 rfl rfl ?_
  refine yy_bipush X (v := 12) dX5_init_10 (by decide) ?_
  refine yy_newa X (ki := 0) (t := 0) (N := 12) (n := 48) (atype := .int) (ty := .int) (sh' := hsC61) (cells' := 1) (slots' := 12) dX5_init_12 rfl (fun C h => by cases h) rfl (List.mem_of_getElem? (i := 5) rfl) (by decide) (by decide) (Nat.le_of_ble_eq_true rfl) (by decide +kernel) (zrC14 _ (Nat.le_of_ble_eq_true rfl)).1 (zrC14 _ (Nat.le_of_ble_eq_true rfl)).2 (Or.inl ⟨rfl, rfl⟩) rfl rfl rfl ⟨Nat.le_of_ble_eq_true rfl, Nat.le_of_ble_eq_true rfl⟩ ?_
  refine yy_putF X hin (ref := "PictureBlock$Stand") (T := TX5) (k := 47) (j := 2) (ty := tyX5 2) (sh' := hsC62) (σ' := sgC14) dX5_init_14 inX5_init_RX5 tyX5 tyX5_ok nmX5 atC61_47 rfl (by decide) (List.mem_of_getElem? (i := 6) rfl) rfl rfl rfl (tyX5_ok 2 (by decide)) rfl rfl (by decide) (by decide +kernel) (hSet_R (k2 := 48) atC61_47 rfl rfl rfl) ?_
  refine yy_aload_n X (j := 0) dX5_init_17 rfl rfl ?_
  refine yy_iconst X (v := 2) dX5_init_18 (by decide) ?_
  refine yy_bipush X (v := 12) dX5_init_19 (by decide) ?_
  refine yy_mna X (ki := 0) (to := 1) (ti := 0) (N := 2) (K := 12) (n := 49) (ty := .int) (sh' := hsC63) (cells' := 4) (slots' := 38) dX5_init_21 (Or.inl rfl) rfl rfl (List.mem_of_getElem? (i := 7) rfl) (List.mem_of_getElem? (i := 5) rfl) (by decide) (by decide) (by decide) (by decide) (Nat.le_of_ble_eq_true rfl) (Nat.le_of_ble_eq_true rfl) (Nat.le_of_ble_eq_true rfl) (by decide +kernel) (fun j _ => (zrC14 (j + 49) (Nat.le_trans (Nat.le_of_ble_eq_true rfl) (Nat.le_add_left 49 j))).1) (fun j _ => (zrC14 (j + 49) (Nat.le_trans (Nat.le_of_ble_eq_true rfl) (Nat.le_add_left 49 j))).2) (Or.inl ⟨rfl, rfl⟩) rfl rfl rfl ⟨Nat.le_of_ble_eq_true rfl, Nat.le_of_ble_eq_true rfl⟩ ?_
  refine yy_putF X hin (ref := "PictureBlock$Stand") (T := TX5) (k := 47) (j := 3) (ty := tyX5 3) (sh' := hsC64) (σ' := sgC14) dX5_init_25 inX5_init_RX5 tyX5 tyX5_ok nmX5 atC63_47 rfl (by decide) (List.mem_of_getElem? (i := 8) rfl) rfl rfl rfl (tyX5_ok 3 (by decide)) rfl rfl (by decide) (by decide +kernel) (hSet_R (k2 := 49) atC63_47 rfl rfl rfl) ?_
  refine yy_aload_n X (j := 0) dX5_init_28 rfl rfl ?_
  refine yy_iconst X (v := 2) dX5_init_29 (by decide) ?_
  refine yy_bipush X (v := 20) dX5_init_30 (by decide) ?_
  refine yy_mna X (ki := 0) (to := 1) (ti := 0) (N := 2) (K := 20) (n := 52) (ty := .int) (sh' := hsC65) (cells' := 7) (slots' := 80) dX5_init_32 (Or.inl rfl) rfl rfl (List.mem_of_getElem? (i := 7) rfl) (List.mem_of_getElem? (i := 5) rfl) (by decide) (by decide) (by decide) (by decide) (Nat.le_of_ble_eq_true rfl) (Nat.le_of_ble_eq_true rfl) (Nat.le_of_ble_eq_true rfl) (by decide +kernel) (fun j _ => (zrC14 (j + 52) (Nat.le_trans (Nat.le_of_ble_eq_true rfl) (Nat.le_add_left 52 j))).1) (fun j _ => (zrC14 (j + 52) (Nat.le_trans (Nat.le_of_ble_eq_true rfl) (Nat.le_add_left 52 j))).2) (Or.inl ⟨rfl, rfl⟩) rfl rfl rfl ⟨Nat.le_of_ble_eq_true rfl, Nat.le_of_ble_eq_true rfl⟩ ?_
  refine yy_putF X hin (ref := "PictureBlock$Stand") (T := TX5) (k := 47) (j := 4) (ty := tyX5 4) (sh' := hsC66) (σ' := sgC14) dX5_init_36 inX5_init_RX5 tyX5 tyX5_ok nmX5 atC65_47 rfl (by decide) (List.mem_of_getElem? (i := 9) rfl) rfl rfl rfl (tyX5_ok 4 (by decide)) rfl rfl (by decide) (by decide +kernel) (hSet_R (k2 := 52) atC65_47 rfl rfl rfl) ?_
  refine yy_aload_n X (j := 0) dX5_init_39 rfl rfl ?_
  refine yy_iconst X (v := 2) dX5_init_40 (by decide) ?_
  refine yy_bipush X (v := 6) dX5_init_41 (by decide) ?_
  refine yy_mna X (ki := 0) (to := 1) (ti := 0) (N := 2) (K := 6) (n := 55) (ty := .int) (sh' := hsC67) (cells' := 10) (slots' := 94) dX5_init_43 (Or.inl rfl) rfl rfl (List.mem_of_getElem? (i := 7) rfl) (List.mem_of_getElem? (i := 5) rfl) (by decide) (by decide) (by decide) (by decide) (Nat.le_of_ble_eq_true rfl) (Nat.le_of_ble_eq_true rfl) (Nat.le_of_ble_eq_true rfl) (by decide +kernel) (fun j _ => (zrC14 (j + 55) (Nat.le_trans (Nat.le_of_ble_eq_true rfl) (Nat.le_add_left 55 j))).1) (fun j _ => (zrC14 (j + 55) (Nat.le_trans (Nat.le_of_ble_eq_true rfl) (Nat.le_add_left 55 j))).2) (Or.inl ⟨rfl, rfl⟩) rfl rfl rfl ⟨Nat.le_of_ble_eq_true rfl, Nat.le_of_ble_eq_true rfl⟩ ?_
  refine yy_putF X hin (ref := "PictureBlock$Stand") (T := TX5) (k := 47) (j := 5) (ty := tyX5 5) (sh' := hsC68) (σ' := sgC14) dX5_init_47 inX5_init_RX5 tyX5 tyX5_ok nmX5 atC67_47 rfl (by decide) (List.mem_of_getElem? (i := 10) rfl) rfl rfl rfl (tyX5_ok 5 (by decide)) rfl rfl (by decide) (by decide +kernel) (hSet_R (k2 := 55) atC67_47 rfl rfl rfl) ?_
  refine yy_aload_n X (j := 0) dX5_init_50 rfl rfl ?_
  refine yy_bipush X (v := 60) dX5_init_51 (by decide) ?_
  refine yy_newa X (ki := 0) (t := 0) (N := 60) (n := 58) (atype := .int) (ty := .int) (sh' := hsC69) (cells' := 11) (slots' := 154) dX5_init_53 rfl (fun C h => by cases h) rfl (List.mem_of_getElem? (i := 5) rfl) (by decide) (by decide) (Nat.le_of_ble_eq_true rfl) (by decide +kernel) (zrC14 _ (Nat.le_of_ble_eq_true rfl)).1 (zrC14 _ (Nat.le_of_ble_eq_true rfl)).2 (Or.inl ⟨rfl, rfl⟩) rfl rfl rfl ⟨Nat.le_of_ble_eq_true rfl, Nat.le_of_ble_eq_true rfl⟩ ?_
  refine yy_putF X hin (ref := "PictureBlock$Stand") (T := TX5) (k := 47) (j := 6) (ty := tyX5 6) (sh' := hsC70) (σ' := sgC14) dX5_init_55 inX5_init_RX5 tyX5 tyX5_ok nmX5 atC69_47 rfl (by decide) (List.mem_of_getElem? (i := 11) rfl) rfl rfl rfl (tyX5_ok 6 (by decide)) rfl rfl (by decide) (by decide +kernel) (hSet_R (k2 := 58) atC69_47 rfl rfl rfl) ?_
  refine yy_aload_n X (j := 0) dX5_init_58 rfl rfl ?_
  refine yy_aload_n X (j := 1) dX5_init_59 rfl rfl ?_
  refine yy_putF X hin (ref := "PictureBlock$Stand") (T := TX5) (k := 47) (j := 0) (ty := tyX5 0) (sh' := hsC71) (σ' := sgC14) dX5_init_60 inX5_init_RX5 tyX5 tyX5_ok nmX5 atC70_47 rfl (by decide) (List.mem_of_getElem? (i := 12) rfl) rfl rfl rfl (tyX5_ok 0 (by decide)) rfl rfl (by decide) (by decide +kernel) (hSet_R (k2 := 2) atC70_47 rfl rfl rfl) ?_
  exact yy_ret X dX5_init_63
theorem atC71_0 : hsC71[0]? = some (3, 9, 0, [4, 0, 5, 27, 49, 2, 2, 2, 2, 2, 2, 2, 2, 2, 2, 0, 0]) := by decide +kernel
noncomputable def hsC72 : List gC := hsC71.set 0 (3, 9, 0, [4, 0, 5, 27, 49, 50, 2, 2, 2, 2, 2, 2, 2, 2, 2, 0, 0])
noncomputable def hsC73 : List gC := hsC72 ++ [(3, 5, 0, [2, 0, 2, 2, 2, 2, 2])]
theorem atC73_0 : hsC73[0]? = some (3, 9, 0, [4, 0, 5, 27, 49, 50, 2, 2, 2, 2, 2, 2, 2, 2, 2, 0, 0]) := by decide +kernel
theorem atC73_59 : hsC73[59]? = some (3, 5, 0, [2, 0, 2, 2, 2, 2, 2]) := by decide +kernel
noncomputable def sgC15 : gS := gsI sgC14 59 1 3
theorem zrC15 : Zr sgC15 60 := Zr_I (Zr_mono zrC14 (by decide)) (by decide)
noncomputable def hsC74 : List gC := hsC73 ++ [(0, 0, 12, [])]
theorem atC74_59 : hsC74[59]? = some (3, 5, 0, [2, 0, 2, 2, 2, 2, 2]) := by decide +kernel
noncomputable def hsC75 : List gC := hsC74.set 59 (3, 5, 0, [2, 0, 63, 2, 2, 2, 2])
noncomputable def hsC76 : List gC := hsC75 ++ ((2, 1, 2, [62]) :: List.replicate 2 (0, 0, 12, []))
theorem atC76_59 : hsC76[59]? = some (3, 5, 0, [2, 0, 63, 2, 2, 2, 2]) := by decide +kernel
noncomputable def hsC77 : List gC := hsC76.set 59 (3, 5, 0, [2, 0, 63, 64, 2, 2, 2])
noncomputable def hsC78 : List gC := hsC77 ++ ((2, 1, 2, [65]) :: List.replicate 2 (0, 0, 20, []))
theorem atC78_59 : hsC78[59]? = some (3, 5, 0, [2, 0, 63, 64, 2, 2, 2]) := by decide +kernel
noncomputable def hsC79 : List gC := hsC78.set 59 (3, 5, 0, [2, 0, 63, 64, 67, 2, 2])
noncomputable def hsC80 : List gC := hsC79 ++ ((2, 1, 2, [68]) :: List.replicate 2 (0, 0, 6, []))
theorem atC80_59 : hsC80[59]? = some (3, 5, 0, [2, 0, 63, 64, 67, 2, 2]) := by decide +kernel
noncomputable def hsC81 : List gC := hsC80.set 59 (3, 5, 0, [2, 0, 63, 64, 67, 70, 2])
noncomputable def hsC82 : List gC := hsC81 ++ [(0, 0, 60, [])]
theorem atC82_59 : hsC82[59]? = some (3, 5, 0, [2, 0, 63, 64, 67, 70, 2]) := by decide +kernel
noncomputable def hsC83 : List gC := hsC82.set 59 (3, 5, 0, [2, 0, 63, 64, 67, 70, 73])
theorem atC83_59 : hsC83[59]? = some (3, 5, 0, [2, 0, 63, 64, 67, 70, 73]) := by decide +kernel
noncomputable def hsC84 : List gC := hsC83.set 59 (3, 5, 0, [5, 0, 63, 64, 67, 70, 73])
noncomputable abbrev rmIC5 : Room := { frames := 1, cells := 11, slots := 154, locals := 20 }
set_option maxRecDepth 100000 in
set_option maxHeartbeats 8000000 in
theorem kIC5 (l : Launch) (G : gG) (b0 : Nat) (hb : ∀ k, G.2.1 k = b0 + k) (hT : G.2.2.1.map (fun q => q.2) = zC.2.1) : yC l yX5_init wsX5_init rmIC5 G vwCl b0 [.ref (G.2.1 59), .ref (G.2.1 2)] hsC73 sgC14 hsC84 sgC15 11 154 := by
  refine yEnter (maxL := 2) (by decide +kernel) rfl rfl hb hT (Nat.le_of_ble_eq_true rfl) rfl (fun M X hl hin => ?_)
  subst hl
  refine yy_aload_n X (j := 0) dX5_init_0 rfl rfl ?_
  refine yy_objInit X (List.mem_of_getElem? (i := 1) rfl) (List.mem_of_getElem? (i := 2) rfl) (List.mem_of_getElem? (i := 3) rfl) dX5_init_1 ⟨Nat.le_of_ble_eq_true rfl, Nat.le_of_ble_eq_true rfl⟩ ?_
  refine yy_aload_n X (j := 0) dX5_init_4 rfl rfl ?_
  refine yy_iconst X (v := 3) dX5_init_5 (by decide) ?_
  refine yy_put X (ref := "PictureBlock$Stand") (T := TX5) (k := 59) (j := 1) (ty := tyX5 1) (sh' := hsC73) (σ' := sgC15) dX5_init_6 inX5_init_RX5 tyX5 tyX5_ok nmX5 atC73_59 rfl (by decide) (List.mem_of_getElem? (i := 4) rfl) rfl rfl (tyX5_ok 1 (by decide)) rfl rfl (by decide) rfl (hSet_I atC73_59 rfl 3) ?_
  refine yy_aload_n X (j := 0) dX5_init_9 rfl rfl ?_
  refine yy_bipush X (v := 12) dX5_init_10 (by decide) ?_
  refine yy_newa X (ki := 0) (t := 0) (N := 12) (n := 60) (atype := .int) (ty := .int) (sh' := hsC74) (cells' := 1) (slots' := 12) dX5_init_12 rfl (fun C h => by cases h) rfl (List.mem_of_getElem? (i := 5) rfl) (by decide) (by decide) (Nat.le_of_ble_eq_true rfl) (by decide +kernel) (zrC15 _ (Nat.le_of_ble_eq_true rfl)).1 (zrC15 _ (Nat.le_of_ble_eq_true rfl)).2 (Or.inl ⟨rfl, rfl⟩) rfl rfl rfl ⟨Nat.le_of_ble_eq_true rfl, Nat.le_of_ble_eq_true rfl⟩ ?_
  refine yy_putF X hin (ref := "PictureBlock$Stand") (T := TX5) (k := 59) (j := 2) (ty := tyX5 2) (sh' := hsC75) (σ' := sgC15) dX5_init_14 inX5_init_RX5 tyX5 tyX5_ok nmX5 atC74_59 rfl (by decide) (List.mem_of_getElem? (i := 6) rfl) rfl rfl rfl (tyX5_ok 2 (by decide)) rfl rfl (by decide) (by decide +kernel) (hSet_R (k2 := 60) atC74_59 rfl rfl rfl) ?_
  refine yy_aload_n X (j := 0) dX5_init_17 rfl rfl ?_
  refine yy_iconst X (v := 2) dX5_init_18 (by decide) ?_
  refine yy_bipush X (v := 12) dX5_init_19 (by decide) ?_
  refine yy_mna X (ki := 0) (to := 1) (ti := 0) (N := 2) (K := 12) (n := 61) (ty := .int) (sh' := hsC76) (cells' := 4) (slots' := 38) dX5_init_21 (Or.inl rfl) rfl rfl (List.mem_of_getElem? (i := 7) rfl) (List.mem_of_getElem? (i := 5) rfl) (by decide) (by decide) (by decide) (by decide) (Nat.le_of_ble_eq_true rfl) (Nat.le_of_ble_eq_true rfl) (Nat.le_of_ble_eq_true rfl) (by decide +kernel) (fun j _ => (zrC15 (j + 61) (Nat.le_trans (Nat.le_of_ble_eq_true rfl) (Nat.le_add_left 61 j))).1) (fun j _ => (zrC15 (j + 61) (Nat.le_trans (Nat.le_of_ble_eq_true rfl) (Nat.le_add_left 61 j))).2) (Or.inl ⟨rfl, rfl⟩) rfl rfl rfl ⟨Nat.le_of_ble_eq_true rfl, Nat.le_of_ble_eq_true rfl⟩ ?_
  refine yy_putF X hin (ref := "PictureBlock$Stand") (T := TX5) (k := 59) (j := 3) (ty := tyX5 3) (sh' := hsC77) (σ' := sgC15) dX5_init_25 inX5_init_RX5 tyX5 tyX5_ok nmX5 atC76_59 rfl (by decide) (List.mem_of_getElem? (i := 8) rfl) rfl rfl rfl (tyX5_ok 3 (by decide)) rfl rfl (by decide) (by decide +kernel) (hSet_R (k2 := 61) atC76_59 rfl rfl rfl) ?_
  refine yy_aload_n X (j := 0) dX5_init_28 rfl rfl ?_
  refine yy_iconst X (v := 2) dX5_init_29 (by decide) ?_
  refine yy_bipush X (v := 20) dX5_init_30 (by decide) ?_
  refine yy_mna X (ki := 0) (to := 1) (ti := 0) (N := 2) (K := 20) (n := 64) (ty := .int) (sh' := hsC78) (cells' := 7) (slots' := 80) dX5_init_32 (Or.inl rfl) rfl rfl (List.mem_of_getElem? (i := 7) rfl) (List.mem_of_getElem? (i := 5) rfl) (by decide) (by decide) (by decide) (by decide) (Nat.le_of_ble_eq_true rfl) (Nat.le_of_ble_eq_true rfl) (Nat.le_of_ble_eq_true rfl) (by decide +kernel) (fun j _ => (zrC15 (j + 64) (Nat.le_trans (Nat.le_of_ble_eq_true rfl) (Nat.le_add_left 64 j))).1) (fun j _ => (zrC15 (j + 64) (Nat.le_trans (Nat.le_of_ble_eq_true rfl) (Nat.le_add_left 64 j))).2) (Or.inl ⟨rfl, rfl⟩) rfl rfl rfl ⟨Nat.le_of_ble_eq_true rfl, Nat.le_of_ble_eq_true rfl⟩ ?_
  refine yy_putF X hin (ref := "PictureBlock$Stand") (T := TX5) (k := 59) (j := 4) (ty := tyX5 4) (sh' := hsC79) (σ' := sgC15) dX5_init_36 inX5_init_RX5 tyX5 tyX5_ok nmX5 atC78_59 rfl (by decide) (List.mem_of_getElem? (i := 9) rfl) rfl rfl rfl (tyX5_ok 4 (by decide)) rfl rfl (by decide) (by decide +kernel) (hSet_R (k2 := 64) atC78_59 rfl rfl rfl) ?_
  refine yy_aload_n X (j := 0) dX5_init_39 rfl rfl ?_
  refine yy_iconst X (v := 2) dX5_init_40 (by decide) ?_
  refine yy_bipush X (v := 6) dX5_init_41 (by decide) ?_
  refine yy_mna X (ki := 0) (to := 1) (ti := 0) (N := 2) (K := 6) (n := 67) (ty := .int) (sh' := hsC80) (cells' := 10) (slots' := 94) dX5_init_43 (Or.inl rfl) rfl rfl (List.mem_of_getElem? (i := 7) rfl) (List.mem_of_getElem? (i := 5) rfl) (by decide) (by decide) (by decide) (by decide) (Nat.le_of_ble_eq_true rfl) (Nat.le_of_ble_eq_true rfl) (Nat.le_of_ble_eq_true rfl) (by decide +kernel) (fun j _ => (zrC15 (j + 67) (Nat.le_trans (Nat.le_of_ble_eq_true rfl) (Nat.le_add_left 67 j))).1) (fun j _ => (zrC15 (j + 67) (Nat.le_trans (Nat.le_of_ble_eq_true rfl) (Nat.le_add_left 67 j))).2) (Or.inl ⟨rfl, rfl⟩) rfl rfl rfl ⟨Nat.le_of_ble_eq_true rfl, Nat.le_of_ble_eq_true rfl⟩ ?_
  refine yy_putF X hin (ref := "PictureBlock$Stand") (T := TX5) (k := 59) (j := 5) (ty := tyX5 5) (sh' := hsC81) (σ' := sgC15) dX5_init_47 inX5_init_RX5 tyX5 tyX5_ok nmX5 atC80_59 rfl (by decide) (List.mem_of_getElem? (i := 10) rfl) rfl rfl rfl (tyX5_ok 5 (by decide)) rfl rfl (by decide) (by decide +kernel) (hSet_R (k2 := 67) atC80_59 rfl rfl rfl) ?_
  refine yy_aload_n X (j := 0) dX5_init_50 rfl rfl ?_
  refine yy_bipush X (v := 60) dX5_init_51 (by decide) ?_
  refine yy_newa X (ki := 0) (t := 0) (N := 60) (n := 70) (atype := .int) (ty := .int) (sh' := hsC82) (cells' := 11) (slots' := 154) dX5_init_53 rfl (fun C h => by cases h) rfl (List.mem_of_getElem? (i := 5) rfl) (by decide) (by decide) (Nat.le_of_ble_eq_true rfl) (by decide +kernel) (zrC15 _ (Nat.le_of_ble_eq_true rfl)).1 (zrC15 _ (Nat.le_of_ble_eq_true rfl)).2 (Or.inl ⟨rfl, rfl⟩) rfl rfl rfl ⟨Nat.le_of_ble_eq_true rfl, Nat.le_of_ble_eq_true rfl⟩ ?_
  refine yy_putF X hin (ref := "PictureBlock$Stand") (T := TX5) (k := 59) (j := 6) (ty := tyX5 6) (sh' := hsC83) (σ' := sgC15) dX5_init_55 inX5_init_RX5 tyX5 tyX5_ok nmX5 atC82_59 rfl (by decide) (List.mem_of_getElem? (i := 11) rfl) rfl rfl rfl (tyX5_ok 6 (by decide)) rfl rfl (by decide) (by decide +kernel) (hSet_R (k2 := 70) atC82_59 rfl rfl rfl) ?_
  refine yy_aload_n X (j := 0) dX5_init_58 rfl rfl ?_
  refine yy_aload_n X (j := 1) dX5_init_59 rfl rfl ?_
  refine yy_putF X hin (ref := "PictureBlock$Stand") (T := TX5) (k := 59) (j := 0) (ty := tyX5 0) (sh' := hsC84) (σ' := sgC15) dX5_init_60 inX5_init_RX5 tyX5 tyX5_ok nmX5 atC83_59 rfl (by decide) (List.mem_of_getElem? (i := 12) rfl) rfl rfl rfl (tyX5_ok 0 (by decide)) rfl rfl (by decide) (by decide +kernel) (hSet_R (k2 := 2) atC83_59 rfl rfl rfl) ?_
  exact yy_ret X dX5_init_63
theorem atC84_0 : hsC84[0]? = some (3, 9, 0, [4, 0, 5, 27, 49, 50, 2, 2, 2, 2, 2, 2, 2, 2, 2, 0, 0]) := by decide +kernel
noncomputable def hsC85 : List gC := hsC84.set 0 (3, 9, 0, [4, 0, 5, 27, 49, 50, 62, 2, 2, 2, 2, 2, 2, 2, 2, 0, 0])
noncomputable def hsC86 : List gC := hsC85 ++ [(3, 5, 0, [2, 0, 2, 2, 2, 2, 2])]
theorem atC86_0 : hsC86[0]? = some (3, 9, 0, [4, 0, 5, 27, 49, 50, 62, 2, 2, 2, 2, 2, 2, 2, 2, 0, 0]) := by decide +kernel
theorem atC86_71 : hsC86[71]? = some (3, 5, 0, [2, 0, 2, 2, 2, 2, 2]) := by decide +kernel
noncomputable def sgC16 : gS := gsI sgC15 71 1 3
theorem zrC16 : Zr sgC16 72 := Zr_I (Zr_mono zrC15 (by decide)) (by decide)
noncomputable def hsC87 : List gC := hsC86 ++ [(0, 0, 12, [])]
theorem atC87_71 : hsC87[71]? = some (3, 5, 0, [2, 0, 2, 2, 2, 2, 2]) := by decide +kernel
noncomputable def hsC88 : List gC := hsC87.set 71 (3, 5, 0, [2, 0, 75, 2, 2, 2, 2])
noncomputable def hsC89 : List gC := hsC88 ++ ((2, 1, 2, [74]) :: List.replicate 2 (0, 0, 12, []))
theorem atC89_71 : hsC89[71]? = some (3, 5, 0, [2, 0, 75, 2, 2, 2, 2]) := by decide +kernel
noncomputable def hsC90 : List gC := hsC89.set 71 (3, 5, 0, [2, 0, 75, 76, 2, 2, 2])
noncomputable def hsC91 : List gC := hsC90 ++ ((2, 1, 2, [77]) :: List.replicate 2 (0, 0, 20, []))
theorem atC91_71 : hsC91[71]? = some (3, 5, 0, [2, 0, 75, 76, 2, 2, 2]) := by decide +kernel
noncomputable def hsC92 : List gC := hsC91.set 71 (3, 5, 0, [2, 0, 75, 76, 79, 2, 2])
noncomputable def hsC93 : List gC := hsC92 ++ ((2, 1, 2, [80]) :: List.replicate 2 (0, 0, 6, []))
theorem atC93_71 : hsC93[71]? = some (3, 5, 0, [2, 0, 75, 76, 79, 2, 2]) := by decide +kernel
noncomputable def hsC94 : List gC := hsC93.set 71 (3, 5, 0, [2, 0, 75, 76, 79, 82, 2])
noncomputable def hsC95 : List gC := hsC94 ++ [(0, 0, 60, [])]
theorem atC95_71 : hsC95[71]? = some (3, 5, 0, [2, 0, 75, 76, 79, 82, 2]) := by decide +kernel
noncomputable def hsC96 : List gC := hsC95.set 71 (3, 5, 0, [2, 0, 75, 76, 79, 82, 85])
theorem atC96_71 : hsC96[71]? = some (3, 5, 0, [2, 0, 75, 76, 79, 82, 85]) := by decide +kernel
noncomputable def hsC97 : List gC := hsC96.set 71 (3, 5, 0, [5, 0, 75, 76, 79, 82, 85])
noncomputable abbrev rmIC6 : Room := { frames := 1, cells := 11, slots := 154, locals := 20 }
set_option maxRecDepth 100000 in
set_option maxHeartbeats 8000000 in
theorem kIC6 (l : Launch) (G : gG) (b0 : Nat) (hb : ∀ k, G.2.1 k = b0 + k) (hT : G.2.2.1.map (fun q => q.2) = zC.2.1) : yC l yX5_init wsX5_init rmIC6 G vwCl b0 [.ref (G.2.1 71), .ref (G.2.1 2)] hsC86 sgC15 hsC97 sgC16 11 154 := by
  refine yEnter (maxL := 2) (by decide +kernel) rfl rfl hb hT (Nat.le_of_ble_eq_true rfl) rfl (fun M X hl hin => ?_)
  subst hl
  refine yy_aload_n X (j := 0) dX5_init_0 rfl rfl ?_
  refine yy_objInit X (List.mem_of_getElem? (i := 1) rfl) (List.mem_of_getElem? (i := 2) rfl) (List.mem_of_getElem? (i := 3) rfl) dX5_init_1 ⟨Nat.le_of_ble_eq_true rfl, Nat.le_of_ble_eq_true rfl⟩ ?_
  refine yy_aload_n X (j := 0) dX5_init_4 rfl rfl ?_
  refine yy_iconst X (v := 3) dX5_init_5 (by decide) ?_
  refine yy_put X (ref := "PictureBlock$Stand") (T := TX5) (k := 71) (j := 1) (ty := tyX5 1) (sh' := hsC86) (σ' := sgC16) dX5_init_6 inX5_init_RX5 tyX5 tyX5_ok nmX5 atC86_71 rfl (by decide) (List.mem_of_getElem? (i := 4) rfl) rfl rfl (tyX5_ok 1 (by decide)) rfl rfl (by decide) rfl (hSet_I atC86_71 rfl 3) ?_
  refine yy_aload_n X (j := 0) dX5_init_9 rfl rfl ?_
  refine yy_bipush X (v := 12) dX5_init_10 (by decide) ?_
  refine yy_newa X (ki := 0) (t := 0) (N := 12) (n := 72) (atype := .int) (ty := .int) (sh' := hsC87) (cells' := 1) (slots' := 12) dX5_init_12 rfl (fun C h => by cases h) rfl (List.mem_of_getElem? (i := 5) rfl) (by decide) (by decide) (Nat.le_of_ble_eq_true rfl) (by decide +kernel) (zrC16 _ (Nat.le_of_ble_eq_true rfl)).1 (zrC16 _ (Nat.le_of_ble_eq_true rfl)).2 (Or.inl ⟨rfl, rfl⟩) rfl rfl rfl ⟨Nat.le_of_ble_eq_true rfl, Nat.le_of_ble_eq_true rfl⟩ ?_
  refine yy_putF X hin (ref := "PictureBlock$Stand") (T := TX5) (k := 71) (j := 2) (ty := tyX5 2) (sh' := hsC88) (σ' := sgC16) dX5_init_14 inX5_init_RX5 tyX5 tyX5_ok nmX5 atC87_71 rfl (by decide) (List.mem_of_getElem? (i := 6) rfl) rfl rfl rfl (tyX5_ok 2 (by decide)) rfl rfl (by decide) (by decide +kernel) (hSet_R (k2 := 72) atC87_71 rfl rfl rfl) ?_
  refine yy_aload_n X (j := 0) dX5_init_17 rfl rfl ?_
  refine yy_iconst X (v := 2) dX5_init_18 (by decide) ?_
  refine yy_bipush X (v := 12) dX5_init_19 (by decide) ?_
  refine yy_mna X (ki := 0) (to := 1) (ti := 0) (N := 2) (K := 12) (n := 73) (ty := .int) (sh' := hsC89) (cells' := 4) (slots' := 38) dX5_init_21 (Or.inl rfl) rfl rfl (List.mem_of_getElem? (i := 7) rfl) (List.mem_of_getElem? (i := 5) rfl) (by decide) (by decide) (by decide) (by decide) (Nat.le_of_ble_eq_true rfl) (Nat.le_of_ble_eq_true rfl) (Nat.le_of_ble_eq_true rfl) (by decide +kernel) (fun j _ => (zrC16 (j + 73) (Nat.le_trans (Nat.le_of_ble_eq_true rfl) (Nat.le_add_left 73 j))).1) (fun j _ => (zrC16 (j + 73) (Nat.le_trans (Nat.le_of_ble_eq_true rfl) (Nat.le_add_left 73 j))).2) (Or.inl ⟨rfl, rfl⟩) rfl rfl rfl ⟨Nat.le_of_ble_eq_true rfl, Nat.le_of_ble_eq_true rfl⟩ ?_
  refine yy_putF X hin (ref := "PictureBlock$Stand") (T := TX5) (k := 71) (j := 3) (ty := tyX5 3) (sh' := hsC90) (σ' := sgC16) dX5_init_25 inX5_init_RX5 tyX5 tyX5_ok nmX5 atC89_71 rfl (by decide) (List.mem_of_getElem? (i := 8) rfl) rfl rfl rfl (tyX5_ok 3 (by decide)) rfl rfl (by decide) (by decide +kernel) (hSet_R (k2 := 73) atC89_71 rfl rfl rfl) ?_
  refine yy_aload_n X (j := 0) dX5_init_28 rfl rfl ?_
  refine yy_iconst X (v := 2) dX5_init_29 (by decide) ?_
  refine yy_bipush X (v := 20) dX5_init_30 (by decide) ?_
  refine yy_mna X (ki := 0) (to := 1) (ti := 0) (N := 2) (K := 20) (n := 76) (ty := .int) (sh' := hsC91) (cells' := 7) (slots' := 80) dX5_init_32 (Or.inl rfl) rfl rfl (List.mem_of_getElem? (i := 7) rfl) (List.mem_of_getElem? (i := 5) rfl) (by decide) (by decide) (by decide) (by decide) (Nat.le_of_ble_eq_true rfl) (Nat.le_of_ble_eq_true rfl) (Nat.le_of_ble_eq_true rfl) (by decide +kernel) (fun j _ => (zrC16 (j + 76) (Nat.le_trans (Nat.le_of_ble_eq_true rfl) (Nat.le_add_left 76 j))).1) (fun j _ => (zrC16 (j + 76) (Nat.le_trans (Nat.le_of_ble_eq_true rfl) (Nat.le_add_left 76 j))).2) (Or.inl ⟨rfl, rfl⟩) rfl rfl rfl ⟨Nat.le_of_ble_eq_true rfl, Nat.le_of_ble_eq_true rfl⟩ ?_
  refine yy_putF X hin (ref := "PictureBlock$Stand") (T := TX5) (k := 71) (j := 4) (ty := tyX5 4) (sh' := hsC92) (σ' := sgC16) dX5_init_36 inX5_init_RX5 tyX5 tyX5_ok nmX5 atC91_71 rfl (by decide) (List.mem_of_getElem? (i := 9) rfl) rfl rfl rfl (tyX5_ok 4 (by decide)) rfl rfl (by decide) (by decide +kernel) (hSet_R (k2 := 76) atC91_71 rfl rfl rfl) ?_
  refine yy_aload_n X (j := 0) dX5_init_39 rfl rfl ?_
  refine yy_iconst X (v := 2) dX5_init_40 (by decide) ?_
  refine yy_bipush X (v := 6) dX5_init_41 (by decide) ?_
  refine yy_mna X (ki := 0) (to := 1) (ti := 0) (N := 2) (K := 6) (n := 79) (ty := .int) (sh' := hsC93) (cells' := 10) (slots' := 94) dX5_init_43 (Or.inl rfl) rfl rfl (List.mem_of_getElem? (i := 7) rfl) (List.mem_of_getElem? (i := 5) rfl) (by decide) (by decide) (by decide) (by decide) (Nat.le_of_ble_eq_true rfl) (Nat.le_of_ble_eq_true rfl) (Nat.le_of_ble_eq_true rfl) (by decide +kernel) (fun j _ => (zrC16 (j + 79) (Nat.le_trans (Nat.le_of_ble_eq_true rfl) (Nat.le_add_left 79 j))).1) (fun j _ => (zrC16 (j + 79) (Nat.le_trans (Nat.le_of_ble_eq_true rfl) (Nat.le_add_left 79 j))).2) (Or.inl ⟨rfl, rfl⟩) rfl rfl rfl ⟨Nat.le_of_ble_eq_true rfl, Nat.le_of_ble_eq_true rfl⟩ ?_
  refine yy_putF X hin (ref := "PictureBlock$Stand") (T := TX5) (k := 71) (j := 5) (ty := tyX5 5) (sh' := hsC94) (σ' := sgC16) dX5_init_47 inX5_init_RX5 tyX5 tyX5_ok nmX5 atC93_71 rfl (by decide) (List.mem_of_getElem? (i := 10) rfl) rfl rfl rfl (tyX5_ok 5 (by decide)) rfl rfl (by decide) (by decide +kernel) (hSet_R (k2 := 79) atC93_71 rfl rfl rfl) ?_
  refine yy_aload_n X (j := 0) dX5_init_50 rfl rfl ?_
  refine yy_bipush X (v := 60) dX5_init_51 (by decide) ?_
  refine yy_newa X (ki := 0) (t := 0) (N := 60) (n := 82) (atype := .int) (ty := .int) (sh' := hsC95) (cells' := 11) (slots' := 154) dX5_init_53 rfl (fun C h => by cases h) rfl (List.mem_of_getElem? (i := 5) rfl) (by decide) (by decide) (Nat.le_of_ble_eq_true rfl) (by decide +kernel) (zrC16 _ (Nat.le_of_ble_eq_true rfl)).1 (zrC16 _ (Nat.le_of_ble_eq_true rfl)).2 (Or.inl ⟨rfl, rfl⟩) rfl rfl rfl ⟨Nat.le_of_ble_eq_true rfl, Nat.le_of_ble_eq_true rfl⟩ ?_
  refine yy_putF X hin (ref := "PictureBlock$Stand") (T := TX5) (k := 71) (j := 6) (ty := tyX5 6) (sh' := hsC96) (σ' := sgC16) dX5_init_55 inX5_init_RX5 tyX5 tyX5_ok nmX5 atC95_71 rfl (by decide) (List.mem_of_getElem? (i := 11) rfl) rfl rfl rfl (tyX5_ok 6 (by decide)) rfl rfl (by decide) (by decide +kernel) (hSet_R (k2 := 82) atC95_71 rfl rfl rfl) ?_
  refine yy_aload_n X (j := 0) dX5_init_58 rfl rfl ?_
  refine yy_aload_n X (j := 1) dX5_init_59 rfl rfl ?_
  refine yy_putF X hin (ref := "PictureBlock$Stand") (T := TX5) (k := 71) (j := 0) (ty := tyX5 0) (sh' := hsC97) (σ' := sgC16) dX5_init_60 inX5_init_RX5 tyX5 tyX5_ok nmX5 atC96_71 rfl (by decide) (List.mem_of_getElem? (i := 12) rfl) rfl rfl rfl (tyX5_ok 0 (by decide)) rfl rfl (by decide) (by decide +kernel) (hSet_R (k2 := 2) atC96_71 rfl rfl rfl) ?_
  exact yy_ret X dX5_init_63
theorem atC97_0 : hsC97[0]? = some (3, 9, 0, [4, 0, 5, 27, 49, 50, 62, 2, 2, 2, 2, 2, 2, 2, 2, 0, 0]) := by decide +kernel
noncomputable def hsC98 : List gC := hsC97.set 0 (3, 9, 0, [4, 0, 5, 27, 49, 50, 62, 74, 2, 2, 2, 2, 2, 2, 2, 0, 0])
noncomputable def hsC99 : List gC := hsC98 ++ [(3, 6, 0, [2, 2, 2, 2, 2, 2])]
theorem atC99_0 : hsC99[0]? = some (3, 9, 0, [4, 0, 5, 27, 49, 50, 62, 74, 2, 2, 2, 2, 2, 2, 2, 0, 0]) := by decide +kernel
noncomputable def hsC100 : List gC := hsC99 ++ [(0, 0, 12, [])]
theorem atC100_83 : hsC100[83]? = some (3, 6, 0, [2, 2, 2, 2, 2, 2]) := by decide +kernel
noncomputable def hsC101 : List gC := hsC100.set 83 (3, 6, 0, [2, 2, 87, 2, 2, 2])
noncomputable def hsC102 : List gC := hsC101 ++ [(0, 0, 20, [])]
theorem atC102_83 : hsC102[83]? = some (3, 6, 0, [2, 2, 87, 2, 2, 2]) := by decide +kernel
noncomputable def hsC103 : List gC := hsC102.set 83 (3, 6, 0, [2, 2, 87, 88, 2, 2])
noncomputable def hsC104 : List gC := hsC103 ++ [(0, 0, 20, [])]
theorem atC104_83 : hsC104[83]? = some (3, 6, 0, [2, 2, 87, 88, 2, 2]) := by decide +kernel
noncomputable def hsC105 : List gC := hsC104.set 83 (3, 6, 0, [2, 2, 87, 88, 89, 2])
noncomputable def hsC106 : List gC := hsC105 ++ ((2, 1, 2, [88]) :: List.replicate 2 (0, 0, 20, []))
theorem atC106_83 : hsC106[83]? = some (3, 6, 0, [2, 2, 87, 88, 89, 2]) := by decide +kernel
noncomputable def hsC107 : List gC := hsC106.set 83 (3, 6, 0, [2, 2, 87, 88, 89, 90])
theorem atC107_83 : hsC107[83]? = some (3, 6, 0, [2, 2, 87, 88, 89, 90]) := by decide +kernel
noncomputable def hsC108 : List gC := hsC107.set 83 (3, 6, 0, [5, 2, 87, 88, 89, 90])
theorem atC108_83 : hsC108[83]? = some (3, 6, 0, [5, 2, 87, 88, 89, 90]) := by decide +kernel
noncomputable def hsC109 : List gC := hsC108.set 83 (3, 6, 0, [5, 50, 87, 88, 89, 90])
noncomputable abbrev rmIC7 : Room := { frames := 1, cells := 6, slots := 94, locals := 20 }
set_option maxRecDepth 100000 in
set_option maxHeartbeats 8000000 in
theorem kIC7 (l : Launch) (G : gG) (b0 : Nat) (hb : ∀ k, G.2.1 k = b0 + k) (hT : G.2.2.1.map (fun q => q.2) = zC.2.1) : yC l yX6_init wsX6_init rmIC7 G vwCl b0 [.ref (G.2.1 83), .ref (G.2.1 2), .ref (G.2.1 47)] hsC99 sgC16 hsC109 sgC16 6 94 := by
  refine yEnter (maxL := 3) (by decide +kernel) rfl rfl hb hT (Nat.le_of_ble_eq_true rfl) rfl (fun M X hl hin => ?_)
  subst hl
  refine yy_aload_n X (j := 0) dX6_init_0 rfl rfl ?_
  refine yy_objInit X (List.mem_of_getElem? (i := 1) rfl) (List.mem_of_getElem? (i := 2) rfl) (List.mem_of_getElem? (i := 3) rfl) dX6_init_1 ⟨Nat.le_of_ble_eq_true rfl, Nat.le_of_ble_eq_true rfl⟩ ?_
  refine yy_aload_n X (j := 0) dX6_init_4 rfl rfl ?_
  refine yy_bipush X (v := 12) dX6_init_5 (by decide) ?_
  refine yy_newa X (ki := 0) (t := 0) (N := 12) (n := 84) (atype := .int) (ty := .int) (sh' := hsC100) (cells' := 1) (slots' := 12) dX6_init_7 rfl (fun C h => by cases h) rfl (List.mem_of_getElem? (i := 4) rfl) (by decide) (by decide) (Nat.le_of_ble_eq_true rfl) (by decide +kernel) (zrC16 _ (Nat.le_of_ble_eq_true rfl)).1 (zrC16 _ (Nat.le_of_ble_eq_true rfl)).2 (Or.inl ⟨rfl, rfl⟩) rfl rfl rfl ⟨Nat.le_of_ble_eq_true rfl, Nat.le_of_ble_eq_true rfl⟩ ?_
  refine yy_putF X hin (ref := "PictureBlock$Starter") (T := TX6) (k := 83) (j := 2) (ty := tyX6 2) (sh' := hsC101) (σ' := sgC16) dX6_init_9 inX6_init_RX6 tyX6 tyX6_ok nmX6 atC100_83 rfl (by decide) (List.mem_of_getElem? (i := 5) rfl) rfl rfl rfl (tyX6_ok 2 (by decide)) rfl rfl (by decide) (by decide +kernel) (hSet_R (k2 := 84) atC100_83 rfl rfl rfl) ?_
  refine yy_aload_n X (j := 0) dX6_init_12 rfl rfl ?_
  refine yy_bipush X (v := 20) dX6_init_13 (by decide) ?_
  refine yy_newa X (ki := 0) (t := 0) (N := 20) (n := 85) (atype := .int) (ty := .int) (sh' := hsC102) (cells' := 2) (slots' := 32) dX6_init_15 rfl (fun C h => by cases h) rfl (List.mem_of_getElem? (i := 4) rfl) (by decide) (by decide) (Nat.le_of_ble_eq_true rfl) (by decide +kernel) (zrC16 _ (Nat.le_of_ble_eq_true rfl)).1 (zrC16 _ (Nat.le_of_ble_eq_true rfl)).2 (Or.inl ⟨rfl, rfl⟩) rfl rfl rfl ⟨Nat.le_of_ble_eq_true rfl, Nat.le_of_ble_eq_true rfl⟩ ?_
  refine yy_putF X hin (ref := "PictureBlock$Starter") (T := TX6) (k := 83) (j := 3) (ty := tyX6 3) (sh' := hsC103) (σ' := sgC16) dX6_init_17 inX6_init_RX6 tyX6 tyX6_ok nmX6 atC102_83 rfl (by decide) (List.mem_of_getElem? (i := 6) rfl) rfl rfl rfl (tyX6_ok 3 (by decide)) rfl rfl (by decide) (by decide +kernel) (hSet_R (k2 := 85) atC102_83 rfl rfl rfl) ?_
  refine yy_aload_n X (j := 0) dX6_init_20 rfl rfl ?_
  refine yy_bipush X (v := 20) dX6_init_21 (by decide) ?_
  refine yy_newa X (ki := 0) (t := 0) (N := 20) (n := 86) (atype := .int) (ty := .int) (sh' := hsC104) (cells' := 3) (slots' := 52) dX6_init_23 rfl (fun C h => by cases h) rfl (List.mem_of_getElem? (i := 4) rfl) (by decide) (by decide) (Nat.le_of_ble_eq_true rfl) (by decide +kernel) (zrC16 _ (Nat.le_of_ble_eq_true rfl)).1 (zrC16 _ (Nat.le_of_ble_eq_true rfl)).2 (Or.inl ⟨rfl, rfl⟩) rfl rfl rfl ⟨Nat.le_of_ble_eq_true rfl, Nat.le_of_ble_eq_true rfl⟩ ?_
  refine yy_putF X hin (ref := "PictureBlock$Starter") (T := TX6) (k := 83) (j := 4) (ty := tyX6 4) (sh' := hsC105) (σ' := sgC16) dX6_init_25 inX6_init_RX6 tyX6 tyX6_ok nmX6 atC104_83 rfl (by decide) (List.mem_of_getElem? (i := 7) rfl) rfl rfl rfl (tyX6_ok 4 (by decide)) rfl rfl (by decide) (by decide +kernel) (hSet_R (k2 := 86) atC104_83 rfl rfl rfl) ?_
  refine yy_aload_n X (j := 0) dX6_init_28 rfl rfl ?_
  refine yy_iconst X (v := 2) dX6_init_29 (by decide) ?_
  refine yy_bipush X (v := 20) dX6_init_30 (by decide) ?_
  refine yy_mna X (ki := 0) (to := 1) (ti := 0) (N := 2) (K := 20) (n := 87) (ty := .int) (sh' := hsC106) (cells' := 6) (slots' := 94) dX6_init_32 (Or.inl rfl) rfl rfl (List.mem_of_getElem? (i := 8) rfl) (List.mem_of_getElem? (i := 4) rfl) (by decide) (by decide) (by decide) (by decide) (Nat.le_of_ble_eq_true rfl) (Nat.le_of_ble_eq_true rfl) (Nat.le_of_ble_eq_true rfl) (by decide +kernel) (fun j _ => (zrC16 (j + 87) (Nat.le_trans (Nat.le_of_ble_eq_true rfl) (Nat.le_add_left 87 j))).1) (fun j _ => (zrC16 (j + 87) (Nat.le_trans (Nat.le_of_ble_eq_true rfl) (Nat.le_add_left 87 j))).2) (Or.inl ⟨rfl, rfl⟩) rfl rfl rfl ⟨Nat.le_of_ble_eq_true rfl, Nat.le_of_ble_eq_true rfl⟩ ?_
  refine yy_putF X hin (ref := "PictureBlock$Starter") (T := TX6) (k := 83) (j := 5) (ty := tyX6 5) (sh' := hsC107) (σ' := sgC16) dX6_init_36 inX6_init_RX6 tyX6 tyX6_ok nmX6 atC106_83 rfl (by decide) (List.mem_of_getElem? (i := 9) rfl) rfl rfl rfl (tyX6_ok 5 (by decide)) rfl rfl (by decide) (by decide +kernel) (hSet_R (k2 := 87) atC106_83 rfl rfl rfl) ?_
  refine yy_aload_n X (j := 0) dX6_init_39 rfl rfl ?_
  refine yy_aload_n X (j := 1) dX6_init_40 rfl rfl ?_
  refine yy_putF X hin (ref := "PictureBlock$Starter") (T := TX6) (k := 83) (j := 0) (ty := tyX6 0) (sh' := hsC108) (σ' := sgC16) dX6_init_41 inX6_init_RX6 tyX6 tyX6_ok nmX6 atC107_83 rfl (by decide) (List.mem_of_getElem? (i := 10) rfl) rfl rfl rfl (tyX6_ok 0 (by decide)) rfl rfl (by decide) (by decide +kernel) (hSet_R (k2 := 2) atC107_83 rfl rfl rfl) ?_
  refine yy_aload_n X (j := 0) dX6_init_44 rfl rfl ?_
  refine yy_aload_n X (j := 2) dX6_init_45 rfl rfl ?_
  refine yy_putF X hin (ref := "PictureBlock$Starter") (T := TX6) (k := 83) (j := 1) (ty := tyX6 1) (sh' := hsC109) (σ' := sgC16) dX6_init_46 inX6_init_RX6 tyX6 tyX6_ok nmX6 atC108_83 rfl (by decide) (List.mem_of_getElem? (i := 11) rfl) rfl rfl rfl (tyX6_ok 1 (by decide)) rfl rfl (by decide) (by decide +kernel) (hSet_R (k2 := 47) atC108_83 rfl rfl rfl) ?_
  exact yy_ret X dX6_init_49
theorem atC109_0 : hsC109[0]? = some (3, 9, 0, [4, 0, 5, 27, 49, 50, 62, 74, 2, 2, 2, 2, 2, 2, 2, 0, 0]) := by decide +kernel
noncomputable def hsC110 : List gC := hsC109.set 0 (3, 9, 0, [4, 0, 5, 27, 49, 50, 62, 74, 86, 2, 2, 2, 2, 2, 2, 0, 0])
noncomputable def hsC111 : List gC := hsC110 ++ [(3, 1, 0, [2, 2, 2, 2, 2])]
theorem atC111_0 : hsC111[0]? = some (3, 9, 0, [4, 0, 5, 27, 49, 50, 62, 74, 86, 2, 2, 2, 2, 2, 2, 0, 0]) := by decide +kernel
noncomputable def hsC112 : List gC := hsC111 ++ [(1, 2, 20, [])]
theorem atC112_90 : hsC112[90]? = some (3, 1, 0, [2, 2, 2, 2, 2]) := by decide +kernel
noncomputable def hsC113 : List gC := hsC112.set 90 (3, 1, 0, [2, 2, 94, 2, 2])
noncomputable def hsC114 : List gC := hsC113 ++ [(1, 2, 20, [])]
theorem atC114_90 : hsC114[90]? = some (3, 1, 0, [2, 2, 94, 2, 2]) := by decide +kernel
noncomputable def hsC115 : List gC := hsC114.set 90 (3, 1, 0, [2, 2, 94, 95, 2])
noncomputable def hsC116 : List gC := hsC115 ++ ((2, 1, 2, [94]) :: List.replicate 2 (0, 0, 60, []))
theorem atC116_90 : hsC116[90]? = some (3, 1, 0, [2, 2, 94, 95, 2]) := by decide +kernel
noncomputable def hsC117 : List gC := hsC116.set 90 (3, 1, 0, [2, 2, 94, 95, 96])
theorem atC117_90 : hsC117[90]? = some (3, 1, 0, [2, 2, 94, 95, 96]) := by decide +kernel
noncomputable def hsC118 : List gC := hsC117.set 90 (3, 1, 0, [5, 2, 94, 95, 96])
theorem atC118_90 : hsC118[90]? = some (3, 1, 0, [5, 2, 94, 95, 96]) := by decide +kernel
noncomputable def hsC119 : List gC := hsC118.set 90 (3, 1, 0, [5, 50, 94, 95, 96])
noncomputable abbrev rmIC8 : Room := { frames := 1, cells := 5, slots := 162, locals := 20 }
set_option maxRecDepth 100000 in
set_option maxHeartbeats 8000000 in
theorem kIC8 (l : Launch) (G : gG) (b0 : Nat) (hb : ∀ k, G.2.1 k = b0 + k) (hT : G.2.2.1.map (fun q => q.2) = zC.2.1) : yC l yX1_init wsX1_init rmIC8 G vwCl b0 [.ref (G.2.1 90), .ref (G.2.1 2), .ref (G.2.1 47)] hsC111 sgC16 hsC119 sgC16 5 162 := by
  refine yEnter (maxL := 3) (by decide +kernel) rfl rfl hb hT (Nat.le_of_ble_eq_true rfl) rfl (fun M X hl hin => ?_)
  subst hl
  refine yy_aload_n X (j := 0) dX1_init_0 rfl rfl ?_
  refine yy_objInit X (List.mem_of_getElem? (i := 1) rfl) (List.mem_of_getElem? (i := 2) rfl) (List.mem_of_getElem? (i := 3) rfl) dX1_init_1 ⟨Nat.le_of_ble_eq_true rfl, Nat.le_of_ble_eq_true rfl⟩ ?_
  refine yy_aload_n X (j := 0) dX1_init_4 rfl rfl ?_
  refine yy_bipush X (v := 20) dX1_init_5 (by decide) ?_
  refine yy_newa X (ki := 1) (t := 2) (N := 20) (n := 91) (atype := .long) (ty := .long) (sh' := hsC112) (cells' := 1) (slots' := 20) dX1_init_7 rfl (fun C h => by cases h) rfl (List.mem_of_getElem? (i := 4) rfl) (by decide) (by decide) (Nat.le_of_ble_eq_true rfl) (by decide +kernel) (zrC16 _ (Nat.le_of_ble_eq_true rfl)).1 (zrC16 _ (Nat.le_of_ble_eq_true rfl)).2 (Or.inr ⟨rfl, rfl⟩) rfl rfl rfl ⟨Nat.le_of_ble_eq_true rfl, Nat.le_of_ble_eq_true rfl⟩ ?_
  refine yy_putF X hin (ref := "PictureBlock$Mover") (T := TX1) (k := 90) (j := 2) (ty := tyX1 2) (sh' := hsC113) (σ' := sgC16) dX1_init_9 inX1_init_RX1 tyX1 tyX1_ok nmX1 atC112_90 rfl (by decide) (List.mem_of_getElem? (i := 5) rfl) rfl rfl rfl (tyX1_ok 2 (by decide)) rfl rfl (by decide) (by decide +kernel) (hSet_R (k2 := 91) atC112_90 rfl rfl rfl) ?_
  refine yy_aload_n X (j := 0) dX1_init_12 rfl rfl ?_
  refine yy_bipush X (v := 20) dX1_init_13 (by decide) ?_
  refine yy_newa X (ki := 1) (t := 2) (N := 20) (n := 92) (atype := .long) (ty := .long) (sh' := hsC114) (cells' := 2) (slots' := 40) dX1_init_15 rfl (fun C h => by cases h) rfl (List.mem_of_getElem? (i := 4) rfl) (by decide) (by decide) (Nat.le_of_ble_eq_true rfl) (by decide +kernel) (zrC16 _ (Nat.le_of_ble_eq_true rfl)).1 (zrC16 _ (Nat.le_of_ble_eq_true rfl)).2 (Or.inr ⟨rfl, rfl⟩) rfl rfl rfl ⟨Nat.le_of_ble_eq_true rfl, Nat.le_of_ble_eq_true rfl⟩ ?_
  refine yy_putF X hin (ref := "PictureBlock$Mover") (T := TX1) (k := 90) (j := 3) (ty := tyX1 3) (sh' := hsC115) (σ' := sgC16) dX1_init_17 inX1_init_RX1 tyX1 tyX1_ok nmX1 atC114_90 rfl (by decide) (List.mem_of_getElem? (i := 6) rfl) rfl rfl rfl (tyX1_ok 3 (by decide)) rfl rfl (by decide) (by decide +kernel) (hSet_R (k2 := 92) atC114_90 rfl rfl rfl) ?_
  refine yy_aload_n X (j := 0) dX1_init_20 rfl rfl ?_
  refine yy_iconst X (v := 2) dX1_init_21 (by decide) ?_
  refine yy_bipush X (v := 60) dX1_init_22 (by decide) ?_
  refine yy_mna X (ki := 0) (to := 1) (ti := 0) (N := 2) (K := 60) (n := 93) (ty := .int) (sh' := hsC116) (cells' := 5) (slots' := 162) dX1_init_24 (Or.inl rfl) rfl rfl (List.mem_of_getElem? (i := 7) rfl) (List.mem_of_getElem? (i := 8) rfl) (by decide) (by decide) (by decide) (by decide) (Nat.le_of_ble_eq_true rfl) (Nat.le_of_ble_eq_true rfl) (Nat.le_of_ble_eq_true rfl) (by decide +kernel) (fun j _ => (zrC16 (j + 93) (Nat.le_trans (Nat.le_of_ble_eq_true rfl) (Nat.le_add_left 93 j))).1) (fun j _ => (zrC16 (j + 93) (Nat.le_trans (Nat.le_of_ble_eq_true rfl) (Nat.le_add_left 93 j))).2) (Or.inl ⟨rfl, rfl⟩) rfl rfl rfl ⟨Nat.le_of_ble_eq_true rfl, Nat.le_of_ble_eq_true rfl⟩ ?_
  refine yy_putF X hin (ref := "PictureBlock$Mover") (T := TX1) (k := 90) (j := 4) (ty := tyX1 4) (sh' := hsC117) (σ' := sgC16) dX1_init_28 inX1_init_RX1 tyX1 tyX1_ok nmX1 atC116_90 rfl (by decide) (List.mem_of_getElem? (i := 9) rfl) rfl rfl rfl (tyX1_ok 4 (by decide)) rfl rfl (by decide) (by decide +kernel) (hSet_R (k2 := 93) atC116_90 rfl rfl rfl) ?_
  refine yy_aload_n X (j := 0) dX1_init_31 rfl rfl ?_
  refine yy_aload_n X (j := 1) dX1_init_32 rfl rfl ?_
  refine yy_putF X hin (ref := "PictureBlock$Mover") (T := TX1) (k := 90) (j := 0) (ty := tyX1 0) (sh' := hsC118) (σ' := sgC16) dX1_init_33 inX1_init_RX1 tyX1 tyX1_ok nmX1 atC117_90 rfl (by decide) (List.mem_of_getElem? (i := 10) rfl) rfl rfl rfl (tyX1_ok 0 (by decide)) rfl rfl (by decide) (by decide +kernel) (hSet_R (k2 := 2) atC117_90 rfl rfl rfl) ?_
  refine yy_aload_n X (j := 0) dX1_init_36 rfl rfl ?_
  refine yy_aload_n X (j := 2) dX1_init_37 rfl rfl ?_
  refine yy_putF X hin (ref := "PictureBlock$Mover") (T := TX1) (k := 90) (j := 1) (ty := tyX1 1) (sh' := hsC119) (σ' := sgC16) dX1_init_38 inX1_init_RX1 tyX1 tyX1_ok nmX1 atC118_90 rfl (by decide) (List.mem_of_getElem? (i := 11) rfl) rfl rfl rfl (tyX1_ok 1 (by decide)) rfl rfl (by decide) (by decide +kernel) (hSet_R (k2 := 47) atC118_90 rfl rfl rfl) ?_
  exact yy_ret X dX1_init_41
theorem atC119_0 : hsC119[0]? = some (3, 9, 0, [4, 0, 5, 27, 49, 50, 62, 74, 86, 2, 2, 2, 2, 2, 2, 0, 0]) := by decide +kernel
noncomputable def hsC120 : List gC := hsC119.set 0 (3, 9, 0, [4, 0, 5, 27, 49, 50, 62, 74, 86, 93, 2, 2, 2, 2, 2, 0, 0])
noncomputable def hsC121 : List gC := hsC120 ++ [(3, 4, 0, [2, 2, 2, 2, 0])]
theorem atC121_0 : hsC121[0]? = some (3, 9, 0, [4, 0, 5, 27, 49, 50, 62, 74, 86, 93, 2, 2, 2, 2, 2, 0, 0]) := by decide +kernel
noncomputable def hsC122 : List gC := hsC121 ++ [(0, 0, 38, [])]
theorem atC122_96 : hsC122[96]? = some (3, 4, 0, [2, 2, 2, 2, 0]) := by decide +kernel
noncomputable def hsC123 : List gC := hsC122.set 96 (3, 4, 0, [2, 2, 100, 2, 0])
noncomputable def hsC124 : List gC := hsC123 ++ ((2, 3, 38, [99]) :: List.replicate 38 (1, 2, 39, []))
theorem atC124_96 : hsC124[96]? = some (3, 4, 0, [2, 2, 100, 2, 0]) := by decide +kernel
noncomputable def hsC125 : List gC := hsC124.set 96 (3, 4, 0, [2, 2, 100, 101, 0])
theorem atC125_96 : hsC125[96]? = some (3, 4, 0, [2, 2, 100, 101, 0]) := by decide +kernel
noncomputable def sgC17 : gS := gsI sgC16 96 4 0
theorem zrC17 : Zr sgC17 137 := Zr_I (Zr_mono zrC16 (by decide)) (by decide)
noncomputable def hsC126 : List gC := hsC125.set 96 (3, 4, 0, [5, 2, 100, 101, 0])
theorem atC126_96 : hsC126[96]? = some (3, 4, 0, [5, 2, 100, 101, 0]) := by decide +kernel
noncomputable def hsC127 : List gC := hsC126.set 96 (3, 4, 0, [5, 50, 100, 101, 0])
noncomputable abbrev rmIC9 : Room := { frames := 1, cells := 40, slots := 1558, locals := 20 }
set_option maxRecDepth 100000 in
set_option maxHeartbeats 8000000 in
theorem kIC9 (l : Launch) (G : gG) (b0 : Nat) (hb : ∀ k, G.2.1 k = b0 + k) (hT : G.2.2.1.map (fun q => q.2) = zC.2.1) : yC l yX4_init wsX4_init rmIC9 G vwCl b0 [.ref (G.2.1 96), .ref (G.2.1 2), .ref (G.2.1 47)] hsC121 sgC16 hsC127 sgC17 40 1558 := by
  refine yEnter (maxL := 3) (by decide +kernel) rfl rfl hb hT (Nat.le_of_ble_eq_true rfl) rfl (fun M X hl hin => ?_)
  subst hl
  refine yy_aload_n X (j := 0) dX4_init_0 rfl rfl ?_
  refine yy_objInit X (List.mem_of_getElem? (i := 1) rfl) (List.mem_of_getElem? (i := 2) rfl) (List.mem_of_getElem? (i := 3) rfl) dX4_init_1 ⟨Nat.le_of_ble_eq_true rfl, Nat.le_of_ble_eq_true rfl⟩ ?_
  refine yy_aload_n X (j := 0) dX4_init_4 rfl rfl ?_
  refine yy_bipush X (v := 38) dX4_init_5 (by decide) ?_
  refine yy_newa X (ki := 0) (t := 0) (N := 38) (n := 97) (atype := .int) (ty := .int) (sh' := hsC122) (cells' := 1) (slots' := 38) dX4_init_7 rfl (fun C h => by cases h) rfl (List.mem_of_getElem? (i := 4) rfl) (by decide) (by decide) (Nat.le_of_ble_eq_true rfl) (by decide +kernel) (zrC16 _ (Nat.le_of_ble_eq_true rfl)).1 (zrC16 _ (Nat.le_of_ble_eq_true rfl)).2 (Or.inl ⟨rfl, rfl⟩) rfl rfl rfl ⟨Nat.le_of_ble_eq_true rfl, Nat.le_of_ble_eq_true rfl⟩ ?_
  refine yy_putF X hin (ref := "PictureBlock$Solver") (T := TX4) (k := 96) (j := 2) (ty := tyX4 2) (sh' := hsC123) (σ' := sgC16) dX4_init_9 inX4_init_RX4 tyX4 tyX4_ok nmX4 atC122_96 rfl (by decide) (List.mem_of_getElem? (i := 5) rfl) rfl rfl rfl (tyX4_ok 2 (by decide)) rfl rfl (by decide) (by decide +kernel) (hSet_R (k2 := 97) atC122_96 rfl rfl rfl) ?_
  refine yy_aload_n X (j := 0) dX4_init_12 rfl rfl ?_
  refine yy_bipush X (v := 38) dX4_init_13 (by decide) ?_
  refine yy_bipush X (v := 39) dX4_init_15 (by decide) ?_
  refine yy_mna X (ki := 1) (to := 3) (ti := 2) (N := 38) (K := 39) (n := 98) (ty := .long) (sh' := hsC124) (cells' := 40) (slots' := 1558) dX4_init_17 (Or.inr rfl) rfl rfl (List.mem_of_getElem? (i := 6) rfl) (List.mem_of_getElem? (i := 7) rfl) (by decide) (by decide) (by decide) (by decide) (Nat.le_of_ble_eq_true rfl) (Nat.le_of_ble_eq_true rfl) (Nat.le_of_ble_eq_true rfl) (by decide +kernel) (fun j _ => (zrC16 (j + 98) (Nat.le_trans (Nat.le_of_ble_eq_true rfl) (Nat.le_add_left 98 j))).1) (fun j _ => (zrC16 (j + 98) (Nat.le_trans (Nat.le_of_ble_eq_true rfl) (Nat.le_add_left 98 j))).2) (Or.inr ⟨rfl, rfl⟩) rfl rfl rfl ⟨Nat.le_of_ble_eq_true rfl, Nat.le_of_ble_eq_true rfl⟩ ?_
  refine yy_putF X hin (ref := "PictureBlock$Solver") (T := TX4) (k := 96) (j := 3) (ty := tyX4 3) (sh' := hsC125) (σ' := sgC16) dX4_init_21 inX4_init_RX4 tyX4 tyX4_ok nmX4 atC124_96 rfl (by decide) (List.mem_of_getElem? (i := 8) rfl) rfl rfl rfl (tyX4_ok 3 (by decide)) rfl rfl (by decide) (by decide +kernel) (hSet_R (k2 := 98) atC124_96 rfl rfl rfl) ?_
  refine yy_aload_n X (j := 0) dX4_init_24 rfl rfl ?_
  refine yy_iconst X (v := 0) dX4_init_25 (by decide) ?_
  refine yy_put X (ref := "PictureBlock$Solver") (T := TX4) (k := 96) (j := 4) (ty := tyX4 4) (sh' := hsC125) (σ' := sgC17) dX4_init_26 inX4_init_RX4 tyX4 tyX4_ok nmX4 atC125_96 rfl (by decide) (List.mem_of_getElem? (i := 9) rfl) rfl rfl (tyX4_ok 4 (by decide)) rfl rfl (by decide) rfl (hSet_I atC125_96 rfl 0) ?_
  refine yy_aload_n X (j := 0) dX4_init_29 rfl rfl ?_
  refine yy_aload_n X (j := 1) dX4_init_30 rfl rfl ?_
  refine yy_putF X hin (ref := "PictureBlock$Solver") (T := TX4) (k := 96) (j := 0) (ty := tyX4 0) (sh' := hsC126) (σ' := sgC17) dX4_init_31 inX4_init_RX4 tyX4 tyX4_ok nmX4 atC125_96 rfl (by decide) (List.mem_of_getElem? (i := 10) rfl) rfl rfl rfl (tyX4_ok 0 (by decide)) rfl rfl (by decide) (by decide +kernel) (hSet_R (k2 := 2) atC125_96 rfl rfl rfl) ?_
  refine yy_aload_n X (j := 0) dX4_init_34 rfl rfl ?_
  refine yy_aload_n X (j := 2) dX4_init_35 rfl rfl ?_
  refine yy_putF X hin (ref := "PictureBlock$Solver") (T := TX4) (k := 96) (j := 1) (ty := tyX4 1) (sh' := hsC127) (σ' := sgC17) dX4_init_36 inX4_init_RX4 tyX4 tyX4_ok nmX4 atC126_96 rfl (by decide) (List.mem_of_getElem? (i := 11) rfl) rfl rfl rfl (tyX4_ok 1 (by decide)) rfl rfl (by decide) (by decide +kernel) (hSet_R (k2 := 47) atC126_96 rfl rfl rfl) ?_
  exact yy_ret X dX4_init_39
theorem atC127_0 : hsC127[0]? = some (3, 9, 0, [4, 0, 5, 27, 49, 50, 62, 74, 86, 93, 2, 2, 2, 2, 2, 0, 0]) := by decide +kernel
noncomputable def hsC128 : List gC := hsC127.set 0 (3, 9, 0, [4, 0, 5, 27, 49, 50, 62, 74, 86, 93, 99, 2, 2, 2, 2, 0, 0])
noncomputable def hsC129 : List gC := hsC128 ++ [(3, 2, 0, [2, 2, 2, 2])]
theorem atC129_0 : hsC129[0]? = some (3, 9, 0, [4, 0, 5, 27, 49, 50, 62, 74, 86, 93, 99, 2, 2, 2, 2, 0, 0]) := by decide +kernel
noncomputable def hsC130 : List gC := hsC129 ++ [(0, 0, 32, [])]
theorem atC130_137 : hsC130[137]? = some (3, 2, 0, [2, 2, 2, 2]) := by decide +kernel
noncomputable def hsC131 : List gC := hsC130.set 137 (3, 2, 0, [2, 2, 141, 2])
noncomputable def hsC132 : List gC := hsC131 ++ [(0, 0, 32, [])]
theorem atC132_137 : hsC132[137]? = some (3, 2, 0, [2, 2, 141, 2]) := by decide +kernel
noncomputable def hsC133 : List gC := hsC132.set 137 (3, 2, 0, [2, 2, 141, 142])
theorem atC133_137 : hsC133[137]? = some (3, 2, 0, [2, 2, 141, 142]) := by decide +kernel
noncomputable def hsC134 : List gC := hsC133.set 137 (3, 2, 0, [5, 2, 141, 142])
theorem atC134_137 : hsC134[137]? = some (3, 2, 0, [5, 2, 141, 142]) := by decide +kernel
noncomputable def hsC135 : List gC := hsC134.set 137 (3, 2, 0, [5, 50, 141, 142])
noncomputable abbrev rmIC10 : Room := { frames := 1, cells := 2, slots := 64, locals := 20 }
set_option maxRecDepth 100000 in
set_option maxHeartbeats 8000000 in
theorem kIC10 (l : Launch) (G : gG) (b0 : Nat) (hb : ∀ k, G.2.1 k = b0 + k) (hT : G.2.2.1.map (fun q => q.2) = zC.2.1) : yC l yX2_init wsX2_init rmIC10 G vwCl b0 [.ref (G.2.1 137), .ref (G.2.1 2), .ref (G.2.1 47)] hsC129 sgC17 hsC135 sgC17 2 64 := by
  refine yEnter (maxL := 3) (by decide +kernel) rfl rfl hb hT (Nat.le_of_ble_eq_true rfl) rfl (fun M X hl hin => ?_)
  subst hl
  refine yy_aload_n X (j := 0) dX2_init_0 rfl rfl ?_
  refine yy_objInit X (List.mem_of_getElem? (i := 1) rfl) (List.mem_of_getElem? (i := 2) rfl) (List.mem_of_getElem? (i := 3) rfl) dX2_init_1 ⟨Nat.le_of_ble_eq_true rfl, Nat.le_of_ble_eq_true rfl⟩ ?_
  refine yy_aload_n X (j := 0) dX2_init_4 rfl rfl ?_
  refine yy_bipush X (v := 32) dX2_init_5 (by decide) ?_
  refine yy_newa X (ki := 0) (t := 0) (N := 32) (n := 138) (atype := .int) (ty := .int) (sh' := hsC130) (cells' := 1) (slots' := 32) dX2_init_7 rfl (fun C h => by cases h) rfl (List.mem_of_getElem? (i := 4) rfl) (by decide) (by decide) (Nat.le_of_ble_eq_true rfl) (by decide +kernel) (zrC17 _ (Nat.le_of_ble_eq_true rfl)).1 (zrC17 _ (Nat.le_of_ble_eq_true rfl)).2 (Or.inl ⟨rfl, rfl⟩) rfl rfl rfl ⟨Nat.le_of_ble_eq_true rfl, Nat.le_of_ble_eq_true rfl⟩ ?_
  refine yy_putF X hin (ref := "PictureBlock$Net") (T := TX2) (k := 137) (j := 2) (ty := tyX2 2) (sh' := hsC131) (σ' := sgC17) dX2_init_9 inX2_init_RX2 tyX2 tyX2_ok nmX2 atC130_137 rfl (by decide) (List.mem_of_getElem? (i := 5) rfl) rfl rfl rfl (tyX2_ok 2 (by decide)) rfl rfl (by decide) (by decide +kernel) (hSet_R (k2 := 138) atC130_137 rfl rfl rfl) ?_
  refine yy_aload_n X (j := 0) dX2_init_12 rfl rfl ?_
  refine yy_bipush X (v := 32) dX2_init_13 (by decide) ?_
  refine yy_newa X (ki := 0) (t := 0) (N := 32) (n := 139) (atype := .int) (ty := .int) (sh' := hsC132) (cells' := 2) (slots' := 64) dX2_init_15 rfl (fun C h => by cases h) rfl (List.mem_of_getElem? (i := 4) rfl) (by decide) (by decide) (Nat.le_of_ble_eq_true rfl) (by decide +kernel) (zrC17 _ (Nat.le_of_ble_eq_true rfl)).1 (zrC17 _ (Nat.le_of_ble_eq_true rfl)).2 (Or.inl ⟨rfl, rfl⟩) rfl rfl rfl ⟨Nat.le_of_ble_eq_true rfl, Nat.le_of_ble_eq_true rfl⟩ ?_
  refine yy_putF X hin (ref := "PictureBlock$Net") (T := TX2) (k := 137) (j := 3) (ty := tyX2 3) (sh' := hsC133) (σ' := sgC17) dX2_init_17 inX2_init_RX2 tyX2 tyX2_ok nmX2 atC132_137 rfl (by decide) (List.mem_of_getElem? (i := 6) rfl) rfl rfl rfl (tyX2_ok 3 (by decide)) rfl rfl (by decide) (by decide +kernel) (hSet_R (k2 := 139) atC132_137 rfl rfl rfl) ?_
  refine yy_aload_n X (j := 0) dX2_init_20 rfl rfl ?_
  refine yy_aload_n X (j := 1) dX2_init_21 rfl rfl ?_
  refine yy_putF X hin (ref := "PictureBlock$Net") (T := TX2) (k := 137) (j := 0) (ty := tyX2 0) (sh' := hsC134) (σ' := sgC17) dX2_init_22 inX2_init_RX2 tyX2 tyX2_ok nmX2 atC133_137 rfl (by decide) (List.mem_of_getElem? (i := 7) rfl) rfl rfl rfl (tyX2_ok 0 (by decide)) rfl rfl (by decide) (by decide +kernel) (hSet_R (k2 := 2) atC133_137 rfl rfl rfl) ?_
  refine yy_aload_n X (j := 0) dX2_init_25 rfl rfl ?_
  refine yy_aload_n X (j := 2) dX2_init_26 rfl rfl ?_
  refine yy_putF X hin (ref := "PictureBlock$Net") (T := TX2) (k := 137) (j := 1) (ty := tyX2 1) (sh' := hsC135) (σ' := sgC17) dX2_init_27 inX2_init_RX2 tyX2 tyX2_ok nmX2 atC134_137 rfl (by decide) (List.mem_of_getElem? (i := 8) rfl) rfl rfl rfl (tyX2_ok 1 (by decide)) rfl rfl (by decide) (by decide +kernel) (hSet_R (k2 := 47) atC134_137 rfl rfl rfl) ?_
  exact yy_ret X dX2_init_30
theorem atC135_0 : hsC135[0]? = some (3, 9, 0, [4, 0, 5, 27, 49, 50, 62, 74, 86, 93, 99, 2, 2, 2, 2, 0, 0]) := by decide +kernel
noncomputable def hsC136 : List gC := hsC135.set 0 (3, 9, 0, [4, 0, 5, 27, 49, 50, 62, 74, 86, 93, 99, 140, 2, 2, 2, 0, 0])
noncomputable def hsC137 : List gC := hsC136 ++ [(3, 7, 0, [2, 2, 2, 2, 2, 2, 2, 2, 2, 2, 0, 0, 0])]
theorem atC137_0 : hsC137[0]? = some (3, 9, 0, [4, 0, 5, 27, 49, 50, 62, 74, 86, 93, 99, 140, 2, 2, 2, 0, 0]) := by decide +kernel
noncomputable def hsC138 : List gC := hsC137 ++ ((2, 1, 12, [142]) :: List.replicate 12 (0, 0, 20, []))
theorem atC138_140 : hsC138[140]? = some (3, 7, 0, [2, 2, 2, 2, 2, 2, 2, 2, 2, 2, 0, 0, 0]) := by decide +kernel
noncomputable def hsC139 : List gC := hsC138.set 140 (3, 7, 0, [2, 2, 144, 2, 2, 2, 2, 2, 2, 2, 0, 0, 0])
noncomputable def hsC140 : List gC := hsC139 ++ ((2, 1, 12, [155]) :: List.replicate 12 (0, 0, 12, []))
theorem atC140_140 : hsC140[140]? = some (3, 7, 0, [2, 2, 144, 2, 2, 2, 2, 2, 2, 2, 0, 0, 0]) := by decide +kernel
noncomputable def hsC141 : List gC := hsC140.set 140 (3, 7, 0, [2, 2, 144, 157, 2, 2, 2, 2, 2, 2, 0, 0, 0])
noncomputable def hsC142 : List gC := hsC141 ++ ((2, 1, 12, [168]) :: List.replicate 12 (0, 0, 12, []))
theorem atC142_140 : hsC142[140]? = some (3, 7, 0, [2, 2, 144, 157, 2, 2, 2, 2, 2, 2, 0, 0, 0]) := by decide +kernel
noncomputable def hsC143 : List gC := hsC142.set 140 (3, 7, 0, [2, 2, 144, 157, 170, 2, 2, 2, 2, 2, 0, 0, 0])
noncomputable def hsC144 : List gC := hsC143 ++ ((2, 1, 12, [181]) :: List.replicate 12 (0, 0, 12, []))
theorem atC144_140 : hsC144[140]? = some (3, 7, 0, [2, 2, 144, 157, 170, 2, 2, 2, 2, 2, 0, 0, 0]) := by decide +kernel
noncomputable def hsC145 : List gC := hsC144.set 140 (3, 7, 0, [2, 2, 144, 157, 170, 183, 2, 2, 2, 2, 0, 0, 0])
noncomputable def hsC146 : List gC := hsC145 ++ [(0, 0, 12, [])]
theorem atC146_140 : hsC146[140]? = some (3, 7, 0, [2, 2, 144, 157, 170, 183, 2, 2, 2, 2, 0, 0, 0]) := by decide +kernel
noncomputable def hsC147 : List gC := hsC146.set 140 (3, 7, 0, [2, 2, 144, 157, 170, 183, 196, 2, 2, 2, 0, 0, 0])
noncomputable def hsC148 : List gC := hsC147 ++ [(0, 0, 12, [])]
theorem atC148_140 : hsC148[140]? = some (3, 7, 0, [2, 2, 144, 157, 170, 183, 196, 2, 2, 2, 0, 0, 0]) := by decide +kernel
noncomputable def hsC149 : List gC := hsC148.set 140 (3, 7, 0, [2, 2, 144, 157, 170, 183, 196, 197, 2, 2, 0, 0, 0])
noncomputable def hsC150 : List gC := hsC149 ++ [(0, 0, 12, [])]
theorem atC150_140 : hsC150[140]? = some (3, 7, 0, [2, 2, 144, 157, 170, 183, 196, 197, 2, 2, 0, 0, 0]) := by decide +kernel
noncomputable def hsC151 : List gC := hsC150.set 140 (3, 7, 0, [2, 2, 144, 157, 170, 183, 196, 197, 198, 2, 0, 0, 0])
noncomputable def hsC152 : List gC := hsC151 ++ [(0, 0, 60, [])]
theorem atC152_140 : hsC152[140]? = some (3, 7, 0, [2, 2, 144, 157, 170, 183, 196, 197, 198, 2, 0, 0, 0]) := by decide +kernel
noncomputable def hsC153 : List gC := hsC152.set 140 (3, 7, 0, [2, 2, 144, 157, 170, 183, 196, 197, 198, 199, 0, 0, 0])
theorem atC153_140 : hsC153[140]? = some (3, 7, 0, [2, 2, 144, 157, 170, 183, 196, 197, 198, 199, 0, 0, 0]) := by decide +kernel
noncomputable def sgC18 : gS := gsI sgC17 140 10 0
theorem zrC18 : Zr sgC18 197 := Zr_I (Zr_mono zrC17 (by decide)) (by decide)
noncomputable def sgC19 : gS := gsI sgC18 140 11 (-1)
theorem zrC19 : Zr sgC19 197 := Zr_I (Zr_mono zrC18 (by decide)) (by decide)
noncomputable def sgC20 : gS := gsI sgC19 140 12 (-1)
theorem zrC20 : Zr sgC20 197 := Zr_I (Zr_mono zrC19 (by decide)) (by decide)
noncomputable def hsC154 : List gC := hsC153.set 140 (3, 7, 0, [5, 2, 144, 157, 170, 183, 196, 197, 198, 199, 0, 0, 0])
theorem atC154_140 : hsC154[140]? = some (3, 7, 0, [5, 2, 144, 157, 170, 183, 196, 197, 198, 199, 0, 0, 0]) := by decide +kernel
noncomputable def hsC155 : List gC := hsC154.set 140 (3, 7, 0, [5, 50, 144, 157, 170, 183, 196, 197, 198, 199, 0, 0, 0])
noncomputable abbrev rmIC11 : Room := { frames := 1, cells := 56, slots := 816, locals := 20 }
set_option maxRecDepth 100000 in
set_option maxHeartbeats 8000000 in
theorem kIC11 (l : Launch) (G : gG) (b0 : Nat) (hb : ∀ k, G.2.1 k = b0 + k) (hT : G.2.2.1.map (fun q => q.2) = zC.2.1) : yC l yX7_init wsX7_init rmIC11 G vwCl b0 [.ref (G.2.1 140), .ref (G.2.1 2), .ref (G.2.1 47)] hsC137 sgC17 hsC155 sgC20 56 816 := by
  refine yEnter (maxL := 3) (by decide +kernel) rfl rfl hb hT (Nat.le_of_ble_eq_true rfl) rfl (fun M X hl hin => ?_)
  subst hl
  refine yy_aload_n X (j := 0) dX7_init_0 rfl rfl ?_
  refine yy_objInit X (List.mem_of_getElem? (i := 1) rfl) (List.mem_of_getElem? (i := 2) rfl) (List.mem_of_getElem? (i := 3) rfl) dX7_init_1 ⟨Nat.le_of_ble_eq_true rfl, Nat.le_of_ble_eq_true rfl⟩ ?_
  refine yy_aload_n X (j := 0) dX7_init_4 rfl rfl ?_
  refine yy_bipush X (v := 12) dX7_init_5 (by decide) ?_
  refine yy_bipush X (v := 20) dX7_init_7 (by decide) ?_
  refine yy_mna X (ki := 0) (to := 1) (ti := 0) (N := 12) (K := 20) (n := 141) (ty := .int) (sh' := hsC138) (cells' := 13) (slots' := 252) dX7_init_9 (Or.inl rfl) rfl rfl (List.mem_of_getElem? (i := 4) rfl) (List.mem_of_getElem? (i := 5) rfl) (by decide) (by decide) (by decide) (by decide) (Nat.le_of_ble_eq_true rfl) (Nat.le_of_ble_eq_true rfl) (Nat.le_of_ble_eq_true rfl) (by decide +kernel) (fun j _ => (zrC17 (j + 141) (Nat.le_trans (Nat.le_of_ble_eq_true rfl) (Nat.le_add_left 141 j))).1) (fun j _ => (zrC17 (j + 141) (Nat.le_trans (Nat.le_of_ble_eq_true rfl) (Nat.le_add_left 141 j))).2) (Or.inl ⟨rfl, rfl⟩) rfl rfl rfl ⟨Nat.le_of_ble_eq_true rfl, Nat.le_of_ble_eq_true rfl⟩ ?_
  refine yy_putF X hin (ref := "PictureBlock$Ties") (T := TX7) (k := 140) (j := 2) (ty := tyX7 2) (sh' := hsC139) (σ' := sgC17) dX7_init_13 inX7_init_RX7 tyX7 tyX7_ok nmX7 atC138_140 rfl (by decide) (List.mem_of_getElem? (i := 6) rfl) rfl rfl rfl (tyX7_ok 2 (by decide)) rfl rfl (by decide) (by decide +kernel) (hSet_R (k2 := 141) atC138_140 rfl rfl rfl) ?_
  refine yy_aload_n X (j := 0) dX7_init_16 rfl rfl ?_
  refine yy_bipush X (v := 12) dX7_init_17 (by decide) ?_
  refine yy_bipush X (v := 12) dX7_init_19 (by decide) ?_
  refine yy_mna X (ki := 0) (to := 1) (ti := 0) (N := 12) (K := 12) (n := 154) (ty := .int) (sh' := hsC140) (cells' := 26) (slots' := 408) dX7_init_21 (Or.inl rfl) rfl rfl (List.mem_of_getElem? (i := 4) rfl) (List.mem_of_getElem? (i := 5) rfl) (by decide) (by decide) (by decide) (by decide) (Nat.le_of_ble_eq_true rfl) (Nat.le_of_ble_eq_true rfl) (Nat.le_of_ble_eq_true rfl) (by decide +kernel) (fun j _ => (zrC17 (j + 154) (Nat.le_trans (Nat.le_of_ble_eq_true rfl) (Nat.le_add_left 154 j))).1) (fun j _ => (zrC17 (j + 154) (Nat.le_trans (Nat.le_of_ble_eq_true rfl) (Nat.le_add_left 154 j))).2) (Or.inl ⟨rfl, rfl⟩) rfl rfl rfl ⟨Nat.le_of_ble_eq_true rfl, Nat.le_of_ble_eq_true rfl⟩ ?_
  refine yy_putF X hin (ref := "PictureBlock$Ties") (T := TX7) (k := 140) (j := 3) (ty := tyX7 3) (sh' := hsC141) (σ' := sgC17) dX7_init_25 inX7_init_RX7 tyX7 tyX7_ok nmX7 atC140_140 rfl (by decide) (List.mem_of_getElem? (i := 7) rfl) rfl rfl rfl (tyX7_ok 3 (by decide)) rfl rfl (by decide) (by decide +kernel) (hSet_R (k2 := 154) atC140_140 rfl rfl rfl) ?_
  refine yy_aload_n X (j := 0) dX7_init_28 rfl rfl ?_
  refine yy_bipush X (v := 12) dX7_init_29 (by decide) ?_
  refine yy_bipush X (v := 12) dX7_init_31 (by decide) ?_
  refine yy_mna X (ki := 0) (to := 1) (ti := 0) (N := 12) (K := 12) (n := 167) (ty := .int) (sh' := hsC142) (cells' := 39) (slots' := 564) dX7_init_33 (Or.inl rfl) rfl rfl (List.mem_of_getElem? (i := 4) rfl) (List.mem_of_getElem? (i := 5) rfl) (by decide) (by decide) (by decide) (by decide) (Nat.le_of_ble_eq_true rfl) (Nat.le_of_ble_eq_true rfl) (Nat.le_of_ble_eq_true rfl) (by decide +kernel) (fun j _ => (zrC17 (j + 167) (Nat.le_trans (Nat.le_of_ble_eq_true rfl) (Nat.le_add_left 167 j))).1) (fun j _ => (zrC17 (j + 167) (Nat.le_trans (Nat.le_of_ble_eq_true rfl) (Nat.le_add_left 167 j))).2) (Or.inl ⟨rfl, rfl⟩) rfl rfl rfl ⟨Nat.le_of_ble_eq_true rfl, Nat.le_of_ble_eq_true rfl⟩ ?_
  refine yy_putF X hin (ref := "PictureBlock$Ties") (T := TX7) (k := 140) (j := 4) (ty := tyX7 4) (sh' := hsC143) (σ' := sgC17) dX7_init_37 inX7_init_RX7 tyX7 tyX7_ok nmX7 atC142_140 rfl (by decide) (List.mem_of_getElem? (i := 8) rfl) rfl rfl rfl (tyX7_ok 4 (by decide)) rfl rfl (by decide) (by decide +kernel) (hSet_R (k2 := 167) atC142_140 rfl rfl rfl) ?_
  refine yy_aload_n X (j := 0) dX7_init_40 rfl rfl ?_
  refine yy_bipush X (v := 12) dX7_init_41 (by decide) ?_
  refine yy_bipush X (v := 12) dX7_init_43 (by decide) ?_
  refine yy_mna X (ki := 0) (to := 1) (ti := 0) (N := 12) (K := 12) (n := 180) (ty := .int) (sh' := hsC144) (cells' := 52) (slots' := 720) dX7_init_45 (Or.inl rfl) rfl rfl (List.mem_of_getElem? (i := 4) rfl) (List.mem_of_getElem? (i := 5) rfl) (by decide) (by decide) (by decide) (by decide) (Nat.le_of_ble_eq_true rfl) (Nat.le_of_ble_eq_true rfl) (Nat.le_of_ble_eq_true rfl) (by decide +kernel) (fun j _ => (zrC17 (j + 180) (Nat.le_trans (Nat.le_of_ble_eq_true rfl) (Nat.le_add_left 180 j))).1) (fun j _ => (zrC17 (j + 180) (Nat.le_trans (Nat.le_of_ble_eq_true rfl) (Nat.le_add_left 180 j))).2) (Or.inl ⟨rfl, rfl⟩) rfl rfl rfl ⟨Nat.le_of_ble_eq_true rfl, Nat.le_of_ble_eq_true rfl⟩ ?_
  refine yy_putF X hin (ref := "PictureBlock$Ties") (T := TX7) (k := 140) (j := 5) (ty := tyX7 5) (sh' := hsC145) (σ' := sgC17) dX7_init_49 inX7_init_RX7 tyX7 tyX7_ok nmX7 atC144_140 rfl (by decide) (List.mem_of_getElem? (i := 9) rfl) rfl rfl rfl (tyX7_ok 5 (by decide)) rfl rfl (by decide) (by decide +kernel) (hSet_R (k2 := 180) atC144_140 rfl rfl rfl) ?_
  refine yy_aload_n X (j := 0) dX7_init_52 rfl rfl ?_
  refine yy_bipush X (v := 12) dX7_init_53 (by decide) ?_
  refine yy_newa X (ki := 0) (t := 0) (N := 12) (n := 193) (atype := .int) (ty := .int) (sh' := hsC146) (cells' := 53) (slots' := 732) dX7_init_55 rfl (fun C h => by cases h) rfl (List.mem_of_getElem? (i := 5) rfl) (by decide) (by decide) (Nat.le_of_ble_eq_true rfl) (by decide +kernel) (zrC17 _ (Nat.le_of_ble_eq_true rfl)).1 (zrC17 _ (Nat.le_of_ble_eq_true rfl)).2 (Or.inl ⟨rfl, rfl⟩) rfl rfl rfl ⟨Nat.le_of_ble_eq_true rfl, Nat.le_of_ble_eq_true rfl⟩ ?_
  refine yy_putF X hin (ref := "PictureBlock$Ties") (T := TX7) (k := 140) (j := 6) (ty := tyX7 6) (sh' := hsC147) (σ' := sgC17) dX7_init_57 inX7_init_RX7 tyX7 tyX7_ok nmX7 atC146_140 rfl (by decide) (List.mem_of_getElem? (i := 10) rfl) rfl rfl rfl (tyX7_ok 6 (by decide)) rfl rfl (by decide) (by decide +kernel) (hSet_R (k2 := 193) atC146_140 rfl rfl rfl) ?_
  refine yy_aload_n X (j := 0) dX7_init_60 rfl rfl ?_
  refine yy_bipush X (v := 12) dX7_init_61 (by decide) ?_
  refine yy_newa X (ki := 0) (t := 0) (N := 12) (n := 194) (atype := .int) (ty := .int) (sh' := hsC148) (cells' := 54) (slots' := 744) dX7_init_63 rfl (fun C h => by cases h) rfl (List.mem_of_getElem? (i := 5) rfl) (by decide) (by decide) (Nat.le_of_ble_eq_true rfl) (by decide +kernel) (zrC17 _ (Nat.le_of_ble_eq_true rfl)).1 (zrC17 _ (Nat.le_of_ble_eq_true rfl)).2 (Or.inl ⟨rfl, rfl⟩) rfl rfl rfl ⟨Nat.le_of_ble_eq_true rfl, Nat.le_of_ble_eq_true rfl⟩ ?_
  refine yy_putF X hin (ref := "PictureBlock$Ties") (T := TX7) (k := 140) (j := 7) (ty := tyX7 7) (sh' := hsC149) (σ' := sgC17) dX7_init_65 inX7_init_RX7 tyX7 tyX7_ok nmX7 atC148_140 rfl (by decide) (List.mem_of_getElem? (i := 11) rfl) rfl rfl rfl (tyX7_ok 7 (by decide)) rfl rfl (by decide) (by decide +kernel) (hSet_R (k2 := 194) atC148_140 rfl rfl rfl) ?_
  refine yy_aload_n X (j := 0) dX7_init_68 rfl rfl ?_
  refine yy_bipush X (v := 12) dX7_init_69 (by decide) ?_
  refine yy_newa X (ki := 0) (t := 0) (N := 12) (n := 195) (atype := .int) (ty := .int) (sh' := hsC150) (cells' := 55) (slots' := 756) dX7_init_71 rfl (fun C h => by cases h) rfl (List.mem_of_getElem? (i := 5) rfl) (by decide) (by decide) (Nat.le_of_ble_eq_true rfl) (by decide +kernel) (zrC17 _ (Nat.le_of_ble_eq_true rfl)).1 (zrC17 _ (Nat.le_of_ble_eq_true rfl)).2 (Or.inl ⟨rfl, rfl⟩) rfl rfl rfl ⟨Nat.le_of_ble_eq_true rfl, Nat.le_of_ble_eq_true rfl⟩ ?_
  refine yy_putF X hin (ref := "PictureBlock$Ties") (T := TX7) (k := 140) (j := 8) (ty := tyX7 8) (sh' := hsC151) (σ' := sgC17) dX7_init_73 inX7_init_RX7 tyX7 tyX7_ok nmX7 atC150_140 rfl (by decide) (List.mem_of_getElem? (i := 12) rfl) rfl rfl rfl (tyX7_ok 8 (by decide)) rfl rfl (by decide) (by decide +kernel) (hSet_R (k2 := 195) atC150_140 rfl rfl rfl) ?_
  refine yy_aload_n X (j := 0) dX7_init_76 rfl rfl ?_
  refine yy_bipush X (v := 60) dX7_init_77 (by decide) ?_
  refine yy_newa X (ki := 0) (t := 0) (N := 60) (n := 196) (atype := .int) (ty := .int) (sh' := hsC152) (cells' := 56) (slots' := 816) dX7_init_79 rfl (fun C h => by cases h) rfl (List.mem_of_getElem? (i := 5) rfl) (by decide) (by decide) (Nat.le_of_ble_eq_true rfl) (by decide +kernel) (zrC17 _ (Nat.le_of_ble_eq_true rfl)).1 (zrC17 _ (Nat.le_of_ble_eq_true rfl)).2 (Or.inl ⟨rfl, rfl⟩) rfl rfl rfl ⟨Nat.le_of_ble_eq_true rfl, Nat.le_of_ble_eq_true rfl⟩ ?_
  refine yy_putF X hin (ref := "PictureBlock$Ties") (T := TX7) (k := 140) (j := 9) (ty := tyX7 9) (sh' := hsC153) (σ' := sgC17) dX7_init_81 inX7_init_RX7 tyX7 tyX7_ok nmX7 atC152_140 rfl (by decide) (List.mem_of_getElem? (i := 13) rfl) rfl rfl rfl (tyX7_ok 9 (by decide)) rfl rfl (by decide) (by decide +kernel) (hSet_R (k2 := 196) atC152_140 rfl rfl rfl) ?_
  refine yy_aload_n X (j := 0) dX7_init_84 rfl rfl ?_
  refine yy_iconst X (v := 0) dX7_init_85 (by decide) ?_
  refine yy_put X (ref := "PictureBlock$Ties") (T := TX7) (k := 140) (j := 10) (ty := tyX7 10) (sh' := hsC153) (σ' := sgC18) dX7_init_86 inX7_init_RX7 tyX7 tyX7_ok nmX7 atC153_140 rfl (by decide) (List.mem_of_getElem? (i := 14) rfl) rfl rfl (tyX7_ok 10 (by decide)) rfl rfl (by decide) rfl (hSet_I atC153_140 rfl 0) ?_
  refine yy_aload_n X (j := 0) dX7_init_89 rfl rfl ?_
  refine yy_iconst X (v := (-1)) dX7_init_90 (by decide) ?_
  refine yy_put X (ref := "PictureBlock$Ties") (T := TX7) (k := 140) (j := 11) (ty := tyX7 11) (sh' := hsC153) (σ' := sgC19) dX7_init_91 inX7_init_RX7 tyX7 tyX7_ok nmX7 atC153_140 rfl (by decide) (List.mem_of_getElem? (i := 15) rfl) rfl rfl (tyX7_ok 11 (by decide)) rfl rfl (by decide) rfl (hSet_I atC153_140 rfl (-1)) ?_
  refine yy_aload_n X (j := 0) dX7_init_94 rfl rfl ?_
  refine yy_iconst X (v := (-1)) dX7_init_95 (by decide) ?_
  refine yy_put X (ref := "PictureBlock$Ties") (T := TX7) (k := 140) (j := 12) (ty := tyX7 12) (sh' := hsC153) (σ' := sgC20) dX7_init_96 inX7_init_RX7 tyX7 tyX7_ok nmX7 atC153_140 rfl (by decide) (List.mem_of_getElem? (i := 16) rfl) rfl rfl (tyX7_ok 12 (by decide)) rfl rfl (by decide) rfl (hSet_I atC153_140 rfl (-1)) ?_
  refine yy_aload_n X (j := 0) dX7_init_99 rfl rfl ?_
  refine yy_aload_n X (j := 1) dX7_init_100 rfl rfl ?_
  refine yy_putF X hin (ref := "PictureBlock$Ties") (T := TX7) (k := 140) (j := 0) (ty := tyX7 0) (sh' := hsC154) (σ' := sgC20) dX7_init_101 inX7_init_RX7 tyX7 tyX7_ok nmX7 atC153_140 rfl (by decide) (List.mem_of_getElem? (i := 17) rfl) rfl rfl rfl (tyX7_ok 0 (by decide)) rfl rfl (by decide) (by decide +kernel) (hSet_R (k2 := 2) atC153_140 rfl rfl rfl) ?_
  refine yy_aload_n X (j := 0) dX7_init_104 rfl rfl ?_
  refine yy_aload_n X (j := 2) dX7_init_105 rfl rfl ?_
  refine yy_putF X hin (ref := "PictureBlock$Ties") (T := TX7) (k := 140) (j := 1) (ty := tyX7 1) (sh' := hsC155) (σ' := sgC20) dX7_init_106 inX7_init_RX7 tyX7 tyX7_ok nmX7 atC154_140 rfl (by decide) (List.mem_of_getElem? (i := 18) rfl) rfl rfl rfl (tyX7_ok 1 (by decide)) rfl rfl (by decide) (by decide +kernel) (hSet_R (k2 := 47) atC154_140 rfl rfl rfl) ?_
  exact yy_ret X dX7_init_109
theorem atC155_0 : hsC155[0]? = some (3, 9, 0, [4, 0, 5, 27, 49, 50, 62, 74, 86, 93, 99, 140, 2, 2, 2, 0, 0]) := by decide +kernel
noncomputable def hsC156 : List gC := hsC155.set 0 (3, 9, 0, [4, 0, 5, 27, 49, 50, 62, 74, 86, 93, 99, 140, 143, 2, 2, 0, 0])
noncomputable def hsC157 : List gC := hsC156 ++ [(3, 0, 0, [2, 2, 0, 0])]
theorem atC157_0 : hsC157[0]? = some (3, 9, 0, [4, 0, 5, 27, 49, 50, 62, 74, 86, 93, 99, 140, 143, 2, 2, 0, 0]) := by decide +kernel
noncomputable def hsC158 : List gC := hsC157 ++ [(0, 0, 378, [])]
theorem atC158_197 : hsC158[197]? = some (3, 0, 0, [2, 2, 0, 0]) := by decide +kernel
noncomputable def hsC159 : List gC := hsC158.set 197 (3, 0, 0, [2, 201, 0, 0])
theorem atC159_197 : hsC159[197]? = some (3, 0, 0, [2, 201, 0, 0]) := by decide +kernel
noncomputable def sgC21 : gS := gsI sgC20 197 2 0
theorem zrC21 : Zr sgC21 199 := Zr_I (Zr_mono zrC20 (by decide)) (by decide)
noncomputable def sgC22 : gS := gsI sgC21 197 3 0
theorem zrC22 : Zr sgC22 199 := Zr_I (Zr_mono zrC21 (by decide)) (by decide)
noncomputable def hsC160 : List gC := hsC159.set 197 (3, 0, 0, [5, 201, 0, 0])
noncomputable abbrev rmIC12 : Room := { frames := 1, cells := 1, slots := 378, locals := 20 }
set_option maxRecDepth 100000 in
set_option maxHeartbeats 8000000 in
theorem kIC12 (l : Launch) (G : gG) (b0 : Nat) (hb : ∀ k, G.2.1 k = b0 + k) (hT : G.2.2.1.map (fun q => q.2) = zC.2.1) : yC l yX0_init wsX0_init rmIC12 G vwCl b0 [.ref (G.2.1 197), .ref (G.2.1 2)] hsC157 sgC20 hsC160 sgC22 1 378 := by
  refine yEnter (maxL := 2) (by decide +kernel) rfl rfl hb hT (Nat.le_of_ble_eq_true rfl) rfl (fun M X hl hin => ?_)
  subst hl
  refine yy_aload_n X (j := 0) dX0_init_0 rfl rfl ?_
  refine yy_objInit X (List.mem_of_getElem? (i := 1) rfl) (List.mem_of_getElem? (i := 2) rfl) (List.mem_of_getElem? (i := 3) rfl) dX0_init_1 ⟨Nat.le_of_ble_eq_true rfl, Nat.le_of_ble_eq_true rfl⟩ ?_
  refine yy_aload_n X (j := 0) dX0_init_4 rfl rfl ?_
  refine yy_sipush X (v := 378) dX0_init_5 (by decide) ?_
  refine yy_newa X (ki := 0) (t := 0) (N := 378) (n := 198) (atype := .int) (ty := .int) (sh' := hsC158) (cells' := 1) (slots' := 378) dX0_init_8 rfl (fun C h => by cases h) rfl (List.mem_of_getElem? (i := 4) rfl) (by decide) (by decide) (Nat.le_of_ble_eq_true rfl) (by decide +kernel) (zrC20 _ (Nat.le_of_ble_eq_true rfl)).1 (zrC20 _ (Nat.le_of_ble_eq_true rfl)).2 (Or.inl ⟨rfl, rfl⟩) rfl rfl rfl ⟨Nat.le_of_ble_eq_true rfl, Nat.le_of_ble_eq_true rfl⟩ ?_
  refine yy_putF X hin (ref := "PictureBlock$Imager") (T := TX0) (k := 197) (j := 1) (ty := tyX0 1) (sh' := hsC159) (σ' := sgC20) dX0_init_10 inX0_init_RX0 tyX0 tyX0_ok nmX0 atC158_197 rfl (by decide) (List.mem_of_getElem? (i := 5) rfl) rfl rfl rfl (tyX0_ok 1 (by decide)) rfl rfl (by decide) (by decide +kernel) (hSet_R (k2 := 198) atC158_197 rfl rfl rfl) ?_
  refine yy_aload_n X (j := 0) dX0_init_13 rfl rfl ?_
  refine yy_iconst X (v := 0) dX0_init_14 (by decide) ?_
  refine yy_put X (ref := "PictureBlock$Imager") (T := TX0) (k := 197) (j := 2) (ty := tyX0 2) (sh' := hsC159) (σ' := sgC21) dX0_init_15 inX0_init_RX0 tyX0 tyX0_ok nmX0 atC159_197 rfl (by decide) (List.mem_of_getElem? (i := 6) rfl) rfl rfl (tyX0_ok 2 (by decide)) rfl rfl (by decide) rfl (hSet_I atC159_197 rfl 0) ?_
  refine yy_aload_n X (j := 0) dX0_init_18 rfl rfl ?_
  refine yy_iconst X (v := 0) dX0_init_19 (by decide) ?_
  refine yy_put X (ref := "PictureBlock$Imager") (T := TX0) (k := 197) (j := 3) (ty := tyX0 3) (sh' := hsC159) (σ' := sgC22) dX0_init_20 inX0_init_RX0 tyX0 tyX0_ok nmX0 atC159_197 rfl (by decide) (List.mem_of_getElem? (i := 7) rfl) rfl rfl (tyX0_ok 3 (by decide)) rfl rfl (by decide) rfl (hSet_I atC159_197 rfl 0) ?_
  refine yy_aload_n X (j := 0) dX0_init_23 rfl rfl ?_
  refine yy_aload_n X (j := 1) dX0_init_24 rfl rfl ?_
  refine yy_putF X hin (ref := "PictureBlock$Imager") (T := TX0) (k := 197) (j := 0) (ty := tyX0 0) (sh' := hsC160) (σ' := sgC22) dX0_init_25 inX0_init_RX0 tyX0 tyX0_ok nmX0 atC159_197 rfl (by decide) (List.mem_of_getElem? (i := 8) rfl) rfl rfl rfl (tyX0_ok 0 (by decide)) rfl rfl (by decide) (by decide +kernel) (hSet_R (k2 := 2) atC159_197 rfl rfl rfl) ?_
  exact yy_ret X dX0_init_28
theorem atC160_0 : hsC160[0]? = some (3, 9, 0, [4, 0, 5, 27, 49, 50, 62, 74, 86, 93, 99, 140, 143, 2, 2, 0, 0]) := by decide +kernel
noncomputable def hsC161 : List gC := hsC160.set 0 (3, 9, 0, [4, 0, 5, 27, 49, 50, 62, 74, 86, 93, 99, 140, 143, 200, 2, 0, 0])
noncomputable def hsC162 : List gC := hsC161 ++ [(0, 0, 60, [])]
theorem atC162_0 : hsC162[0]? = some (3, 9, 0, [4, 0, 5, 27, 49, 50, 62, 74, 86, 93, 99, 140, 143, 200, 2, 0, 0]) := by decide +kernel
noncomputable def hsC163 : List gC := hsC162.set 0 (3, 9, 0, [4, 0, 5, 27, 49, 50, 62, 74, 86, 93, 99, 140, 143, 200, 202, 0, 0])
theorem atC163_0 : hsC163[0]? = some (3, 9, 0, [4, 0, 5, 27, 49, 50, 62, 74, 86, 93, 99, 140, 143, 200, 202, 0, 0]) := by decide +kernel
noncomputable def sgC23 : gS := gsI sgC22 0 15 0
theorem zrC23 : Zr sgC23 200 := Zr_I (Zr_mono zrC22 (by decide)) (by decide)
noncomputable def sgC24 : gS := gsI sgC23 0 16 (-1)
theorem zrC24 : Zr sgC24 200 := Zr_I (Zr_mono zrC23 (by decide)) (by decide)
noncomputable abbrev rmIC13 : Room := { frames := 2, cells := 199, slots := 6280, locals := 42 }
set_option maxRecDepth 100000 in
set_option maxHeartbeats 8000000 in
theorem kIC13 (l : Launch) (G : gG) (b0 : Nat) (hb : ∀ k, G.2.1 k = b0 + k) (hT : G.2.2.1.map (fun q => q.2) = zC.2.1) : yC l yX9_init wsX9_init rmIC13 G vwCl b0 [.ref (G.2.1 0)] hsC1 sgC0 hsC163 sgC24 199 6280 := by
  refine yEnter (maxL := 1) (by decide +kernel) rfl rfl hb hT (Nat.le_of_ble_eq_true rfl) rfl (fun M X hl hin => ?_)
  subst hl
  refine yy_aload_n X (j := 0) dX9_init_0 rfl rfl ?_
  refine yy_objInit X (List.mem_of_getElem? (i := 1) rfl) (List.mem_of_getElem? (i := 2) rfl) (List.mem_of_getElem? (i := 3) rfl) dX9_init_1 ⟨Nat.le_of_ble_eq_true rfl, Nat.le_of_ble_eq_true rfl⟩ ?_
  refine yy_aload_n X (j := 0) dX9_init_4 rfl rfl ?_
  refine yy_sipush X (v := 1600) dX9_init_5 (by decide) ?_
  refine yy_newa X (ki := 0) (t := 0) (N := 1600) (n := 1) (atype := .int) (ty := .int) (sh' := hsC2) (cells' := 1) (slots' := 1600) dX9_init_8 rfl (fun C h => by cases h) rfl (List.mem_of_getElem? (i := 4) rfl) (by decide) (by decide) (Nat.le_of_ble_eq_true rfl) (by decide +kernel) (zrC0 _ (Nat.le_of_ble_eq_true rfl)).1 (zrC0 _ (Nat.le_of_ble_eq_true rfl)).2 (Or.inl ⟨rfl, rfl⟩) rfl rfl rfl ⟨Nat.le_of_ble_eq_true rfl, Nat.le_of_ble_eq_true rfl⟩ ?_
  refine yy_putF X hin (ref := "PictureBlock") (T := TX9) (k := 0) (j := 0) (ty := tyX9 0) (sh' := hsC3) (σ' := sgC0) dX9_init_10 inX9_init_RX9 tyX9 tyX9_ok nmX9 atC2_0 rfl (by decide) (List.mem_of_getElem? (i := 5) rfl) rfl rfl rfl (tyX9_ok 0 (by decide)) rfl rfl (by decide) (by decide +kernel) (hSet_R (k2 := 1) atC2_0 rfl rfl rfl) ?_
  refine yy_aload_n X (j := 0) dX9_init_13 rfl rfl ?_
  refine yy_iconst X (v := 0) dX9_init_14 (by decide) ?_
  refine yy_put X (ref := "PictureBlock") (T := TX9) (k := 0) (j := 1) (ty := tyX9 1) (sh' := hsC3) (σ' := sgC1) dX9_init_15 inX9_init_RX9 tyX9 tyX9_ok nmX9 atC3_0 rfl (by decide) (List.mem_of_getElem? (i := 6) rfl) rfl rfl (tyX9_ok 1 (by decide)) rfl rfl (by decide) rfl (hSet_I atC3_0 rfl 0) ?_
  refine yy_aload_n X (j := 0) dX9_init_18 rfl rfl ?_
  refine yy_new X (C := RX8) (T := TX8) (N := 12) (ci := 8) (n := 2) (fl := [2, 2, 2, 2, 2, 2, 2, 2, 2, 2, 2, 2]) (sh' := hsC4) (cells' := 2) (slots' := 1612) dX9_init_19 inX9_init_RX8 tyX8 tyX8_ok rfl (List.mem_of_getElem? (i := 7) rfl) (List.mem_of_getElem? (i := 8) rfl) (List.mem_of_getElem? (i := 9) rfl) (by decide +kernel) (zrC1 _ (Nat.le_of_ble_eq_true rfl)).1 (zrC1 _ (Nat.le_of_ble_eq_true rfl)).2 (by decide +kernel) (by decide +kernel) rfl rfl rfl ⟨Nat.le_of_ble_eq_true rfl, Nat.le_of_ble_eq_true rfl⟩ ?_
  refine yy_dup X rfl dX9_init_22 ?_
  refine yy_callN X (n := 0) (As := []) (rest := [.ref (G.2.1 2), .ref (G.2.1 0)]) (mc := 21) (ms := 495) (cells' := 23) (slots' := 2107) dX9_init_23 (kIC1 (mL M) G b0 hb hT) rfl gX9_init_X8_init_n19 (List.mem_of_getElem? (i := 9) rfl) (yN_X8_init_19 X.2.2.2.2.2.2.2.2.2.2.2.1.2) (List.mem_of_getElem? (i := 49) rfl) rfl hyiX8_init ⟨rfl, rfl⟩ ⟨Nat.le_of_ble_eq_true rfl, Nat.le_of_ble_eq_true rfl⟩ rfl rfl (Nat.le_of_ble_eq_true rfl) rfl rfl ⟨Nat.le_of_ble_eq_true rfl, Nat.le_of_ble_eq_true rfl⟩ ?_
  refine yy_putF X hin (ref := "PictureBlock") (T := TX9) (k := 0) (j := 2) (ty := tyX9 2) (sh' := hsC29) (σ' := sgC1) dX9_init_26 inX9_init_RX9 tyX9 tyX9_ok nmX9 atC28_0 rfl (by decide) (List.mem_of_getElem? (i := 10) rfl) rfl rfl rfl (tyX9_ok 2 (by decide)) rfl rfl (by decide) (by decide +kernel) (hSet_R (k2 := 2) atC28_0 rfl rfl rfl) ?_
  refine yy_aload_n X (j := 0) dX9_init_29 rfl rfl ?_
  refine yy_new X (C := RX8) (T := TX8) (N := 12) (ci := 8) (n := 24) (fl := [2, 2, 2, 2, 2, 2, 2, 2, 2, 2, 2, 2]) (sh' := hsC30) (cells' := 24) (slots' := 2119) dX9_init_30 inX9_init_RX8 tyX8 tyX8_ok rfl (List.mem_of_getElem? (i := 7) rfl) (List.mem_of_getElem? (i := 8) rfl) (List.mem_of_getElem? (i := 9) rfl) (by decide +kernel) (zrC1 _ (Nat.le_of_ble_eq_true rfl)).1 (zrC1 _ (Nat.le_of_ble_eq_true rfl)).2 (by decide +kernel) (by decide +kernel) rfl rfl rfl ⟨Nat.le_of_ble_eq_true rfl, Nat.le_of_ble_eq_true rfl⟩ ?_
  refine yy_dup X rfl dX9_init_33 ?_
  refine yy_callN X (n := 0) (As := []) (rest := [.ref (G.2.1 24), .ref (G.2.1 0)]) (mc := 21) (ms := 495) (cells' := 45) (slots' := 2614) dX9_init_34 (kIC2 (mL M) G b0 hb hT) rfl gX9_init_X8_init_n19 (List.mem_of_getElem? (i := 9) rfl) (yN_X8_init_19 X.2.2.2.2.2.2.2.2.2.2.2.1.2) (List.mem_of_getElem? (i := 49) rfl) rfl hyiX8_init ⟨rfl, rfl⟩ ⟨Nat.le_of_ble_eq_true rfl, Nat.le_of_ble_eq_true rfl⟩ rfl rfl (Nat.le_of_ble_eq_true rfl) rfl rfl ⟨Nat.le_of_ble_eq_true rfl, Nat.le_of_ble_eq_true rfl⟩ ?_
  refine yy_putF X hin (ref := "PictureBlock") (T := TX9) (k := 0) (j := 3) (ty := tyX9 3) (sh' := hsC55) (σ' := sgC1) dX9_init_37 inX9_init_RX9 tyX9 tyX9_ok nmX9 atC54_0 rfl (by decide) (List.mem_of_getElem? (i := 11) rfl) rfl rfl rfl (tyX9_ok 3 (by decide)) rfl rfl (by decide) (by decide +kernel) (hSet_R (k2 := 24) atC54_0 rfl rfl rfl) ?_
  refine yy_aload_n X (j := 0) dX9_init_40 rfl rfl ?_
  refine yy_new X (C := RX3) (T := TX3) (N := 14) (ci := 3) (n := 46) (fl := [2, 2, 0, 0, 0, 0, 0, 0, 0, 0, 0, 0, 0, 0]) (sh' := hsC56) (cells' := 46) (slots' := 2628) dX9_init_41 inX9_init_RX3 tyX3 tyX3_ok rfl (List.mem_of_getElem? (i := 12) rfl) (List.mem_of_getElem? (i := 13) rfl) (List.mem_of_getElem? (i := 14) rfl) (by decide +kernel) (zrC1 _ (Nat.le_of_ble_eq_true rfl)).1 (zrC1 _ (Nat.le_of_ble_eq_true rfl)).2 (by decide +kernel) (by decide +kernel) rfl rfl rfl ⟨Nat.le_of_ble_eq_true rfl, Nat.le_of_ble_eq_true rfl⟩ ?_
  refine yy_dup X rfl dX9_init_44 ?_
  refine yy_aload_n X (j := 0) dX9_init_45 rfl rfl ?_
  refine yy_get X (ref := "PictureBlock") (T := TX9) (k := 0) (j := 0) dX9_init_46 inX9_init_RX9 atC56_0 rfl (by decide) rfl (List.mem_of_getElem? (i := 5) rfl) rfl ?_
  show YY M _ G _ _ _ _ _ _ _ _ _ _ (.ref (G.2.1 1) :: _)
  refine yy_aload_n X (j := 0) dX9_init_49 rfl rfl ?_
  refine yy_get X (ref := "PictureBlock") (T := TX9) (k := 0) (j := 3) dX9_init_50 inX9_init_RX9 atC56_0 rfl (by decide) rfl (List.mem_of_getElem? (i := 11) rfl) rfl ?_
  show YY M _ G _ _ _ _ _ _ _ _ _ _ (.ref (G.2.1 24) :: _)
  refine yy_callI X (n := 2) (As := [.ref (G.2.1 1), .ref (G.2.1 24)]) (rest := [.ref (G.2.1 46), .ref (G.2.1 0)]) (mc := 0) (ms := 0) (cells' := 46) (slots' := 2628) dX9_init_53 (kIC3 (mL M) G b0 hb hT) rfl gX9_init_X3_init (List.mem_of_getElem? (i := 14) rfl) (List.mem_of_getElem? (i := 65) rfl) (List.mem_of_getElem? (i := 66) rfl) rfl hyiX3_init ⟨rfl, rfl⟩ ⟨Nat.le_of_ble_eq_true rfl, Nat.le_of_ble_eq_true rfl⟩ rfl rfl (Nat.le_of_ble_eq_true rfl) rfl rfl ⟨Nat.le_of_ble_eq_true rfl, Nat.le_of_ble_eq_true rfl⟩ ?_
  refine yy_putF X hin (ref := "PictureBlock") (T := TX9) (k := 0) (j := 4) (ty := tyX9 4) (sh' := hsC59) (σ' := sgC13) dX9_init_56 inX9_init_RX9 tyX9 tyX9_ok nmX9 atC58_0 rfl (by decide) (List.mem_of_getElem? (i := 15) rfl) rfl rfl rfl (tyX9_ok 4 (by decide)) rfl rfl (by decide) (by decide +kernel) (hSet_R (k2 := 46) atC58_0 rfl rfl rfl) ?_
  refine yy_aload_n X (j := 0) dX9_init_59 rfl rfl ?_
  refine yy_new X (C := RX5) (T := TX5) (N := 7) (ci := 5) (n := 47) (fl := [2, 0, 2, 2, 2, 2, 2]) (sh' := hsC60) (cells' := 47) (slots' := 2635) dX9_init_60 inX9_init_RX5 tyX5 tyX5_ok rfl (List.mem_of_getElem? (i := 16) rfl) (List.mem_of_getElem? (i := 17) rfl) (List.mem_of_getElem? (i := 18) rfl) (by decide +kernel) (zrC13 _ (Nat.le_of_ble_eq_true rfl)).1 (zrC13 _ (Nat.le_of_ble_eq_true rfl)).2 (by decide +kernel) (by decide +kernel) rfl rfl rfl ⟨Nat.le_of_ble_eq_true rfl, Nat.le_of_ble_eq_true rfl⟩ ?_
  refine yy_dup X rfl dX9_init_63 ?_
  refine yy_aload_n X (j := 0) dX9_init_64 rfl rfl ?_
  refine yy_get X (ref := "PictureBlock") (T := TX9) (k := 0) (j := 2) dX9_init_65 inX9_init_RX9 atC60_0 rfl (by decide) rfl (List.mem_of_getElem? (i := 10) rfl) rfl ?_
  show YY M _ G _ _ _ _ _ _ _ _ _ _ (.ref (G.2.1 2) :: _)
  refine yy_callI X (n := 1) (As := [.ref (G.2.1 2)]) (rest := [.ref (G.2.1 47), .ref (G.2.1 0)]) (mc := 11) (ms := 154) (cells' := 58) (slots' := 2789) dX9_init_68 (kIC4 (mL M) G b0 hb hT) rfl gX9_init_X5_init (List.mem_of_getElem? (i := 18) rfl) (List.mem_of_getElem? (i := 83) rfl) (List.mem_of_getElem? (i := 84) rfl) rfl hyiX5_init ⟨rfl, rfl⟩ ⟨Nat.le_of_ble_eq_true rfl, Nat.le_of_ble_eq_true rfl⟩ rfl rfl (Nat.le_of_ble_eq_true rfl) rfl rfl ⟨Nat.le_of_ble_eq_true rfl, Nat.le_of_ble_eq_true rfl⟩ ?_
  refine yy_putF X hin (ref := "PictureBlock") (T := TX9) (k := 0) (j := 5) (ty := tyX9 5) (sh' := hsC72) (σ' := sgC14) dX9_init_71 inX9_init_RX9 tyX9 tyX9_ok nmX9 atC71_0 rfl (by decide) (List.mem_of_getElem? (i := 19) rfl) rfl rfl rfl (tyX9_ok 5 (by decide)) rfl rfl (by decide) (by decide +kernel) (hSet_R (k2 := 47) atC71_0 rfl rfl rfl) ?_
  refine yy_aload_n X (j := 0) dX9_init_74 rfl rfl ?_
  refine yy_new X (C := RX5) (T := TX5) (N := 7) (ci := 5) (n := 59) (fl := [2, 0, 2, 2, 2, 2, 2]) (sh' := hsC73) (cells' := 59) (slots' := 2796) dX9_init_75 inX9_init_RX5 tyX5 tyX5_ok rfl (List.mem_of_getElem? (i := 16) rfl) (List.mem_of_getElem? (i := 17) rfl) (List.mem_of_getElem? (i := 18) rfl) (by decide +kernel) (zrC14 _ (Nat.le_of_ble_eq_true rfl)).1 (zrC14 _ (Nat.le_of_ble_eq_true rfl)).2 (by decide +kernel) (by decide +kernel) rfl rfl rfl ⟨Nat.le_of_ble_eq_true rfl, Nat.le_of_ble_eq_true rfl⟩ ?_
  refine yy_dup X rfl dX9_init_78 ?_
  refine yy_aload_n X (j := 0) dX9_init_79 rfl rfl ?_
  refine yy_get X (ref := "PictureBlock") (T := TX9) (k := 0) (j := 2) dX9_init_80 inX9_init_RX9 atC73_0 rfl (by decide) rfl (List.mem_of_getElem? (i := 10) rfl) rfl ?_
  show YY M _ G _ _ _ _ _ _ _ _ _ _ (.ref (G.2.1 2) :: _)
  refine yy_callI X (n := 1) (As := [.ref (G.2.1 2)]) (rest := [.ref (G.2.1 59), .ref (G.2.1 0)]) (mc := 11) (ms := 154) (cells' := 70) (slots' := 2950) dX9_init_83 (kIC5 (mL M) G b0 hb hT) rfl gX9_init_X5_init (List.mem_of_getElem? (i := 18) rfl) (List.mem_of_getElem? (i := 83) rfl) (List.mem_of_getElem? (i := 84) rfl) rfl hyiX5_init ⟨rfl, rfl⟩ ⟨Nat.le_of_ble_eq_true rfl, Nat.le_of_ble_eq_true rfl⟩ rfl rfl (Nat.le_of_ble_eq_true rfl) rfl rfl ⟨Nat.le_of_ble_eq_true rfl, Nat.le_of_ble_eq_true rfl⟩ ?_
  refine yy_putF X hin (ref := "PictureBlock") (T := TX9) (k := 0) (j := 6) (ty := tyX9 6) (sh' := hsC85) (σ' := sgC15) dX9_init_86 inX9_init_RX9 tyX9 tyX9_ok nmX9 atC84_0 rfl (by decide) (List.mem_of_getElem? (i := 20) rfl) rfl rfl rfl (tyX9_ok 6 (by decide)) rfl rfl (by decide) (by decide +kernel) (hSet_R (k2 := 59) atC84_0 rfl rfl rfl) ?_
  refine yy_aload_n X (j := 0) dX9_init_89 rfl rfl ?_
  refine yy_new X (C := RX5) (T := TX5) (N := 7) (ci := 5) (n := 71) (fl := [2, 0, 2, 2, 2, 2, 2]) (sh' := hsC86) (cells' := 71) (slots' := 2957) dX9_init_90 inX9_init_RX5 tyX5 tyX5_ok rfl (List.mem_of_getElem? (i := 16) rfl) (List.mem_of_getElem? (i := 17) rfl) (List.mem_of_getElem? (i := 18) rfl) (by decide +kernel) (zrC15 _ (Nat.le_of_ble_eq_true rfl)).1 (zrC15 _ (Nat.le_of_ble_eq_true rfl)).2 (by decide +kernel) (by decide +kernel) rfl rfl rfl ⟨Nat.le_of_ble_eq_true rfl, Nat.le_of_ble_eq_true rfl⟩ ?_
  refine yy_dup X rfl dX9_init_93 ?_
  refine yy_aload_n X (j := 0) dX9_init_94 rfl rfl ?_
  refine yy_get X (ref := "PictureBlock") (T := TX9) (k := 0) (j := 2) dX9_init_95 inX9_init_RX9 atC86_0 rfl (by decide) rfl (List.mem_of_getElem? (i := 10) rfl) rfl ?_
  show YY M _ G _ _ _ _ _ _ _ _ _ _ (.ref (G.2.1 2) :: _)
  refine yy_callI X (n := 1) (As := [.ref (G.2.1 2)]) (rest := [.ref (G.2.1 71), .ref (G.2.1 0)]) (mc := 11) (ms := 154) (cells' := 82) (slots' := 3111) dX9_init_98 (kIC6 (mL M) G b0 hb hT) rfl gX9_init_X5_init (List.mem_of_getElem? (i := 18) rfl) (List.mem_of_getElem? (i := 83) rfl) (List.mem_of_getElem? (i := 84) rfl) rfl hyiX5_init ⟨rfl, rfl⟩ ⟨Nat.le_of_ble_eq_true rfl, Nat.le_of_ble_eq_true rfl⟩ rfl rfl (Nat.le_of_ble_eq_true rfl) rfl rfl ⟨Nat.le_of_ble_eq_true rfl, Nat.le_of_ble_eq_true rfl⟩ ?_
  refine yy_putF X hin (ref := "PictureBlock") (T := TX9) (k := 0) (j := 7) (ty := tyX9 7) (sh' := hsC98) (σ' := sgC16) dX9_init_101 inX9_init_RX9 tyX9 tyX9_ok nmX9 atC97_0 rfl (by decide) (List.mem_of_getElem? (i := 21) rfl) rfl rfl rfl (tyX9_ok 7 (by decide)) rfl rfl (by decide) (by decide +kernel) (hSet_R (k2 := 71) atC97_0 rfl rfl rfl) ?_
  refine yy_aload_n X (j := 0) dX9_init_104 rfl rfl ?_
  refine yy_new X (C := RX6) (T := TX6) (N := 6) (ci := 6) (n := 83) (fl := [2, 2, 2, 2, 2, 2]) (sh' := hsC99) (cells' := 83) (slots' := 3117) dX9_init_105 inX9_init_RX6 tyX6 tyX6_ok rfl (List.mem_of_getElem? (i := 22) rfl) (List.mem_of_getElem? (i := 23) rfl) (List.mem_of_getElem? (i := 24) rfl) (by decide +kernel) (zrC16 _ (Nat.le_of_ble_eq_true rfl)).1 (zrC16 _ (Nat.le_of_ble_eq_true rfl)).2 (by decide +kernel) (by decide +kernel) rfl rfl rfl ⟨Nat.le_of_ble_eq_true rfl, Nat.le_of_ble_eq_true rfl⟩ ?_
  refine yy_dup X rfl dX9_init_108 ?_
  refine yy_aload_n X (j := 0) dX9_init_109 rfl rfl ?_
  refine yy_get X (ref := "PictureBlock") (T := TX9) (k := 0) (j := 2) dX9_init_110 inX9_init_RX9 atC99_0 rfl (by decide) rfl (List.mem_of_getElem? (i := 10) rfl) rfl ?_
  show YY M _ G _ _ _ _ _ _ _ _ _ _ (.ref (G.2.1 2) :: _)
  refine yy_aload_n X (j := 0) dX9_init_113 rfl rfl ?_
  refine yy_get X (ref := "PictureBlock") (T := TX9) (k := 0) (j := 5) dX9_init_114 inX9_init_RX9 atC99_0 rfl (by decide) rfl (List.mem_of_getElem? (i := 19) rfl) rfl ?_
  show YY M _ G _ _ _ _ _ _ _ _ _ _ (.ref (G.2.1 47) :: _)
  refine yy_callI X (n := 2) (As := [.ref (G.2.1 2), .ref (G.2.1 47)]) (rest := [.ref (G.2.1 83), .ref (G.2.1 0)]) (mc := 6) (ms := 94) (cells' := 89) (slots' := 3211) dX9_init_117 (kIC7 (mL M) G b0 hb hT) rfl gX9_init_X6_init (List.mem_of_getElem? (i := 24) rfl) (List.mem_of_getElem? (i := 95) rfl) (List.mem_of_getElem? (i := 96) rfl) rfl hyiX6_init ⟨rfl, rfl⟩ ⟨Nat.le_of_ble_eq_true rfl, Nat.le_of_ble_eq_true rfl⟩ rfl rfl (Nat.le_of_ble_eq_true rfl) rfl rfl ⟨Nat.le_of_ble_eq_true rfl, Nat.le_of_ble_eq_true rfl⟩ ?_
  refine yy_putF X hin (ref := "PictureBlock") (T := TX9) (k := 0) (j := 8) (ty := tyX9 8) (sh' := hsC110) (σ' := sgC16) dX9_init_120 inX9_init_RX9 tyX9 tyX9_ok nmX9 atC109_0 rfl (by decide) (List.mem_of_getElem? (i := 25) rfl) rfl rfl rfl (tyX9_ok 8 (by decide)) rfl rfl (by decide) (by decide +kernel) (hSet_R (k2 := 83) atC109_0 rfl rfl rfl) ?_
  refine yy_aload_n X (j := 0) dX9_init_123 rfl rfl ?_
  refine yy_new X (C := RX1) (T := TX1) (N := 5) (ci := 1) (n := 90) (fl := [2, 2, 2, 2, 2]) (sh' := hsC111) (cells' := 90) (slots' := 3216) dX9_init_124 inX9_init_RX1 tyX1 tyX1_ok rfl (List.mem_of_getElem? (i := 26) rfl) (List.mem_of_getElem? (i := 27) rfl) (List.mem_of_getElem? (i := 28) rfl) (by decide +kernel) (zrC16 _ (Nat.le_of_ble_eq_true rfl)).1 (zrC16 _ (Nat.le_of_ble_eq_true rfl)).2 (by decide +kernel) (by decide +kernel) rfl rfl rfl ⟨Nat.le_of_ble_eq_true rfl, Nat.le_of_ble_eq_true rfl⟩ ?_
  refine yy_dup X rfl dX9_init_127 ?_
  refine yy_aload_n X (j := 0) dX9_init_128 rfl rfl ?_
  refine yy_get X (ref := "PictureBlock") (T := TX9) (k := 0) (j := 2) dX9_init_129 inX9_init_RX9 atC111_0 rfl (by decide) rfl (List.mem_of_getElem? (i := 10) rfl) rfl ?_
  show YY M _ G _ _ _ _ _ _ _ _ _ _ (.ref (G.2.1 2) :: _)
  refine yy_aload_n X (j := 0) dX9_init_132 rfl rfl ?_
  refine yy_get X (ref := "PictureBlock") (T := TX9) (k := 0) (j := 5) dX9_init_133 inX9_init_RX9 atC111_0 rfl (by decide) rfl (List.mem_of_getElem? (i := 19) rfl) rfl ?_
  show YY M _ G _ _ _ _ _ _ _ _ _ _ (.ref (G.2.1 47) :: _)
  refine yy_callI X (n := 2) (As := [.ref (G.2.1 2), .ref (G.2.1 47)]) (rest := [.ref (G.2.1 90), .ref (G.2.1 0)]) (mc := 5) (ms := 162) (cells' := 95) (slots' := 3378) dX9_init_136 (kIC8 (mL M) G b0 hb hT) rfl gX9_init_X1_init (List.mem_of_getElem? (i := 28) rfl) (List.mem_of_getElem? (i := 106) rfl) (List.mem_of_getElem? (i := 107) rfl) rfl hyiX1_init ⟨rfl, rfl⟩ ⟨Nat.le_of_ble_eq_true rfl, Nat.le_of_ble_eq_true rfl⟩ rfl rfl (Nat.le_of_ble_eq_true rfl) rfl rfl ⟨Nat.le_of_ble_eq_true rfl, Nat.le_of_ble_eq_true rfl⟩ ?_
  refine yy_putF X hin (ref := "PictureBlock") (T := TX9) (k := 0) (j := 9) (ty := tyX9 9) (sh' := hsC120) (σ' := sgC16) dX9_init_139 inX9_init_RX9 tyX9 tyX9_ok nmX9 atC119_0 rfl (by decide) (List.mem_of_getElem? (i := 29) rfl) rfl rfl rfl (tyX9_ok 9 (by decide)) rfl rfl (by decide) (by decide +kernel) (hSet_R (k2 := 90) atC119_0 rfl rfl rfl) ?_
  refine yy_aload_n X (j := 0) dX9_init_142 rfl rfl ?_
  refine yy_new X (C := RX4) (T := TX4) (N := 5) (ci := 4) (n := 96) (fl := [2, 2, 2, 2, 0]) (sh' := hsC121) (cells' := 96) (slots' := 3383) dX9_init_143 inX9_init_RX4 tyX4 tyX4_ok rfl (List.mem_of_getElem? (i := 30) rfl) (List.mem_of_getElem? (i := 31) rfl) (List.mem_of_getElem? (i := 32) rfl) (by decide +kernel) (zrC16 _ (Nat.le_of_ble_eq_true rfl)).1 (zrC16 _ (Nat.le_of_ble_eq_true rfl)).2 (by decide +kernel) (by decide +kernel) rfl rfl rfl ⟨Nat.le_of_ble_eq_true rfl, Nat.le_of_ble_eq_true rfl⟩ ?_
  refine yy_dup X rfl dX9_init_146 ?_
  refine yy_aload_n X (j := 0) dX9_init_147 rfl rfl ?_
  refine yy_get X (ref := "PictureBlock") (T := TX9) (k := 0) (j := 2) dX9_init_148 inX9_init_RX9 atC121_0 rfl (by decide) rfl (List.mem_of_getElem? (i := 10) rfl) rfl ?_
  show YY M _ G _ _ _ _ _ _ _ _ _ _ (.ref (G.2.1 2) :: _)
  refine yy_aload_n X (j := 0) dX9_init_151 rfl rfl ?_
  refine yy_get X (ref := "PictureBlock") (T := TX9) (k := 0) (j := 5) dX9_init_152 inX9_init_RX9 atC121_0 rfl (by decide) rfl (List.mem_of_getElem? (i := 19) rfl) rfl ?_
  show YY M _ G _ _ _ _ _ _ _ _ _ _ (.ref (G.2.1 47) :: _)
  refine yy_callI X (n := 2) (As := [.ref (G.2.1 2), .ref (G.2.1 47)]) (rest := [.ref (G.2.1 96), .ref (G.2.1 0)]) (mc := 40) (ms := 1558) (cells' := 136) (slots' := 4941) dX9_init_155 (kIC9 (mL M) G b0 hb hT) rfl gX9_init_X4_init (List.mem_of_getElem? (i := 32) rfl) (List.mem_of_getElem? (i := 117) rfl) (List.mem_of_getElem? (i := 118) rfl) rfl hyiX4_init ⟨rfl, rfl⟩ ⟨Nat.le_of_ble_eq_true rfl, Nat.le_of_ble_eq_true rfl⟩ rfl rfl (Nat.le_of_ble_eq_true rfl) rfl rfl ⟨Nat.le_of_ble_eq_true rfl, Nat.le_of_ble_eq_true rfl⟩ ?_
  refine yy_putF X hin (ref := "PictureBlock") (T := TX9) (k := 0) (j := 10) (ty := tyX9 10) (sh' := hsC128) (σ' := sgC17) dX9_init_158 inX9_init_RX9 tyX9 tyX9_ok nmX9 atC127_0 rfl (by decide) (List.mem_of_getElem? (i := 33) rfl) rfl rfl rfl (tyX9_ok 10 (by decide)) rfl rfl (by decide) (by decide +kernel) (hSet_R (k2 := 96) atC127_0 rfl rfl rfl) ?_
  refine yy_aload_n X (j := 0) dX9_init_161 rfl rfl ?_
  refine yy_new X (C := RX2) (T := TX2) (N := 4) (ci := 2) (n := 137) (fl := [2, 2, 2, 2]) (sh' := hsC129) (cells' := 137) (slots' := 4945) dX9_init_162 inX9_init_RX2 tyX2 tyX2_ok rfl (List.mem_of_getElem? (i := 34) rfl) (List.mem_of_getElem? (i := 35) rfl) (List.mem_of_getElem? (i := 36) rfl) (by decide +kernel) (zrC17 _ (Nat.le_of_ble_eq_true rfl)).1 (zrC17 _ (Nat.le_of_ble_eq_true rfl)).2 (by decide +kernel) (by decide +kernel) rfl rfl rfl ⟨Nat.le_of_ble_eq_true rfl, Nat.le_of_ble_eq_true rfl⟩ ?_
  refine yy_dup X rfl dX9_init_165 ?_
  refine yy_aload_n X (j := 0) dX9_init_166 rfl rfl ?_
  refine yy_get X (ref := "PictureBlock") (T := TX9) (k := 0) (j := 2) dX9_init_167 inX9_init_RX9 atC129_0 rfl (by decide) rfl (List.mem_of_getElem? (i := 10) rfl) rfl ?_
  show YY M _ G _ _ _ _ _ _ _ _ _ _ (.ref (G.2.1 2) :: _)
  refine yy_aload_n X (j := 0) dX9_init_170 rfl rfl ?_
  refine yy_get X (ref := "PictureBlock") (T := TX9) (k := 0) (j := 5) dX9_init_171 inX9_init_RX9 atC129_0 rfl (by decide) rfl (List.mem_of_getElem? (i := 19) rfl) rfl ?_
  show YY M _ G _ _ _ _ _ _ _ _ _ _ (.ref (G.2.1 47) :: _)
  refine yy_callI X (n := 2) (As := [.ref (G.2.1 2), .ref (G.2.1 47)]) (rest := [.ref (G.2.1 137), .ref (G.2.1 0)]) (mc := 2) (ms := 64) (cells' := 139) (slots' := 5009) dX9_init_174 (kIC10 (mL M) G b0 hb hT) rfl gX9_init_X2_init (List.mem_of_getElem? (i := 36) rfl) (List.mem_of_getElem? (i := 127) rfl) (List.mem_of_getElem? (i := 128) rfl) rfl hyiX2_init ⟨rfl, rfl⟩ ⟨Nat.le_of_ble_eq_true rfl, Nat.le_of_ble_eq_true rfl⟩ rfl rfl (Nat.le_of_ble_eq_true rfl) rfl rfl ⟨Nat.le_of_ble_eq_true rfl, Nat.le_of_ble_eq_true rfl⟩ ?_
  refine yy_putF X hin (ref := "PictureBlock") (T := TX9) (k := 0) (j := 11) (ty := tyX9 11) (sh' := hsC136) (σ' := sgC17) dX9_init_177 inX9_init_RX9 tyX9 tyX9_ok nmX9 atC135_0 rfl (by decide) (List.mem_of_getElem? (i := 37) rfl) rfl rfl rfl (tyX9_ok 11 (by decide)) rfl rfl (by decide) (by decide +kernel) (hSet_R (k2 := 137) atC135_0 rfl rfl rfl) ?_
  refine yy_aload_n X (j := 0) dX9_init_180 rfl rfl ?_
  refine yy_new X (C := RX7) (T := TX7) (N := 13) (ci := 7) (n := 140) (fl := [2, 2, 2, 2, 2, 2, 2, 2, 2, 2, 0, 0, 0]) (sh' := hsC137) (cells' := 140) (slots' := 5022) dX9_init_181 inX9_init_RX7 tyX7 tyX7_ok rfl (List.mem_of_getElem? (i := 38) rfl) (List.mem_of_getElem? (i := 39) rfl) (List.mem_of_getElem? (i := 40) rfl) (by decide +kernel) (zrC17 _ (Nat.le_of_ble_eq_true rfl)).1 (zrC17 _ (Nat.le_of_ble_eq_true rfl)).2 (by decide +kernel) (by decide +kernel) rfl rfl rfl ⟨Nat.le_of_ble_eq_true rfl, Nat.le_of_ble_eq_true rfl⟩ ?_
  refine yy_dup X rfl dX9_init_184 ?_
  refine yy_aload_n X (j := 0) dX9_init_185 rfl rfl ?_
  refine yy_get X (ref := "PictureBlock") (T := TX9) (k := 0) (j := 2) dX9_init_186 inX9_init_RX9 atC137_0 rfl (by decide) rfl (List.mem_of_getElem? (i := 10) rfl) rfl ?_
  show YY M _ G _ _ _ _ _ _ _ _ _ _ (.ref (G.2.1 2) :: _)
  refine yy_aload_n X (j := 0) dX9_init_189 rfl rfl ?_
  refine yy_get X (ref := "PictureBlock") (T := TX9) (k := 0) (j := 5) dX9_init_190 inX9_init_RX9 atC137_0 rfl (by decide) rfl (List.mem_of_getElem? (i := 19) rfl) rfl ?_
  show YY M _ G _ _ _ _ _ _ _ _ _ _ (.ref (G.2.1 47) :: _)
  refine yy_callI X (n := 2) (As := [.ref (G.2.1 2), .ref (G.2.1 47)]) (rest := [.ref (G.2.1 140), .ref (G.2.1 0)]) (mc := 56) (ms := 816) (cells' := 196) (slots' := 5838) dX9_init_193 (kIC11 (mL M) G b0 hb hT) rfl gX9_init_X7_init (List.mem_of_getElem? (i := 40) rfl) (List.mem_of_getElem? (i := 135) rfl) (List.mem_of_getElem? (i := 136) rfl) rfl hyiX7_init ⟨rfl, rfl⟩ ⟨Nat.le_of_ble_eq_true rfl, Nat.le_of_ble_eq_true rfl⟩ rfl rfl (Nat.le_of_ble_eq_true rfl) rfl rfl ⟨Nat.le_of_ble_eq_true rfl, Nat.le_of_ble_eq_true rfl⟩ ?_
  refine yy_putF X hin (ref := "PictureBlock") (T := TX9) (k := 0) (j := 12) (ty := tyX9 12) (sh' := hsC156) (σ' := sgC20) dX9_init_196 inX9_init_RX9 tyX9 tyX9_ok nmX9 atC155_0 rfl (by decide) (List.mem_of_getElem? (i := 41) rfl) rfl rfl rfl (tyX9_ok 12 (by decide)) rfl rfl (by decide) (by decide +kernel) (hSet_R (k2 := 140) atC155_0 rfl rfl rfl) ?_
  refine yy_aload_n X (j := 0) dX9_init_199 rfl rfl ?_
  refine yy_new X (C := RX0) (T := TX0) (N := 4) (ci := 0) (n := 197) (fl := [2, 2, 0, 0]) (sh' := hsC157) (cells' := 197) (slots' := 5842) dX9_init_200 inX9_init_RX0 tyX0 tyX0_ok rfl (List.mem_of_getElem? (i := 42) rfl) (List.mem_of_getElem? (i := 43) rfl) (List.mem_of_getElem? (i := 44) rfl) (by decide +kernel) (zrC20 _ (Nat.le_of_ble_eq_true rfl)).1 (zrC20 _ (Nat.le_of_ble_eq_true rfl)).2 (by decide +kernel) (by decide +kernel) rfl rfl rfl ⟨Nat.le_of_ble_eq_true rfl, Nat.le_of_ble_eq_true rfl⟩ ?_
  refine yy_dup X rfl dX9_init_203 ?_
  refine yy_aload_n X (j := 0) dX9_init_204 rfl rfl ?_
  refine yy_get X (ref := "PictureBlock") (T := TX9) (k := 0) (j := 2) dX9_init_205 inX9_init_RX9 atC157_0 rfl (by decide) rfl (List.mem_of_getElem? (i := 10) rfl) rfl ?_
  show YY M _ G _ _ _ _ _ _ _ _ _ _ (.ref (G.2.1 2) :: _)
  refine yy_callI X (n := 1) (As := [.ref (G.2.1 2)]) (rest := [.ref (G.2.1 197), .ref (G.2.1 0)]) (mc := 1) (ms := 378) (cells' := 198) (slots' := 6220) dX9_init_208 (kIC12 (mL M) G b0 hb hT) rfl gX9_init_X0_init (List.mem_of_getElem? (i := 44) rfl) (List.mem_of_getElem? (i := 153) rfl) (List.mem_of_getElem? (i := 154) rfl) rfl hyiX0_init ⟨rfl, rfl⟩ ⟨Nat.le_of_ble_eq_true rfl, Nat.le_of_ble_eq_true rfl⟩ rfl rfl (Nat.le_of_ble_eq_true rfl) rfl rfl ⟨Nat.le_of_ble_eq_true rfl, Nat.le_of_ble_eq_true rfl⟩ ?_
  refine yy_putF X hin (ref := "PictureBlock") (T := TX9) (k := 0) (j := 13) (ty := tyX9 13) (sh' := hsC161) (σ' := sgC22) dX9_init_211 inX9_init_RX9 tyX9 tyX9_ok nmX9 atC160_0 rfl (by decide) (List.mem_of_getElem? (i := 45) rfl) rfl rfl rfl (tyX9_ok 13 (by decide)) rfl rfl (by decide) (by decide +kernel) (hSet_R (k2 := 197) atC160_0 rfl rfl rfl) ?_
  refine yy_aload_n X (j := 0) dX9_init_214 rfl rfl ?_
  refine yy_bipush X (v := 60) dX9_init_215 (by decide) ?_
  refine yy_newa X (ki := 0) (t := 0) (N := 60) (n := 199) (atype := .int) (ty := .int) (sh' := hsC162) (cells' := 199) (slots' := 6280) dX9_init_217 rfl (fun C h => by cases h) rfl (List.mem_of_getElem? (i := 4) rfl) (by decide) (by decide) (Nat.le_of_ble_eq_true rfl) (by decide +kernel) (zrC22 _ (Nat.le_of_ble_eq_true rfl)).1 (zrC22 _ (Nat.le_of_ble_eq_true rfl)).2 (Or.inl ⟨rfl, rfl⟩) rfl rfl rfl ⟨Nat.le_of_ble_eq_true rfl, Nat.le_of_ble_eq_true rfl⟩ ?_
  refine yy_putF X hin (ref := "PictureBlock") (T := TX9) (k := 0) (j := 14) (ty := tyX9 14) (sh' := hsC163) (σ' := sgC22) dX9_init_219 inX9_init_RX9 tyX9 tyX9_ok nmX9 atC162_0 rfl (by decide) (List.mem_of_getElem? (i := 46) rfl) rfl rfl rfl (tyX9_ok 14 (by decide)) rfl rfl (by decide) (by decide +kernel) (hSet_R (k2 := 199) atC162_0 rfl rfl rfl) ?_
  refine yy_aload_n X (j := 0) dX9_init_222 rfl rfl ?_
  refine yy_iconst X (v := 0) dX9_init_223 (by decide) ?_
  refine yy_put X (ref := "PictureBlock") (T := TX9) (k := 0) (j := 15) (ty := tyX9 15) (sh' := hsC163) (σ' := sgC23) dX9_init_224 inX9_init_RX9 tyX9 tyX9_ok nmX9 atC163_0 rfl (by decide) (List.mem_of_getElem? (i := 47) rfl) rfl rfl (tyX9_ok 15 (by decide)) rfl rfl (by decide) rfl (hSet_I atC163_0 rfl 0) ?_
  refine yy_aload_n X (j := 0) dX9_init_227 rfl rfl ?_
  refine yy_iconst X (v := (-1)) dX9_init_228 (by decide) ?_
  refine yy_put X (ref := "PictureBlock") (T := TX9) (k := 0) (j := 16) (ty := tyX9 16) (sh' := hsC163) (σ' := sgC24) dX9_init_229 inX9_init_RX9 tyX9 tyX9_ok nmX9 atC163_0 rfl (by decide) (List.mem_of_getElem? (i := 48) rfl) rfl rfl (tyX9_ok 16 (by decide)) rfl rfl (by decide) rfl (hSet_I atC163_0 rfl (-1)) ?_
  exact yy_ret X dX9_init_232
theorem okIC : hsC163.all hOk = true := by decide +kernel
theorem cvIC : hsC163.map hConv = zC.1 := by decide +kernel
