/-! THE INVARIANT AT THE START; one call -/
theorem z1C_0 : sgC0.1 1 = s00.1 1 := rfl
theorem z1C_1 : sgC1.1 1 = s00.1 1 := (show (gsI sgC0 0 1 0).1 1 = sgC0.1 1 from gsI_row (by decide)).trans z1C_0
theorem z1C_2 : sgC2.1 1 = s00.1 1 := (show (gsI sgC1 46 2 0).1 1 = sgC1.1 1 from gsI_row (by decide)).trans z1C_1
theorem z1C_3 : sgC3.1 1 = s00.1 1 := (show (gsI sgC2 46 3 (-1)).1 1 = sgC2.1 1 from gsI_row (by decide)).trans z1C_2
theorem z1C_4 : sgC4.1 1 = s00.1 1 := (show (gsI sgC3 46 4 0).1 1 = sgC3.1 1 from gsI_row (by decide)).trans z1C_3
theorem z1C_5 : sgC5.1 1 = s00.1 1 := (show (gsI sgC4 46 5 0).1 1 = sgC4.1 1 from gsI_row (by decide)).trans z1C_4
theorem z1C_6 : sgC6.1 1 = s00.1 1 := (show (gsI sgC5 46 6 0).1 1 = sgC5.1 1 from gsI_row (by decide)).trans z1C_5
theorem z1C_7 : sgC7.1 1 = s00.1 1 := (show (gsI sgC6 46 7 0).1 1 = sgC6.1 1 from gsI_row (by decide)).trans z1C_6
theorem z1C_8 : sgC8.1 1 = s00.1 1 := (show (gsI sgC7 46 8 (-1)).1 1 = sgC7.1 1 from gsI_row (by decide)).trans z1C_7
theorem z1C_9 : sgC9.1 1 = s00.1 1 := (show (gsI sgC8 46 9 0).1 1 = sgC8.1 1 from gsI_row (by decide)).trans z1C_8
theorem z1C_10 : sgC10.1 1 = s00.1 1 := (show (gsI sgC9 46 10 (-1)).1 1 = sgC9.1 1 from gsI_row (by decide)).trans z1C_9
theorem z1C_11 : sgC11.1 1 = s00.1 1 := (show (gsI sgC10 46 11 0).1 1 = sgC10.1 1 from gsI_row (by decide)).trans z1C_10
theorem z1C_12 : sgC12.1 1 = s00.1 1 := (show (gsI sgC11 46 12 0).1 1 = sgC11.1 1 from gsI_row (by decide)).trans z1C_11
theorem z1C_13 : sgC13.1 1 = s00.1 1 := (show (gsI sgC12 46 13 0).1 1 = sgC12.1 1 from gsI_row (by decide)).trans z1C_12
theorem z1C_14 : sgC14.1 1 = s00.1 1 := (show (gsI sgC13 47 1 3).1 1 = sgC13.1 1 from gsI_row (by decide)).trans z1C_13
theorem z1C_15 : sgC15.1 1 = s00.1 1 := (show (gsI sgC14 59 1 3).1 1 = sgC14.1 1 from gsI_row (by decide)).trans z1C_14
theorem z1C_16 : sgC16.1 1 = s00.1 1 := (show (gsI sgC15 71 1 3).1 1 = sgC15.1 1 from gsI_row (by decide)).trans z1C_15
theorem z1C_17 : sgC17.1 1 = s00.1 1 := (show (gsI sgC16 96 4 0).1 1 = sgC16.1 1 from gsI_row (by decide)).trans z1C_16
theorem z1C_18 : sgC18.1 1 = s00.1 1 := (show (gsI sgC17 140 10 0).1 1 = sgC17.1 1 from gsI_row (by decide)).trans z1C_17
theorem z1C_19 : sgC19.1 1 = s00.1 1 := (show (gsI sgC18 140 11 (-1)).1 1 = sgC18.1 1 from gsI_row (by decide)).trans z1C_18
theorem z1C_20 : sgC20.1 1 = s00.1 1 := (show (gsI sgC19 140 12 (-1)).1 1 = sgC19.1 1 from gsI_row (by decide)).trans z1C_19
theorem z1C_21 : sgC21.1 1 = s00.1 1 := (show (gsI sgC20 197 2 0).1 1 = sgC20.1 1 from gsI_row (by decide)).trans z1C_20
theorem z1C_22 : sgC22.1 1 = s00.1 1 := (show (gsI sgC21 197 3 0).1 1 = sgC21.1 1 from gsI_row (by decide)).trans z1C_21
theorem z1C_23 : sgC23.1 1 = s00.1 1 := (show (gsI sgC22 0 15 0).1 1 = sgC22.1 1 from gsI_row (by decide)).trans z1C_22
theorem z1C_24 : sgC24.1 1 = s00.1 1 := (show (gsI sgC23 0 16 (-1)).1 1 = sgC23.1 1 from gsI_row (by decide)).trans z1C_23
theorem z1M_0 : sgM0.1 1 = s00.1 1 := rfl
theorem z1M_1 : sgM1.1 1 = s00.1 1 := (show (gsI sgM0 0 8 (-1)).1 1 = sgM0.1 1 from gsI_row (by decide)).trans z1M_0
theorem z1M_2 : sgM2.1 1 = s00.1 1 := (show (gsI sgM1 2 0 115).1 1 = sgM1.1 1 from gsI_row (by decide)).trans z1M_1
theorem z1M_3 : sgM3.1 1 = s00.1 1 := (show (gsI sgM2 2 1 116).1 1 = sgM2.1 1 from gsI_row (by decide)).trans z1M_2
theorem z1M_4 : sgM4.1 1 = s00.1 1 := (show (gsI sgM3 2 2 114).1 1 = sgM3.1 1 from gsI_row (by decide)).trans z1M_3
theorem z1M_5 : sgM5.1 1 = s00.1 1 := (show (gsI sgM4 2 3 105).1 1 = sgM4.1 1 from gsI_row (by decide)).trans z1M_4
theorem z1M_6 : sgM6.1 1 = s00.1 1 := (show (gsI sgM5 2 4 112).1 1 = sgM5.1 1 from gsI_row (by decide)).trans z1M_5
theorem z1M_7 : sgM7.1 1 = s00.1 1 := (show (gsI sgM6 3 0 112).1 1 = sgM6.1 1 from gsI_row (by decide)).trans z1M_6
theorem z1M_8 : sgM8.1 1 = s00.1 1 := (show (gsI sgM7 3 1 105).1 1 = sgM7.1 1 from gsI_row (by decide)).trans z1M_7
theorem z1M_9 : sgM9.1 1 = s00.1 1 := (show (gsI sgM8 3 2 99).1 1 = sgM8.1 1 from gsI_row (by decide)).trans z1M_8
theorem z1M_10 : sgM10.1 1 = s00.1 1 := (show (gsI sgM9 3 3 116).1 1 = sgM9.1 1 from gsI_row (by decide)).trans z1M_9
theorem z1M_11 : sgM11.1 1 = s00.1 1 := (show (gsI sgM10 3 4 117).1 1 = sgM10.1 1 from gsI_row (by decide)).trans z1M_10
theorem z1M_12 : sgM12.1 1 = s00.1 1 := (show (gsI sgM11 3 5 114).1 1 = sgM11.1 1 from gsI_row (by decide)).trans z1M_11
theorem z1M_13 : sgM13.1 1 = s00.1 1 := (show (gsI sgM12 3 6 101).1 1 = sgM12.1 1 from gsI_row (by decide)).trans z1M_12
theorem z1M_14 : sgM14.1 1 = s00.1 1 := (show (gsI sgM13 4 0 105).1 1 = sgM13.1 1 from gsI_row (by decide)).trans z1M_13
theorem z1M_15 : sgM15.1 1 = s00.1 1 := (show (gsI sgM14 4 1 110).1 1 = sgM14.1 1 from gsI_row (by decide)).trans z1M_14
theorem z1M_16 : sgM16.1 1 = s00.1 1 := (show (gsI sgM15 5 0 116).1 1 = sgM15.1 1 from gsI_row (by decide)).trans z1M_15
theorem z1M_17 : sgM17.1 1 = s00.1 1 := (show (gsI sgM16 5 1 117).1 1 = sgM16.1 1 from gsI_row (by decide)).trans z1M_16
theorem z1M_18 : sgM18.1 1 = s00.1 1 := (show (gsI sgM17 5 2 114).1 1 = sgM17.1 1 from gsI_row (by decide)).trans z1M_17
theorem z1M_19 : sgM19.1 1 = s00.1 1 := (show (gsI sgM18 5 3 110).1 1 = sgM18.1 1 from gsI_row (by decide)).trans z1M_18
theorem z1M_20 : sgM20.1 1 = s00.1 1 := (show (gsI sgM19 6 0 97).1 1 = sgM19.1 1 from gsI_row (by decide)).trans z1M_19
theorem z1M_21 : sgM21.1 1 = s00.1 1 := (show (gsI sgM20 6 1 110).1 1 = sgM20.1 1 from gsI_row (by decide)).trans z1M_20
theorem z1M_22 : sgM22.1 1 = s00.1 1 := (show (gsI sgM21 6 2 121).1 1 = sgM21.1 1 from gsI_row (by decide)).trans z1M_21
theorem z1M_23 : sgM23.1 1 = s00.1 1 := (show (gsI sgM22 7 0 112).1 1 = sgM22.1 1 from gsI_row (by decide)).trans z1M_22
theorem z1M_24 : sgM24.1 1 = s00.1 1 := (show (gsI sgM23 7 1 111).1 1 = sgM23.1 1 from gsI_row (by decide)).trans z1M_23
theorem z1M_25 : sgM25.1 1 = s00.1 1 := (show (gsI sgM24 7 2 105).1 1 = sgM24.1 1 from gsI_row (by decide)).trans z1M_24
theorem z1M_26 : sgM26.1 1 = s00.1 1 := (show (gsI sgM25 7 3 110).1 1 = sgM25.1 1 from gsI_row (by decide)).trans z1M_25
theorem z1M_27 : sgM27.1 1 = s00.1 1 := (show (gsI sgM26 7 4 116).1 1 = sgM26.1 1 from gsI_row (by decide)).trans z1M_26
theorem z1M_28 : sgM28.1 1 = s00.1 1 := (show (gsI sgM27 8 0 114).1 1 = sgM27.1 1 from gsI_row (by decide)).trans z1M_27
theorem z1M_29 : sgM29.1 1 = s00.1 1 := (show (gsI sgM28 8 1 111).1 1 = sgM28.1 1 from gsI_row (by decide)).trans z1M_28
theorem z1M_30 : sgM30.1 1 = s00.1 1 := (show (gsI sgM29 8 2 119).1 1 = sgM29.1 1 from gsI_row (by decide)).trans z1M_29
theorem z1M_31 : sgM31.1 1 = s00.1 1 := (show (gsI sgM30 9 0 97).1 1 = sgM30.1 1 from gsI_row (by decide)).trans z1M_30
theorem z1M_32 : sgM32.1 1 = s00.1 1 := (show (gsI sgM31 9 1 116).1 1 = sgM31.1 1 from gsI_row (by decide)).trans z1M_31
theorem z1M_33 : sgM33.1 1 = s00.1 1 := (show (gsI sgM32 10 0 119).1 1 = sgM32.1 1 from gsI_row (by decide)).trans z1M_32
theorem z1M_34 : sgM34.1 1 = s00.1 1 := (show (gsI sgM33 10 1 101).1 1 = sgM33.1 1 from gsI_row (by decide)).trans z1M_33
theorem z1M_35 : sgM35.1 1 = s00.1 1 := (show (gsI sgM34 10 2 105).1 1 = sgM34.1 1 from gsI_row (by decide)).trans z1M_34
theorem z1M_36 : sgM36.1 1 = s00.1 1 := (show (gsI sgM35 10 3 103).1 1 = sgM35.1 1 from gsI_row (by decide)).trans z1M_35
theorem z1M_37 : sgM37.1 1 = s00.1 1 := (show (gsI sgM36 10 4 104).1 1 = sgM36.1 1 from gsI_row (by decide)).trans z1M_36
theorem z1M_38 : sgM38.1 1 = s00.1 1 := (show (gsI sgM37 10 5 116).1 1 = sgM37.1 1 from gsI_row (by decide)).trans z1M_37
theorem z1M_39 : sgM39.1 1 = s00.1 1 := (show (gsI sgM38 11 0 99).1 1 = sgM38.1 1 from gsI_row (by decide)).trans z1M_38
theorem z1M_40 : sgM40.1 1 = s00.1 1 := (show (gsI sgM39 11 1 111).1 1 = sgM39.1 1 from gsI_row (by decide)).trans z1M_39
theorem z1M_41 : sgM41.1 1 = s00.1 1 := (show (gsI sgM40 11 2 110).1 1 = sgM40.1 1 from gsI_row (by decide)).trans z1M_40
theorem z1M_42 : sgM42.1 1 = s00.1 1 := (show (gsI sgM41 11 3 116).1 1 = sgM41.1 1 from gsI_row (by decide)).trans z1M_41
theorem z1M_43 : sgM43.1 1 = s00.1 1 := (show (gsI sgM42 11 4 114).1 1 = sgM42.1 1 from gsI_row (by decide)).trans z1M_42
theorem z1M_44 : sgM44.1 1 = s00.1 1 := (show (gsI sgM43 11 5 111).1 1 = sgM43.1 1 from gsI_row (by decide)).trans z1M_43
theorem z1M_45 : sgM45.1 1 = s00.1 1 := (show (gsI sgM44 11 6 108).1 1 = sgM44.1 1 from gsI_row (by decide)).trans z1M_44
theorem z1M_46 : sgM46.1 1 = s00.1 1 := (show (gsI sgM45 12 0 115).1 1 = sgM45.1 1 from gsI_row (by decide)).trans z1M_45
theorem z1M_47 : sgM47.1 1 = s00.1 1 := (show (gsI sgM46 12 1 101).1 1 = sgM46.1 1 from gsI_row (by decide)).trans z1M_46
theorem z1M_48 : sgM48.1 1 = s00.1 1 := (show (gsI sgM47 12 2 116).1 1 = sgM47.1 1 from gsI_row (by decide)).trans z1M_47
theorem z1M_49 : sgM49.1 1 = s00.1 1 := (show (gsI sgM48 13 0 99).1 1 = sgM48.1 1 from gsI_row (by decide)).trans z1M_48
theorem z1M_50 : sgM50.1 1 = s00.1 1 := (show (gsI sgM49 13 1 101).1 1 = sgM49.1 1 from gsI_row (by decide)).trans z1M_49
theorem z1M_51 : sgM51.1 1 = s00.1 1 := (show (gsI sgM50 13 2 110).1 1 = sgM50.1 1 from gsI_row (by decide)).trans z1M_50
theorem z1M_52 : sgM52.1 1 = s00.1 1 := (show (gsI sgM51 13 3 116).1 1 = sgM51.1 1 from gsI_row (by decide)).trans z1M_51
theorem z1M_53 : sgM53.1 1 = s00.1 1 := (show (gsI sgM52 13 4 114).1 1 = sgM52.1 1 from gsI_row (by decide)).trans z1M_52
theorem z1M_54 : sgM54.1 1 = s00.1 1 := (show (gsI sgM53 13 5 101).1 1 = sgM53.1 1 from gsI_row (by decide)).trans z1M_53
theorem z1M_55 : sgM55.1 1 = s00.1 1 := (show (gsI sgM54 0 36 3).1 1 = sgM54.1 1 from gsI_row (by decide)).trans z1M_54
theorem iv_t1 : s0M.1 1 = s0C.1 1 := (show sgM55.1 1 = s00.1 1 from z1M_55).trans (show sgC24.1 1 = s00.1 1 from z1C_24).symm
theorem iv_z : (s0M.1 15 6).toInt = 0 ∧ (s0M.1 15 7).toInt = 0 ∧ (s0M.1 15 8).toInt = 0 ∧ (s0M.1 15 9).toInt = 0 := by decide +kernel
theorem iv_w : WM s0M := by
  unfold WM
  decide +kernel
theorem iv_0 : IV s0C s0M := by
  obtain ⟨z6, z7, z8, z9⟩ := iv_z
  refine ⟨j_C0, j_M0, iv_w, iv_t1, by decide +kernel, by decide +kernel, by decide +kernel, by decide +kernel, fun K i hK hi => ?_, fun p hp => ?_, fun p hp => ?_, fun p hp => ?_⟩
  · have hj : K = 0 ∨ K = 1 ∨ K = 2 := by omega
    rcases hj with rfl | rfl | rfl
    · have : (s0M.1 15 (6 + 0)).toInt = 0 := z6
      omega
    · have : (s0M.1 15 (6 + 1)).toInt = 0 := z7
      omega
    · have : (s0M.1 15 (6 + 2)).toInt = 0 := z8
      omega
  · omega
  · omega
  · omega
theorem ig_s : s0C.1 47 1 = s0M.1 0 36 ∧ (0 ≤ (s0M.1 0 36).toInt ∧ (s0M.1 0 36).toInt ≤ 3) := by decide +kernel
theorem ig_0 : IG s0C s0M := by
  obtain ⟨z6, z7, z8, z9⟩ := iv_z
  refine ⟨iv_0, ig_s.1, ig_s.2, fun p hp => ?_, fun a p _ hp => ?_, fun a p _ hp => ?_, fun a p _ hp => ?_, fun p hp => ?_, fun p hp => ?_⟩ <;> omega
theorem ig_d {x : Int32} : (if x = 0 then (0 : Int32) else 1) = 0 ∨ (if x = 0 then (0 : Int32) else 1) = 1 := by
  by_cases h : x = 0
  · rw [if_pos h]; exact .inl rfl
  · rw [if_neg h]; exact .inr rfl
theorem ig_e {α β : Type} {A B : α → β → Prop} {f : α → Prop} {g : β → Prop} (h : ∃ (oc : α) (om : β), f oc ∧ g om ∧ A oc om ∧ B oc om) : ∃ (oc : α) (om : β), f oc ∧ g om ∧ B oc om := by
  obtain ⟨a, b, h1, h2, -, h3⟩ := h
  exact ⟨a, b, h1, h2, h3⟩
theorem ig_all {σC σM : gS} (h : IG σC σM) (o x1 x2 x3 x4 x5 : Int32) : lOK IG o x1 x2 x3 x4 x5 σC σM :=
  ⟨fun _ => e_0 h _ _ _ _ _, fun _ => e_1 h _, fun _ => e_2 h, fun _ => e_3 h _, fun _ => e_4 h _, fun _ => e_5 h _ _ _, fun _ => e_6 h _ _, fun _ => e_7 h _ _, fun _ => ig_e (a_8 h _ _), fun _ => e_9 h _ _, fun _ => a_10 h, fun _ => ig_e (a_11 h _), fun _ => e_12 h, fun _ => e_13 h _ _ _, fun _ => e_14 h _, fun _ => e_15 h, fun _ => e_16 h _ _, fun _ => ig_e (a_17 h), fun _ => ig_e (a_18 h _), fun _ => e_19 h _, fun _ => e_20 h, fun _ => ig_e (a_21 h _ _ ig_d), fun _ => ig_e (a_22 h _), fun _ => e_23 h _ _ _, fun _ => e_24 h _ _ _ _, fun _ => e_25 h _, fun _ => e_26 h _, fun _ => e_27 h _, fun _ => ig_e (a_28 h _ _), fun _ => e_29 h _ _ _ _, fun _ => e_30 h _ _ _, fun _ => e_31 h _ _ _, fun _ => e_32 h, fun _ => e_33 h _, fun _ => e_34 h, fun _ => h⟩
