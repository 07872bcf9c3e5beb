/-! behind the constructors: the tables hold -/
theorem w9_getD0 (l : List (Int × Int)) (h : ∀ q ∈ l, q.1 ≤ 0 ∧ 0 ≤ q.2) (i : Nat) : (l.getD i (-2147483648, 2147483647)).1 ≤ (0 : Int32).toInt ∧ (0 : Int32).toInt ≤ (l.getD i (-2147483648, 2147483647)).2 := by
  have h0 : (0 : Int32).toInt = 0 := by decide
  rw [h0]
  unfold List.getD
  cases h1 : l[i]? with
  | none => show (-2147483648 : Int) ≤ 0 ∧ (0 : Int) ≤ 2147483647; decide
  | some q => show q.1 ≤ 0 ∧ 0 ≤ q.2; exact h q (List.mem_of_getElem? h1)
set_option maxHeartbeats 1000000 in
theorem jC_0 : JC sgC0 := fun k i => by
  show (kbC k i).1 ≤ (0 : Int32).toInt ∧ (0 : Int32).toInt ≤ (kbC k i).2
  unfold kbC
  split <;> first | exact w9_getD0 _ (by decide) _ | decide
theorem jC_1 : JC sgC1 := JC_w jC_0 (by decide +kernel) (by decide +kernel)
theorem jC_2 : JC sgC2 := JC_w jC_1 (by decide +kernel) (by decide +kernel)
theorem jC_3 : JC sgC3 := JC_w jC_2 (by decide +kernel) (by decide +kernel)
theorem jC_4 : JC sgC4 := JC_w jC_3 (by decide +kernel) (by decide +kernel)
theorem jC_5 : JC sgC5 := JC_w jC_4 (by decide +kernel) (by decide +kernel)
theorem jC_6 : JC sgC6 := JC_w jC_5 (by decide +kernel) (by decide +kernel)
theorem jC_7 : JC sgC7 := JC_w jC_6 (by decide +kernel) (by decide +kernel)
theorem jC_8 : JC sgC8 := JC_w jC_7 (by decide +kernel) (by decide +kernel)
theorem jC_9 : JC sgC9 := JC_w jC_8 (by decide +kernel) (by decide +kernel)
theorem jC_10 : JC sgC10 := JC_w jC_9 (by decide +kernel) (by decide +kernel)
theorem jC_11 : JC sgC11 := JC_w jC_10 (by decide +kernel) (by decide +kernel)
theorem jC_12 : JC sgC12 := JC_w jC_11 (by decide +kernel) (by decide +kernel)
theorem jC_13 : JC sgC13 := JC_w jC_12 (by decide +kernel) (by decide +kernel)
theorem jC_14 : JC sgC14 := JC_w jC_13 (by decide +kernel) (by decide +kernel)
theorem jC_15 : JC sgC15 := JC_w jC_14 (by decide +kernel) (by decide +kernel)
theorem jC_16 : JC sgC16 := JC_w jC_15 (by decide +kernel) (by decide +kernel)
theorem jC_17 : JC sgC17 := JC_w jC_16 (by decide +kernel) (by decide +kernel)
theorem jC_18 : JC sgC18 := JC_w jC_17 (by decide +kernel) (by decide +kernel)
theorem jC_19 : JC sgC19 := JC_w jC_18 (by decide +kernel) (by decide +kernel)
theorem jC_20 : JC sgC20 := JC_w jC_19 (by decide +kernel) (by decide +kernel)
theorem jC_21 : JC sgC21 := JC_w jC_20 (by decide +kernel) (by decide +kernel)
theorem jC_22 : JC sgC22 := JC_w jC_21 (by decide +kernel) (by decide +kernel)
theorem jC_23 : JC sgC23 := JC_w jC_22 (by decide +kernel) (by decide +kernel)
theorem jC_24 : JC sgC24 := JC_w jC_23 (by decide +kernel) (by decide +kernel)
set_option maxHeartbeats 1000000 in
theorem jM_0 : JM sgM0 := fun k i => by
  show (kbM k i).1 ≤ (0 : Int32).toInt ∧ (0 : Int32).toInt ≤ (kbM k i).2
  unfold kbM
  split <;> first | exact w9_getD0 _ (by decide) _ | decide
theorem jM_1 : JM sgM1 := JM_w jM_0 (by decide +kernel) (by decide +kernel)
theorem jM_2 : JM sgM2 := JM_w jM_1 (by decide +kernel) (by decide +kernel)
theorem jM_3 : JM sgM3 := JM_w jM_2 (by decide +kernel) (by decide +kernel)
theorem jM_4 : JM sgM4 := JM_w jM_3 (by decide +kernel) (by decide +kernel)
theorem jM_5 : JM sgM5 := JM_w jM_4 (by decide +kernel) (by decide +kernel)
theorem jM_6 : JM sgM6 := JM_w jM_5 (by decide +kernel) (by decide +kernel)
theorem jM_7 : JM sgM7 := JM_w jM_6 (by decide +kernel) (by decide +kernel)
theorem jM_8 : JM sgM8 := JM_w jM_7 (by decide +kernel) (by decide +kernel)
theorem jM_9 : JM sgM9 := JM_w jM_8 (by decide +kernel) (by decide +kernel)
theorem jM_10 : JM sgM10 := JM_w jM_9 (by decide +kernel) (by decide +kernel)
theorem jM_11 : JM sgM11 := JM_w jM_10 (by decide +kernel) (by decide +kernel)
theorem jM_12 : JM sgM12 := JM_w jM_11 (by decide +kernel) (by decide +kernel)
theorem jM_13 : JM sgM13 := JM_w jM_12 (by decide +kernel) (by decide +kernel)
theorem jM_14 : JM sgM14 := JM_w jM_13 (by decide +kernel) (by decide +kernel)
theorem jM_15 : JM sgM15 := JM_w jM_14 (by decide +kernel) (by decide +kernel)
theorem jM_16 : JM sgM16 := JM_w jM_15 (by decide +kernel) (by decide +kernel)
theorem jM_17 : JM sgM17 := JM_w jM_16 (by decide +kernel) (by decide +kernel)
theorem jM_18 : JM sgM18 := JM_w jM_17 (by decide +kernel) (by decide +kernel)
theorem jM_19 : JM sgM19 := JM_w jM_18 (by decide +kernel) (by decide +kernel)
theorem jM_20 : JM sgM20 := JM_w jM_19 (by decide +kernel) (by decide +kernel)
theorem jM_21 : JM sgM21 := JM_w jM_20 (by decide +kernel) (by decide +kernel)
theorem jM_22 : JM sgM22 := JM_w jM_21 (by decide +kernel) (by decide +kernel)
theorem jM_23 : JM sgM23 := JM_w jM_22 (by decide +kernel) (by decide +kernel)
theorem jM_24 : JM sgM24 := JM_w jM_23 (by decide +kernel) (by decide +kernel)
theorem jM_25 : JM sgM25 := JM_w jM_24 (by decide +kernel) (by decide +kernel)
theorem jM_26 : JM sgM26 := JM_w jM_25 (by decide +kernel) (by decide +kernel)
theorem jM_27 : JM sgM27 := JM_w jM_26 (by decide +kernel) (by decide +kernel)
theorem jM_28 : JM sgM28 := JM_w jM_27 (by decide +kernel) (by decide +kernel)
theorem jM_29 : JM sgM29 := JM_w jM_28 (by decide +kernel) (by decide +kernel)
theorem jM_30 : JM sgM30 := JM_w jM_29 (by decide +kernel) (by decide +kernel)
theorem jM_31 : JM sgM31 := JM_w jM_30 (by decide +kernel) (by decide +kernel)
theorem jM_32 : JM sgM32 := JM_w jM_31 (by decide +kernel) (by decide +kernel)
theorem jM_33 : JM sgM33 := JM_w jM_32 (by decide +kernel) (by decide +kernel)
theorem jM_34 : JM sgM34 := JM_w jM_33 (by decide +kernel) (by decide +kernel)
theorem jM_35 : JM sgM35 := JM_w jM_34 (by decide +kernel) (by decide +kernel)
theorem jM_36 : JM sgM36 := JM_w jM_35 (by decide +kernel) (by decide +kernel)
theorem jM_37 : JM sgM37 := JM_w jM_36 (by decide +kernel) (by decide +kernel)
theorem jM_38 : JM sgM38 := JM_w jM_37 (by decide +kernel) (by decide +kernel)
theorem jM_39 : JM sgM39 := JM_w jM_38 (by decide +kernel) (by decide +kernel)
theorem jM_40 : JM sgM40 := JM_w jM_39 (by decide +kernel) (by decide +kernel)
theorem jM_41 : JM sgM41 := JM_w jM_40 (by decide +kernel) (by decide +kernel)
theorem jM_42 : JM sgM42 := JM_w jM_41 (by decide +kernel) (by decide +kernel)
theorem jM_43 : JM sgM43 := JM_w jM_42 (by decide +kernel) (by decide +kernel)
theorem jM_44 : JM sgM44 := JM_w jM_43 (by decide +kernel) (by decide +kernel)
theorem jM_45 : JM sgM45 := JM_w jM_44 (by decide +kernel) (by decide +kernel)
theorem jM_46 : JM sgM46 := JM_w jM_45 (by decide +kernel) (by decide +kernel)
theorem jM_47 : JM sgM47 := JM_w jM_46 (by decide +kernel) (by decide +kernel)
theorem jM_48 : JM sgM48 := JM_w jM_47 (by decide +kernel) (by decide +kernel)
theorem jM_49 : JM sgM49 := JM_w jM_48 (by decide +kernel) (by decide +kernel)
theorem jM_50 : JM sgM50 := JM_w jM_49 (by decide +kernel) (by decide +kernel)
theorem jM_51 : JM sgM51 := JM_w jM_50 (by decide +kernel) (by decide +kernel)
theorem jM_52 : JM sgM52 := JM_w jM_51 (by decide +kernel) (by decide +kernel)
theorem jM_53 : JM sgM53 := JM_w jM_52 (by decide +kernel) (by decide +kernel)
theorem jM_54 : JM sgM54 := JM_w jM_53 (by decide +kernel) (by decide +kernel)
theorem jM_55 : JM sgM55 := JM_w jM_54 (by decide +kernel) (by decide +kernel)
theorem j_C0 : JC s0C := jC_24
theorem j_M0 : JM s0M := jM_55
theorem j_R0 : RM s0M := by
  have a : (s0M.1 15 9).toInt = 0 := by decide +kernel
  have b : (s0M.1 15 7).toInt = 0 := by decide +kernel
  have c : (s0M.1 15 8).toInt = 0 := by decide +kernel
  unfold RM
  rw [a, b]
  refine ⟨fun r h => ?_, fun p h => ?_⟩ <;> exact absurd h (by omega)
theorem j_T0 : s0C.1 0 1 = s0M.1 0 1 := by decide +kernel
