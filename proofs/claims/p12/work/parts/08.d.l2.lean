/-! the law's loop: with an invariant that every call keeps, it comes to its end -/
set_option maxRecDepth 100000 in
set_option maxHeartbeats 4000000 in
theorem l_loop {M : gM} {Q : State → Prop} {GC GM : gG} {ex : gEx} {b0 b L ce sl : Nat} {xs : Nat → Int32} (X : lX M GC GM ex b0 b L xs ce sl) (Inv : Nat → gS → gS → Prop)
    (hstep : ∀ (k : Nat) (σC σM : gS) (x0 x1 x2 x3 x4 x5 : Int32), 6 * k + 6 ≤ L → Inv k σC σM → lOK (Inv (k + 1)) (x0 &&& 63) x1 x2 x3 x4 x5 σC σM)
    (hend : ∀ (i : Int32) (σC σM : gS), LL M Q GC GM b0 ce sl σC σM 1235 [(3, .int i), (2, .ref (GM.2.1 0)), (1, .ref (GC.2.1 0)), (0, .ref b)] []) :
    ∀ (n k : Nat) (i : Int32) (σC σM : gS), i.toInt = 6 * (k : Int) → L < 6 * k + 6 * n → Inv k σC σM → LL M Q GC GM b0 ce sl σC σM 18 [(3, .int i), (2, .ref (GM.2.1 0)), (1, .ref (GC.2.1 0)), (0, .ref b)] [] := by
  intro n
  induction n with
  | zero =>
    intro k i σC σM hi hn hI
    have hL := X.2.2.2.2.2.2.2.1
    refine ll_iload_n X (j := 0) dL_law_18 rfl rfl ?_
    refine ll_aload_n X (j := 3) dL_law_19 rfl rfl ?_
    refine ll_slen X dL_law_20 ?_
    refine ll_bipush X (v := 6) dL_law_21 (by decide) ?_
    refine ll_isub X dL_law_23 ?_
    refine ll_icmp_gt X (tgt := 1235) dL_law_24 (by decide) (fun _ => hend i σC σM) (fun h => ?_)
    exfalso
    apply h
    rw [Int32.lt_iff_toInt_lt, l_sub6 hL, hi]
    omega
  | succ n ih =>
    intro k i σC σM hi hn hI
    have hL := X.2.2.2.2.2.2.2.1
    refine ll_iload_n X (j := 0) dL_law_18 rfl rfl ?_
    refine ll_aload_n X (j := 3) dL_law_19 rfl rfl ?_
    refine ll_slen X dL_law_20 ?_
    refine ll_bipush X (v := 6) dL_law_21 (by decide) ?_
    refine ll_isub X dL_law_23 ?_
    refine ll_icmp_gt X (tgt := 1235) dL_law_24 (by decide) (fun _ => hend i σC σM) (fun h => ?_)
    have h1 : i.toInt + 6 ≤ L := by
      have h2 := h
      rw [Int32.lt_iff_toInt_lt, l_sub6 hL] at h2
      omega
    have h0 : 0 ≤ i.toInt := by omega
    have next : ∀ (τC τM : gS), Inv (k + 1) τC τM → LL M Q GC GM b0 ce sl τC τM 1229 [(3, .int i), (2, .ref (GM.2.1 0)), (1, .ref (GC.2.1 0)), (0, .ref b)] [] := by
      intro τC τM hI'
      refine ll_iinc X (j := 0) (v := 6) dL_law_1229 rfl (by decide) (by decide) rfl ?_
      refine ll_goto X (tgt := 18) dL_law_1232 (by decide) ?_
      refine ih (k + 1) (i + 6) τC τM ?_ (by omega) hI'
      rw [l_add6 (by omega), hi]
      omega
    refine ll_aload_n X (j := 3) dL_law_27 rfl rfl ?_
    refine ll_iload_n X (j := 0) dL_law_28 rfl rfl ?_
    refine ll_sld X (l_in0 h0 h1) dL_law_29 ?_
    refine ll_bipush X (v := 63) dL_law_30 (by decide) ?_
    refine ll_iand X dL_law_32 ?_
    have hs := hstep k σC σM (xs i.toNatClampNeg) (xs (i + 1).toNatClampNeg) (xs (i + 2).toNatClampNeg) (xs (i + 3).toNatClampNeg) (xs (i + 4).toNatClampNeg) (xs (i + 5).toNatClampNeg) (by omega) hI
    generalize xs i.toNatClampNeg &&& 63 = o at hs ⊢
    unfold lOK at hs
    have hc : o.toInt = 0 ∨ o.toInt = 1 ∨ o.toInt = 2 ∨ o.toInt = 3 ∨ o.toInt = 4 ∨ o.toInt = 5 ∨ o.toInt = 6 ∨ o.toInt = 7 ∨ o.toInt = 8 ∨ o.toInt = 9 ∨ o.toInt = 10 ∨ o.toInt = 11 ∨ o.toInt = 12 ∨ o.toInt = 13 ∨ o.toInt = 14 ∨ o.toInt = 15 ∨ o.toInt = 16 ∨ o.toInt = 17 ∨ o.toInt = 18 ∨ o.toInt = 19 ∨ o.toInt = 20 ∨ o.toInt = 21 ∨ o.toInt = 22 ∨ o.toInt = 23 ∨ o.toInt = 24 ∨ o.toInt = 25 ∨ o.toInt = 26 ∨ o.toInt = 27 ∨ o.toInt = 28 ∨ o.toInt = 29 ∨ o.toInt = 30 ∨ o.toInt = 31 ∨ o.toInt = 32 ∨ o.toInt = 33 ∨ o.toInt = 34 ∨ (o.toInt < 0 ∨ 34 < o.toInt) := by omega
    rcases hc with h9 | h9 | h9 | h9 | h9 | h9 | h9 | h9 | h9 | h9 | h9 | h9 | h9 | h9 | h9 | h9 | h9 | h9 | h9 | h9 | h9 | h9 | h9 | h9 | h9 | h9 | h9 | h9 | h9 | h9 | h9 | h9 | h9 | h9 | h9 | h9
    · refine ll_tin X (off := 155) (tgt := 188) dL_law_33 (by rw [h9]; decide) (by rw [h9]; decide) (by rw [h9]; rfl) (by decide) ?_
      obtain ⟨oc, om, hC, hM, hP⟩ := hs.1 (l_val h9 (by decide))
      exact lk_0 X h0 h1 hC hM (next _ _ hP)
    · refine ll_tin X (off := 218) (tgt := 251) dL_law_33 (by rw [h9]; decide) (by rw [h9]; decide) (by rw [h9]; rfl) (by decide) ?_
      obtain ⟨oc, om, hC, hM, hP⟩ := hs.2.1 (l_val h9 (by decide))
      exact lk_1 X h0 h1 hC hM (next _ _ hP)
    · refine ll_tin X (off := 241) (tgt := 274) dL_law_33 (by rw [h9]; decide) (by rw [h9]; decide) (by rw [h9]; rfl) (by decide) ?_
      obtain ⟨oc, om, hC, hM, hP⟩ := hs.2.2.1 (l_val h9 (by decide))
      exact lk_2 X h0 h1 hC hM (next _ _ hP)
    · refine ll_tin X (off := 254) (tgt := 287) dL_law_33 (by rw [h9]; decide) (by rw [h9]; decide) (by rw [h9]; rfl) (by decide) ?_
      obtain ⟨oc, om, hC, hM, hP⟩ := hs.2.2.2.1 (l_val h9 (by decide))
      exact lk_3 X h0 h1 hC hM (next _ _ hP)
    · refine ll_tin X (off := 277) (tgt := 310) dL_law_33 (by rw [h9]; decide) (by rw [h9]; decide) (by rw [h9]; rfl) (by decide) ?_
      obtain ⟨oc, om, hC, hM, hP⟩ := hs.2.2.2.2.1 (l_val h9 (by decide))
      exact lk_4 X h0 h1 hC hM (next _ _ hP)
    · refine ll_tin X (off := 300) (tgt := 333) dL_law_33 (by rw [h9]; decide) (by rw [h9]; decide) (by rw [h9]; rfl) (by decide) ?_
      obtain ⟨oc, om, hC, hM, hP⟩ := hs.2.2.2.2.2.1 (l_val h9 (by decide))
      exact lk_5 X h0 h1 hC hM (next _ _ hP)
    · refine ll_tin X (off := 343) (tgt := 376) dL_law_33 (by rw [h9]; decide) (by rw [h9]; decide) (by rw [h9]; rfl) (by decide) ?_
      obtain ⟨oc, om, hC, hM, hP⟩ := hs.2.2.2.2.2.2.1 (l_val h9 (by decide))
      exact lk_6 X h0 h1 hC hM (next _ _ hP)
    · refine ll_tin X (off := 376) (tgt := 409) dL_law_33 (by rw [h9]; decide) (by rw [h9]; decide) (by rw [h9]; rfl) (by decide) ?_
      obtain ⟨oc, om, hC, hM, hP⟩ := hs.2.2.2.2.2.2.2.1 (l_val h9 (by decide))
      exact lk_7 X h0 h1 hC hM (next _ _ hP)
    · refine ll_tin X (off := 409) (tgt := 442) dL_law_33 (by rw [h9]; decide) (by rw [h9]; decide) (by rw [h9]; rfl) (by decide) ?_
      obtain ⟨oc, om, hC, hM, hP⟩ := hs.2.2.2.2.2.2.2.2.1 (l_val h9 (by decide))
      exact lk_8 X h0 h1 hC hM (next _ _ hP)
    · refine ll_tin X (off := 442) (tgt := 475) dL_law_33 (by rw [h9]; decide) (by rw [h9]; decide) (by rw [h9]; rfl) (by decide) ?_
      obtain ⟨oc, om, hC, hM, hP⟩ := hs.2.2.2.2.2.2.2.2.2.1 (l_val h9 (by decide))
      exact lk_9 X h0 h1 hC hM (next _ _ hP)
    · refine ll_tin X (off := 475) (tgt := 508) dL_law_33 (by rw [h9]; decide) (by rw [h9]; decide) (by rw [h9]; rfl) (by decide) ?_
      obtain ⟨oc, om, hC, hM, he, hP⟩ := hs.2.2.2.2.2.2.2.2.2.2.1 (l_val h9 (by decide))
      exact lk_10 X h0 h1 hC hM he (next _ _ hP)
    · refine ll_tin X (off := 488) (tgt := 521) dL_law_33 (by rw [h9]; decide) (by rw [h9]; decide) (by rw [h9]; rfl) (by decide) ?_
      obtain ⟨oc, om, hC, hM, hP⟩ := hs.2.2.2.2.2.2.2.2.2.2.2.1 (l_val h9 (by decide))
      exact lk_11 X h0 h1 hC hM (next _ _ hP)
    · refine ll_tin X (off := 511) (tgt := 544) dL_law_33 (by rw [h9]; decide) (by rw [h9]; decide) (by rw [h9]; rfl) (by decide) ?_
      obtain ⟨oc, om, hC, hM, hP⟩ := hs.2.2.2.2.2.2.2.2.2.2.2.2.1 (l_val h9 (by decide))
      exact lk_12 X h0 h1 hC hM (next _ _ hP)
    · refine ll_tin X (off := 524) (tgt := 557) dL_law_33 (by rw [h9]; decide) (by rw [h9]; decide) (by rw [h9]; rfl) (by decide) ?_
      obtain ⟨oc, om, hC, hM, hP⟩ := hs.2.2.2.2.2.2.2.2.2.2.2.2.2.1 (l_val h9 (by decide))
      exact lk_13 X h0 h1 hC hM (next _ _ hP)
    · refine ll_tin X (off := 567) (tgt := 600) dL_law_33 (by rw [h9]; decide) (by rw [h9]; decide) (by rw [h9]; rfl) (by decide) ?_
      obtain ⟨oc, om, hC, hM, hP⟩ := hs.2.2.2.2.2.2.2.2.2.2.2.2.2.2.1 (l_val h9 (by decide))
      exact lk_14 X h0 h1 hC hM (next _ _ hP)
    · refine ll_tin X (off := 590) (tgt := 623) dL_law_33 (by rw [h9]; decide) (by rw [h9]; decide) (by rw [h9]; rfl) (by decide) ?_
      obtain ⟨oc, om, hC, hM, hP⟩ := hs.2.2.2.2.2.2.2.2.2.2.2.2.2.2.2.1 (l_val h9 (by decide))
      exact lk_15 X h0 h1 hC hM (next _ _ hP)
    · refine ll_tin X (off := 603) (tgt := 636) dL_law_33 (by rw [h9]; decide) (by rw [h9]; decide) (by rw [h9]; rfl) (by decide) ?_
      obtain ⟨oc, om, hC, hM, hP⟩ := hs.2.2.2.2.2.2.2.2.2.2.2.2.2.2.2.2.1 (l_val h9 (by decide))
      exact lk_16 X h0 h1 hC hM (next _ _ hP)
    · refine ll_tin X (off := 636) (tgt := 669) dL_law_33 (by rw [h9]; decide) (by rw [h9]; decide) (by rw [h9]; rfl) (by decide) ?_
      obtain ⟨oc, om, hC, hM, hP⟩ := hs.2.2.2.2.2.2.2.2.2.2.2.2.2.2.2.2.2.1 (l_val h9 (by decide))
      exact lk_17 X h0 h1 hC hM (next _ _ hP)
    · refine ll_tin X (off := 649) (tgt := 682) dL_law_33 (by rw [h9]; decide) (by rw [h9]; decide) (by rw [h9]; rfl) (by decide) ?_
      obtain ⟨oc, om, hC, hM, hP⟩ := hs.2.2.2.2.2.2.2.2.2.2.2.2.2.2.2.2.2.2.1 (l_val h9 (by decide))
      exact lk_18 X h0 h1 hC hM (next _ _ hP)
    · refine ll_tin X (off := 672) (tgt := 705) dL_law_33 (by rw [h9]; decide) (by rw [h9]; decide) (by rw [h9]; rfl) (by decide) ?_
      obtain ⟨oc, om, hC, hM, hP⟩ := hs.2.2.2.2.2.2.2.2.2.2.2.2.2.2.2.2.2.2.2.1 (l_val h9 (by decide))
      exact lk_19 X h0 h1 hC hM (next _ _ hP)
    · refine ll_tin X (off := 695) (tgt := 728) dL_law_33 (by rw [h9]; decide) (by rw [h9]; decide) (by rw [h9]; rfl) (by decide) ?_
      obtain ⟨oc, om, hC, hM, hP⟩ := hs.2.2.2.2.2.2.2.2.2.2.2.2.2.2.2.2.2.2.2.2.1 (l_val h9 (by decide))
      exact lk_20 X h0 h1 hC hM (next _ _ hP)
    · refine ll_tin X (off := 708) (tgt := 741) dL_law_33 (by rw [h9]; decide) (by rw [h9]; decide) (by rw [h9]; rfl) (by decide) ?_
      obtain ⟨oc, om, hC, hM, hP⟩ := hs.2.2.2.2.2.2.2.2.2.2.2.2.2.2.2.2.2.2.2.2.2.1 (l_val h9 (by decide))
      exact lk_21 X h0 h1 hC hM (next _ _ hP)
    · refine ll_tin X (off := 757) (tgt := 790) dL_law_33 (by rw [h9]; decide) (by rw [h9]; decide) (by rw [h9]; rfl) (by decide) ?_
      obtain ⟨oc, om, hC, hM, hP⟩ := hs.2.2.2.2.2.2.2.2.2.2.2.2.2.2.2.2.2.2.2.2.2.2.1 (l_val h9 (by decide))
      exact lk_22 X h0 h1 hC hM (next _ _ hP)
    · refine ll_tin X (off := 810) (tgt := 843) dL_law_33 (by rw [h9]; decide) (by rw [h9]; decide) (by rw [h9]; rfl) (by decide) ?_
      obtain ⟨oc, om, hC, hM, hP⟩ := hs.2.2.2.2.2.2.2.2.2.2.2.2.2.2.2.2.2.2.2.2.2.2.2.1 (l_val h9 (by decide))
      exact lk_23 X h0 h1 hC hM (next _ _ hP)
    · refine ll_tin X (off := 853) (tgt := 886) dL_law_33 (by rw [h9]; decide) (by rw [h9]; decide) (by rw [h9]; rfl) (by decide) ?_
      obtain ⟨oc, om, hC, hM, hP⟩ := hs.2.2.2.2.2.2.2.2.2.2.2.2.2.2.2.2.2.2.2.2.2.2.2.2.1 (l_val h9 (by decide))
      exact lk_24 X h0 h1 hC hM (next _ _ hP)
    · refine ll_tin X (off := 906) (tgt := 939) dL_law_33 (by rw [h9]; decide) (by rw [h9]; decide) (by rw [h9]; rfl) (by decide) ?_
      obtain ⟨oc, om, hC, hM, hP⟩ := hs.2.2.2.2.2.2.2.2.2.2.2.2.2.2.2.2.2.2.2.2.2.2.2.2.2.1 (l_val h9 (by decide))
      exact lk_25 X h0 h1 hC hM (next _ _ hP)
    · refine ll_tin X (off := 929) (tgt := 962) dL_law_33 (by rw [h9]; decide) (by rw [h9]; decide) (by rw [h9]; rfl) (by decide) ?_
      obtain ⟨oc, om, hC, hM, hP⟩ := hs.2.2.2.2.2.2.2.2.2.2.2.2.2.2.2.2.2.2.2.2.2.2.2.2.2.2.1 (l_val h9 (by decide))
      exact lk_26 X h0 h1 hC hM (next _ _ hP)
    · refine ll_tin X (off := 952) (tgt := 985) dL_law_33 (by rw [h9]; decide) (by rw [h9]; decide) (by rw [h9]; rfl) (by decide) ?_
      obtain ⟨oc, om, hC, hM, hP⟩ := hs.2.2.2.2.2.2.2.2.2.2.2.2.2.2.2.2.2.2.2.2.2.2.2.2.2.2.2.1 (l_val h9 (by decide))
      exact lk_27 X h0 h1 hC hM (next _ _ hP)
    · refine ll_tin X (off := 975) (tgt := 1008) dL_law_33 (by rw [h9]; decide) (by rw [h9]; decide) (by rw [h9]; rfl) (by decide) ?_
      obtain ⟨oc, om, hC, hM, hP⟩ := hs.2.2.2.2.2.2.2.2.2.2.2.2.2.2.2.2.2.2.2.2.2.2.2.2.2.2.2.2.1 (l_val h9 (by decide))
      exact lk_28 X h0 h1 hC hM (next _ _ hP)
    · refine ll_tin X (off := 1008) (tgt := 1041) dL_law_33 (by rw [h9]; decide) (by rw [h9]; decide) (by rw [h9]; rfl) (by decide) ?_
      obtain ⟨oc, om, hC, hM, hP⟩ := hs.2.2.2.2.2.2.2.2.2.2.2.2.2.2.2.2.2.2.2.2.2.2.2.2.2.2.2.2.2.1 (l_val h9 (by decide))
      exact lk_29 X h0 h1 hC hM (next _ _ hP)
    · refine ll_tin X (off := 1061) (tgt := 1094) dL_law_33 (by rw [h9]; decide) (by rw [h9]; decide) (by rw [h9]; rfl) (by decide) ?_
      obtain ⟨oc, om, hC, hM, hP⟩ := hs.2.2.2.2.2.2.2.2.2.2.2.2.2.2.2.2.2.2.2.2.2.2.2.2.2.2.2.2.2.2.1 (l_val h9 (by decide))
      exact lk_30 X h0 h1 hC hM (next _ _ hP)
    · refine ll_tin X (off := 1104) (tgt := 1137) dL_law_33 (by rw [h9]; decide) (by rw [h9]; decide) (by rw [h9]; rfl) (by decide) ?_
      obtain ⟨oc, om, hC, hM, hP⟩ := hs.2.2.2.2.2.2.2.2.2.2.2.2.2.2.2.2.2.2.2.2.2.2.2.2.2.2.2.2.2.2.2.1 (l_val h9 (by decide))
      exact lk_31 X h0 h1 hC hM (next _ _ hP)
    · refine ll_tin X (off := 1147) (tgt := 1180) dL_law_33 (by rw [h9]; decide) (by rw [h9]; decide) (by rw [h9]; rfl) (by decide) ?_
      obtain ⟨oc, om, hC, hM, hP⟩ := hs.2.2.2.2.2.2.2.2.2.2.2.2.2.2.2.2.2.2.2.2.2.2.2.2.2.2.2.2.2.2.2.2.1 (l_val h9 (by decide))
      exact lk_32 X h0 h1 hC hM (next _ _ hP)
    · refine ll_tin X (off := 1160) (tgt := 1193) dL_law_33 (by rw [h9]; decide) (by rw [h9]; decide) (by rw [h9]; rfl) (by decide) ?_
      obtain ⟨oc, om, hC, hM, hP⟩ := hs.2.2.2.2.2.2.2.2.2.2.2.2.2.2.2.2.2.2.2.2.2.2.2.2.2.2.2.2.2.2.2.2.2.1 (l_val h9 (by decide))
      exact lk_33 X h0 h1 hC hM (next _ _ hP)
    · refine ll_tin X (off := 1183) (tgt := 1216) dL_law_33 (by rw [h9]; decide) (by rw [h9]; decide) (by rw [h9]; rfl) (by decide) ?_
      obtain ⟨oc, om, hC, hM, hP⟩ := hs.2.2.2.2.2.2.2.2.2.2.2.2.2.2.2.2.2.2.2.2.2.2.2.2.2.2.2.2.2.2.2.2.2.2.1 (l_val h9 (by decide))
      exact lk_34 X h0 h1 hC hM (next _ _ hP)
    · refine ll_tout X (tgt := 1229) dL_law_33 h9 (by decide) (next _ _ (hs.2.2.2.2.2.2.2.2.2.2.2.2.2.2.2.2.2.2.2.2.2.2.2.2.2.2.2.2.2.2.2.2.2.2.2 h9))
