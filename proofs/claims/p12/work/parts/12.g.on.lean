/-! ANSWERS ALIKE: on -/
section P12G
theorem eI_congr {c d : Nat → Bool} : ∀ n k, (∀ j, k ≤ j → j < k + n → c j = d j) → eI c n k = eI d n k
  | 0, _, _ => rfl
  | n + 1, k, h => by
    unfold eI
    rw [h k (Nat.le_refl _) (by omega), eI_congr n (k + 1) (fun j h1 h2 => h j (by omega) (by omega))]
theorem c_drifts {σ : gS} (hI : JC σ) (s : Int32) : fX8_drifts_2 σ s = some (eI (fun p => decide (σ.1 8 p = s ∧ ¬ σ.1 20 p ≤ 0)) (σ.1 3 1).toInt.toNat 0) := by
  have hn : 0 ≤ (σ.1 3 1).toInt ∧ (σ.1 3 1).toInt ≤ 12 := hI 3 1
  unfold fX8_drifts_2
  refine (q_nm rfl).trans ?_
  refine eI_lpc (n := σ.1 3 1) (c := fun p => decide (σ.1 8 p = s ∧ ¬ σ.1 20 p ≤ 0)) (fun rec a h0 h1 => ?_) (fun rec a h0 h1 => ?_) _ K9 0 (by have := z0; omega) (by decide) (by unfold K9; omega)
  · unfold bX8_drifts_2_2
    exact (q_gd (by decide)).trans ((q_nm rfl).trans (if_pos (q_le h1)))
  · unfold bX8_drifts_2_2
    have g := gb_of (i := a) (n := 12) h0 (by omega)
    refine (q_gd (by decide)).trans ((q_nm rfl).trans ((if_neg (q_nle h1)).trans ((q_gd g).trans ((q_nm rfl).trans ?_))))
    rw [n_toInt]
    by_cases c1 : σ.1 8 a.toInt.toNat = s
    · refine (if_pos c1).trans ((q_gd g).trans ((q_nm rfl).trans ?_))
      by_cases c2 : σ.1 20 a.toInt.toNat ≤ 0
      · exact (if_pos c2).trans (if_neg (fun z => (of_decide_eq_true z).2 c2)).symm
      · exact (if_neg c2).trans (if_pos (decide_eq_true ⟨c1, c2⟩)).symm
    · exact (if_neg c1).trans (if_neg (fun z => c1 (of_decide_eq_true z).1)).symm
theorem near_or (x : Int32) : (¬ x < (-100000000) ∧ ¬ 100000000 < x ∧ NEAR x) ∨ ((x < (-100000000) ∨ 100000000 < x) ∧ ¬ NEAR x) := by
  have l1 : (-100000000 : Int32).toInt = -100000000 := by decide
  have l2 : (100000000 : Int32).toInt = 100000000 := by decide
  unfold NEAR
  rcases lt_or x (-100000000) with ⟨a, a'⟩ | ⟨a, a'⟩
  · exact .inr ⟨.inl a, by omega⟩
  · rcases lt_or 100000000 x with ⟨b, b'⟩ | ⟨b, b'⟩
    · exact .inr ⟨.inr b, by omega⟩
    · exact .inl ⟨a, b, by omega, by omega⟩
theorem c_near73 (σ : gS) {p : Int32} (h0 : 0 ≤ p.toInt) (h1 : p.toInt < 12) : (fX0_isNear_73 σ p = some 1 ∧ NEAR (σ.1 74 p.toInt.toNat) ∧ NEAR (σ.1 75 p.toInt.toNat)) ∨ (fX0_isNear_73 σ p = some 0 ∧ ¬ (NEAR (σ.1 74 p.toInt.toNat) ∧ NEAR (σ.1 75 p.toInt.toNat))) := by
  have g := gb_of (i := p) (n := 12) h0 (by omega)
  unfold fX0_isNear_73
  rw [q_gd (by decide), q_gd g, nm_eq, n_toInt]
  rcases near_or (σ.1 74 p.toInt.toNat) with ⟨a1, a2, a3⟩ | ⟨a1, a2⟩
  · rw [if_neg a1, q_gd (by decide), q_gd g, nm_eq, if_neg a2, q_gd (by decide), q_gd g, nm_eq]
    rcases near_or (σ.1 75 p.toInt.toNat) with ⟨b1, b2, b3⟩ | ⟨b1, b2⟩
    · rw [if_neg b1, q_gd (by decide), q_gd g, nm_eq, if_neg b2]
      exact .inl ⟨rfl, a3, b3⟩
    · refine .inr ⟨?_, fun w => b2 w.2⟩
      rcases b1 with b1 | b1
      · rw [if_pos b1]
      · by_cases c : σ.1 75 p.toInt.toNat < (-100000000)
        · rw [if_pos c]
        · rw [if_neg c, q_gd (by decide), q_gd g, nm_eq, if_pos b1]
  · refine .inr ⟨?_, fun w => a2 w.1⟩
    rcases a1 with a1 | a1
    · rw [if_pos a1]
    · by_cases c : σ.1 74 p.toInt.toNat < (-100000000)
      · rw [if_pos c]
      · rw [if_neg c, q_gd (by decide), q_gd g, nm_eq, if_pos a1]
theorem c_near76 (σ : gS) {p : Int32} (h0 : 0 ≤ p.toInt) (h1 : p.toInt < 20) : (fX0_isNear_76 σ p = some 1 ∧ NEAR (σ.1 77 p.toInt.toNat) ∧ NEAR (σ.1 78 p.toInt.toNat)) ∨ (fX0_isNear_76 σ p = some 0 ∧ ¬ (NEAR (σ.1 77 p.toInt.toNat) ∧ NEAR (σ.1 78 p.toInt.toNat))) := by
  have g := gb_of (i := p) (n := 20) h0 (by omega)
  unfold fX0_isNear_76
  rw [q_gd (by decide), q_gd g, nm_eq, n_toInt]
  rcases near_or (σ.1 77 p.toInt.toNat) with ⟨a1, a2, a3⟩ | ⟨a1, a2⟩
  · rw [if_neg a1, q_gd (by decide), q_gd g, nm_eq, if_neg a2, q_gd (by decide), q_gd g, nm_eq]
    rcases near_or (σ.1 78 p.toInt.toNat) with ⟨b1, b2, b3⟩ | ⟨b1, b2⟩
    · rw [if_neg b1, q_gd (by decide), q_gd g, nm_eq, if_neg b2]
      exact .inl ⟨rfl, a3, b3⟩
    · refine .inr ⟨?_, fun w => b2 w.2⟩
      rcases b1 with b1 | b1
      · rw [if_pos b1]
      · by_cases c : σ.1 78 p.toInt.toNat < (-100000000)
        · rw [if_pos c]
        · rw [if_neg c, q_gd (by decide), q_gd g, nm_eq, if_pos b1]
  · refine .inr ⟨?_, fun w => a2 w.1⟩
    rcases a1 with a1 | a1
    · rw [if_pos a1]
    · by_cases c : σ.1 77 p.toInt.toNat < (-100000000)
      · rw [if_pos c]
      · rw [if_neg c, q_gd (by decide), q_gd g, nm_eq, if_pos a1]
theorem c_near79 (σ : gS) {p : Int32} (h0 : 0 ≤ p.toInt) (h1 : p.toInt < 6) : (fX0_isNear_79 σ p = some 1 ∧ NEAR (σ.1 80 p.toInt.toNat) ∧ NEAR (σ.1 81 p.toInt.toNat)) ∨ (fX0_isNear_79 σ p = some 0 ∧ ¬ (NEAR (σ.1 80 p.toInt.toNat) ∧ NEAR (σ.1 81 p.toInt.toNat))) := by
  have g := gb_of (i := p) (n := 6) h0 (by omega)
  unfold fX0_isNear_79
  rw [q_gd (by decide), q_gd g, nm_eq, n_toInt]
  rcases near_or (σ.1 80 p.toInt.toNat) with ⟨a1, a2, a3⟩ | ⟨a1, a2⟩
  · rw [if_neg a1, q_gd (by decide), q_gd g, nm_eq, if_neg a2, q_gd (by decide), q_gd g, nm_eq]
    rcases near_or (σ.1 81 p.toInt.toNat) with ⟨b1, b2, b3⟩ | ⟨b1, b2⟩
    · rw [if_neg b1, q_gd (by decide), q_gd g, nm_eq, if_neg b2]
      exact .inl ⟨rfl, a3, b3⟩
    · refine .inr ⟨?_, fun w => b2 w.2⟩
      rcases b1 with b1 | b1
      · rw [if_pos b1]
      · by_cases c : σ.1 81 p.toInt.toNat < (-100000000)
        · rw [if_pos c]
        · rw [if_neg c, q_gd (by decide), q_gd g, nm_eq, if_pos b1]
  · refine .inr ⟨?_, fun w => a2 w.1⟩
    rcases a1 with a1 | a1
    · rw [if_pos a1]
    · by_cases c : σ.1 80 p.toInt.toNat < (-100000000)
      · rw [if_pos c]
      · rw [if_neg c, q_gd (by decide), q_gd g, nm_eq, if_pos a1]
theorem c_at76 (σ : gS) {p : Int32} (h0 : 0 ≤ p.toInt) (h1 : p.toInt < 20) (x y : Int32) : (fX0_isAt_76 σ p x y = some 1 ∧ σ.1 77 p.toInt.toNat = x ∧ σ.1 78 p.toInt.toNat = y) ∨ (fX0_isAt_76 σ p x y = some 0 ∧ ¬ (σ.1 77 p.toInt.toNat = x ∧ σ.1 78 p.toInt.toNat = y)) := by
  have g := gb_of (i := p) (n := 20) h0 (by omega)
  unfold fX0_isAt_76
  rw [q_gd (by decide), q_gd g, nm_eq, n_toInt]
  by_cases a : σ.1 77 p.toInt.toNat = x
  · rw [if_pos a, q_gd (by decide), q_gd g, nm_eq]
    by_cases b : σ.1 78 p.toInt.toNat = y
    · rw [if_pos b]
      exact .inl ⟨rfl, a, b⟩
    · rw [if_neg b]
      exact .inr ⟨rfl, fun w => b w.2⟩
  · rw [if_neg a]
    exact .inr ⟨rfl, fun w => a w.1⟩
theorem c_at79 (σ : gS) {p : Int32} (h0 : 0 ≤ p.toInt) (h1 : p.toInt < 6) (x y : Int32) : (fX0_isAt_79 σ p x y = some 1 ∧ σ.1 80 p.toInt.toNat = x ∧ σ.1 81 p.toInt.toNat = y) ∨ (fX0_isAt_79 σ p x y = some 0 ∧ ¬ (σ.1 80 p.toInt.toNat = x ∧ σ.1 81 p.toInt.toNat = y)) := by
  have g := gb_of (i := p) (n := 6) h0 (by omega)
  unfold fX0_isAt_79
  rw [q_gd (by decide), q_gd g, nm_eq, n_toInt]
  by_cases a : σ.1 80 p.toInt.toNat = x
  · rw [if_pos a, q_gd (by decide), q_gd g, nm_eq]
    by_cases b : σ.1 81 p.toInt.toNat = y
    · rw [if_pos b]
      exact .inl ⟨rfl, a, b⟩
    · rw [if_neg b]
      exact .inr ⟨rfl, fun w => b w.2⟩
  · rw [if_neg a]
    exact .inr ⟨rfl, fun w => a w.1⟩
/-- what the other stand holds behind take -/
noncomputable def TKN (T : Nat → Int32) (n0 n1 n2 n3 : Nat) (τ : gS) : Prop := (∀ i : Nat, i < n1 → τ.1 72 i = T (1 + 9 * i) ∧ τ.1 74 i = W4 T (2 + 9 * i) ∧ τ.1 75 i = W4 T (2 + 9 * i + 4)) ∧ (∀ i : Nat, i < n2 → τ.1 77 i = W4 T (1 + 9 * n1 + 8 * i) ∧ τ.1 78 i = W4 T (1 + 9 * n1 + 8 * i + 4)) ∧ (∀ i : Nat, i < n0 → τ.1 80 i = W4 T (1 + 9 * n1 + 8 * n2 + 8 * i) ∧ τ.1 81 i = W4 T (1 + 9 * n1 + 8 * n2 + 8 * i + 4)) ∧ ∀ i : Nat, i < n3 → τ.1 82 i = T (1 + 9 * n1 + 8 * n2 + 8 * n0 + i)
set_option maxHeartbeats 1000000 in
theorem r_take {σ : gS} (hI : JC σ) (hT : ∀ i, 0 ≤ (σ.1 1 i).toInt ∧ (σ.1 1 i).toInt ≤ 255) : ∃ τ, fX0_take_71 σ 1 = some τ ∧ JC τ ∧ τ.1 71 1 = σ.1 1 0 ∧ (∀ j, j ∈ [1, 3, 8, 9, 16, 18, 19, 20] → τ.1 j = σ.1 j) ∧ TKN (σ.1 1) (σ.1 3 0).toInt.toNat (σ.1 3 1).toInt.toNat (σ.1 3 2).toInt.toNat (σ.1 3 3).toInt.toNat τ := by
  have b0 : 0 ≤ (σ.1 3 0).toInt ∧ (σ.1 3 0).toInt ≤ 6 := hI 3 0
  have b1 : 0 ≤ (σ.1 3 1).toInt ∧ (σ.1 3 1).toInt ≤ 12 := hI 3 1
  have b2 : 0 ≤ (σ.1 3 2).toInt ∧ (σ.1 3 2).toInt ≤ 20 := hI 3 2
  have b3 : 0 ≤ (σ.1 3 3).toInt ∧ (σ.1 3 3).toInt ≤ 60 := hI 3 3
  obtain ⟨τ, e, jτ, fτ⟩ := o_fX0_take_71 hI (p1 := 1) (by decide) (by decide)
  refine ⟨τ, e, jτ, ?_⟩
  unfold fX0_take_71 at e
  rw [q_gd (by decide), nm_eq, nm_eq, nm_eq, nm_eq] at e
  obtain ⟨s, hs⟩ : ∃ s, s = gsI (gsI σ 71 1 (σ.1 1 ((0 : Int32).toNatClampNeg))) 197 3 1 := ⟨_, rfl⟩
  rw [← hs] at e
  have sr : ∀ j, j ≠ 71 → j ≠ 197 → s.1 j = σ.1 j := fun j h1 h2 => by rw [hs, gsI_row h2, gsI_row h1]
  have s1 : (s.1 197 3).toInt = ((1 : Nat) : Int) := by rw [hs, gs_len]; decide
  have s71 : s.1 71 1 = σ.1 1 0 := by rw [hs, gsI_row (by decide), gs_len]; rfl
  obtain ⟨k, f72, f74, f75, f77, f78, f80, f81, f82⟩ := tk_14 (σ := σ) b0 b1 b2 b3 (sr 3 (by decide) (by decide)) (sr 1 (by decide) (by decide)) s1 e
  refine ⟨by rw [k 71 (by decide) (by decide) (by decide) (by decide) (by decide) (by decide) (by decide) (by decide) (by decide)]; exact s71, fun j hj => ?_, fun i hi => ?_, fun i hi => ?_, fun i hi => ?_, fun i hi => ?_⟩
  · simp at hj
    rw [k j (by omega) (by omega) (by omega) (by omega) (by omega) (by omega) (by omega) (by omega) (by omega)]
    exact sr j (by omega) (by omega)
  · refine ⟨f72 i (by omega), ?_, ?_⟩
    · rw [f74 i (by omega), VV_4 hT, show 1 + 9 * i + 1 = 2 + 9 * i by omega]
    · rw [f75 i (by omega), VV_4 hT, show 1 + 9 * i + 1 = 2 + 9 * i by omega]
  · exact ⟨by rw [f77 i (by omega), VV_4 hT], by rw [f78 i (by omega), VV_4 hT]⟩
  · exact ⟨by rw [f80 i (by omega), VV_4 hT], by rw [f81 i (by omega), VV_4 hT]⟩
  · exact f82 i (by omega)
/-- both sides, at an image: what the class's checks say -/
theorem k_pic {σM τ : gS} {T : Nat → Int32} {n0 n2 n3 : Nat} (hn : τ.1 3 1 = σM.1 15 7) (b : 0 ≤ (σM.1 15 7).toInt ∧ (σM.1 15 7).toInt ≤ 12) (hk : TKN T n0 (σM.1 15 7).toInt.toNat n2 n3 τ) (ht : ∀ p : Nat, (p : Int) < (σM.1 15 7).toInt → τ.1 9 p = σM.1 17 (12 + p) ∧ 0 ≤ (σM.1 17 (12 + p)).toInt ∧ (σM.1 17 (12 + p)).toInt ≤ 4) : (fX0_arePicturesRight_71 τ = some 1 ∧ ∀ p : Nat, (p : Int) < (σM.1 15 7).toInt → PicOK T σM p) ∨ (fX0_arePicturesRight_71 τ = some 0 ∧ ∃ p : Nat, (p : Int) < (σM.1 15 7).toInt ∧ ¬ PicOK T σM p) := by
  have z0' := z0
  have l3 : (3 : Int32).toInt = 3 := by decide
  have l4 : (4 : Int32).toInt = 4 := by decide
  have ec : τ.1 3 ((1 : Int32).toNatClampNeg) = σM.1 15 7 := hn
  have key := all1 (n := σM.1 15 7) (c := PicOK T σM) (N := some 1) (B := fun rec s => bX0_arePicturesRight_71_2 τ (fun a2 => rec (a2)) s) (by omega) (fun rec a h0 h1 => ?_) (fun rec a h0 h1 => ?_) (σM.1 15 7).toInt.toNat K9 0 (by omega) (by unfold K9; omega) (by decide) (by omega)
  · unfold fX0_arePicturesRight_71
    rw [nm_eq]
    rcases key with ⟨h2, h3⟩ | ⟨h1, h2⟩
    · exact .inl ⟨h2, fun p hp => h3 p (by omega) hp⟩
    · exact .inr ⟨h1, h2⟩
  · show bX0_arePicturesRight_71_2 τ _ a = _
    unfold bX0_arePicturesRight_71_2
    rw [q_gd (by decide), nm_eq, ec, if_pos (q_le (by omega))]
  · show (_ ∧ bX0_arePicturesRight_71_2 τ _ a = _) ∨ (_ ∧ bX0_arePicturesRight_71_2 τ _ a = _)
    obtain ⟨i, hi⟩ : ∃ i, i = a.toInt.toNat := ⟨_, rfl⟩
    obtain ⟨f1, f2, f3⟩ := hk.1 i (by omega)
    obtain ⟨t1, t2, t3⟩ := ht i (by omega)
    have g := gb_of (i := a) (n := 12) h0 (by omega)
    have near := c_near73 τ h0 (by omega)
    rw [← hi] at near ⊢
    rw [f2, f3] at near
    unfold bX0_arePicturesRight_71_2
    rw [q_gd (by decide), nm_eq, ec, if_neg (q_nle (by omega)), q_gd g, nm_eq, nm_eq, q_gd g, nm_eq, n_toInt, ← hi, f1, t1]
    have j : (NEAR (W4 T (2 + 9 * i)) ∧ NEAR (W4 T (2 + 9 * i + 4)) ∧ jX0_arePicturesRight_71_58 τ (fun a2 => rec (a2)) a = rec (a + 1)) ∨ (¬ (NEAR (W4 T (2 + 9 * i)) ∧ NEAR (W4 T (2 + 9 * i + 4))) ∧ jX0_arePicturesRight_71_58 τ (fun a2 => rec (a2)) a = some 0) := by
      unfold jX0_arePicturesRight_71_58
      rcases near with ⟨e, e1, e2⟩ | ⟨e, e1⟩
      · rw [q_bd e, if_neg one_ne]
        exact .inl ⟨e1, e2, rfl⟩
      · rw [q_bd e, if_pos rfl]
        exact .inr ⟨e1, rfl⟩
    unfold PicOK
    by_cases d : σM.1 17 (12 + i) = 4
    · rw [if_pos d]
      by_cases c : T (1 + 9 * i) ≤ 3
      · have c' := Int32.le_iff_toInt_le.mp c
        rw [if_pos c]
        rcases j with ⟨j1, j2, j3⟩ | ⟨j1, j3⟩
        · exact .inl ⟨⟨by omega, .inl d, j1, j2⟩, j3⟩
        · exact .inr ⟨fun w => j1 w.2.2, j3⟩
      · have c' := q_gt c
        rw [if_neg c]
        exact .inr ⟨fun w => by have := w.1; omega, rfl⟩
    · rw [if_neg d, q_gd g, nm_eq]
      by_cases c : T (1 + 9 * i) = σM.1 17 (12 + i)
      · rw [if_pos c]
        have t4 : (σM.1 17 (12 + i)).toInt ≠ 4 := fun w => d (q_of 4 (w.trans l4.symm))
        rcases j with ⟨j1, j2, j3⟩ | ⟨j1, j3⟩
        · exact .inl ⟨⟨by rw [c]; omega, .inr c, j1, j2⟩, j3⟩
        · exact .inr ⟨fun w => j1 w.2.2, j3⟩
      · rw [if_neg c]
        exact .inr ⟨fun w => w.2.1.elim d c, rfl⟩
theorem k_pt {σM τ : gS} {T : Nat → Int32} {n0 n1 n3 : Nat} (hn : τ.1 3 2 = σM.1 15 8) (b : 0 ≤ (σM.1 15 8).toInt ∧ (σM.1 15 8).toInt ≤ 20) (hk : TKN T n0 n1 (σM.1 15 8).toInt.toNat n3 τ) (hx : τ.1 71 1 = T 0) (hx3 : 0 ≤ (T 0).toInt ∧ (T 0).toInt ≤ 3) (ht : ∀ q : Nat, (q : Int) < (σM.1 15 8).toInt → QTd τ σM q) : (fX0_arePointsRight_71 τ = some 1 ∧ ∀ q : Nat, (q : Int) < (σM.1 15 8).toInt → PtOK T σM (1 + 9 * n1) q) ∨ (fX0_arePointsRight_71 τ = some 0 ∧ ∃ q : Nat, (q : Int) < (σM.1 15 8).toInt ∧ ¬ PtOK T σM (1 + 9 * n1) q) := by
  have z0' := z0
  have ec : τ.1 3 ((2 : Int32).toNatClampNeg) = σM.1 15 8 := hn
  have key := all1 (n := σM.1 15 8) (c := PtOK T σM (1 + 9 * n1)) (N := some 1) (B := fun rec s => bX0_arePointsRight_71_2 τ (fun a2 => rec (a2)) s) (by omega) (fun rec a h0 h1 => ?_) (fun rec a h0 h1 => ?_) (σM.1 15 8).toInt.toNat K9 0 (by omega) (by unfold K9; omega) (by decide) (by omega)
  · unfold fX0_arePointsRight_71
    rw [nm_eq]
    rcases key with ⟨h2, h3⟩ | ⟨h1, h2⟩
    · exact .inl ⟨h2, fun p hp => h3 p (by omega) hp⟩
    · exact .inr ⟨h1, h2⟩
  · show bX0_arePointsRight_71_2 τ _ a = _
    unfold bX0_arePointsRight_71_2
    rw [q_gd (by decide), nm_eq, ec, if_pos (q_le (by omega))]
  · show (_ ∧ bX0_arePointsRight_71_2 τ _ a = _) ∨ (_ ∧ bX0_arePointsRight_71_2 τ _ a = _)
    obtain ⟨i, hi⟩ : ∃ i, i = a.toInt.toNat := ⟨_, rfl⟩
    obtain ⟨f1, f2⟩ := hk.2.1 i (by omega)
    obtain ⟨t1, t2, t3, t4⟩ := ht i (by omega)
    have g := gb_of (i := a) (n := 20) h0 (by omega)
    have near := c_near76 τ h0 (by omega)
    rw [← hi] at near ⊢
    rw [f1, f2] at near
    have fx : (fX5_isFixed_71 τ a = some 0 ∧ ¬ MUST T σM i) ∨ (fX5_isFixed_71 τ a = some 1 ∧ MUST T σM i) := by
      unfold fX5_isFixed_71 MUST
      rw [q_gd g, nm_eq, n_toInt, ← hi, t1, hx]
      rcases set_bit (σM.1 20 (20 + i)) (T 0) ⟨t2, t3⟩ hx3 with ⟨e1, e2⟩ | ⟨e1, e2, e3⟩
      · exact .inl ⟨if_pos e1, fun w => e2.elim w.1 (fun y => y w.2)⟩
      · exact .inr ⟨if_neg e1, e2, e3⟩
    unfold bX0_arePointsRight_71_2
    rw [q_gd (by decide), nm_eq, ec, if_neg (q_nle (by omega))]
    rcases near with ⟨e, e1, e2⟩ | ⟨e, e1⟩
    · rw [q_bd e, if_neg one_ne]
      rcases fx with ⟨u, u1⟩ | ⟨u, u1⟩
      · rw [q_bd u, if_pos rfl]
        exact .inl ⟨⟨fun w => absurd w u1, fun _ => ⟨e1, e2⟩⟩, rfl⟩
      · obtain ⟨v1, v2, -, -⟩ := t4 u1.1
        have p0 : fX5_fixedAt_71 τ a 0 = some (100 * σM.1 21 (40 + 2 * i)) := by
          unfold fX5_fixedAt_71
          rw [q_gd (by decide), q_gd g, nm_eq, n_toInt, n_toInt, ← hi]
          show some (100 * τ.1 18 i) = _
          rw [v1]
        have p1 : fX5_fixedAt_71 τ a 1 = some (100 * σM.1 21 (40 + (2 * i + 1))) := by
          unfold fX5_fixedAt_71
          rw [q_gd (by decide), q_gd g, nm_eq, n_toInt, n_toInt, ← hi]
          show some (100 * τ.1 19 i) = _
          rw [v2]
        rw [q_bd u, if_neg one_ne, q_bd p0, q_bd p1]
        have at_ := c_at76 τ h0 (by omega) (100 * σM.1 21 (40 + 2 * i)) (100 * σM.1 21 (40 + (2 * i + 1)))
        rw [← hi, f1, f2] at at_
        rcases at_ with ⟨w, w1, w2⟩ | ⟨w, w1⟩
        · rw [q_bd w, if_neg one_ne]
          exact .inl ⟨⟨fun _ => ⟨w1, w2⟩, fun y => absurd u1 y⟩, rfl⟩
        · rw [q_bd w, if_pos rfl]
          exact .inr ⟨fun y => w1 (y.1 u1), rfl⟩
    · rw [q_bd e, if_pos rfl]
      refine .inr ⟨fun w => ?_, rfl⟩
      by_cases u1 : MUST T σM i
      · obtain ⟨w1, w2⟩ := w.1 u1
        obtain ⟨-, -, ⟨v3, v4⟩, ⟨v5, v6⟩⟩ := t4 u1.1
        have m1 : (100 * σM.1 21 (40 + 2 * i)).toInt = 100 * (σM.1 21 (40 + 2 * i)).toInt := imulc (by decide) (by omega) (by omega)
        have m2 : (100 * σM.1 21 (40 + (2 * i + 1))).toInt = 100 * (σM.1 21 (40 + (2 * i + 1))).toInt := imulc (by decide) (by omega) (by omega)
        refine e1 ⟨?_, ?_⟩
        · rw [w1]; unfold NEAR; omega
        · rw [w2]; unfold NEAR; omega
      · exact e1 (w.2 u1)
theorem k_dr {σM τ : gS} {T : Nat → Int32} {n1 n2 n3 : Nat} (jτ : JC τ) (hn : τ.1 3 0 = σM.1 15 6) (hn1 : τ.1 3 1 = σM.1 15 7) (b : 0 ≤ (σM.1 15 6).toInt ∧ (σM.1 15 6).toInt ≤ 6) (hk : TKN T (σM.1 15 6).toInt.toNat n1 n2 n3 τ) (ht : ∀ p : Nat, (p : Int) < (σM.1 15 7).toInt → τ.1 8 p = σM.1 16 (12 + p) ∧ τ.1 20 p = σM.1 18 (12 + p)) : (fX0_areDriftsRight_71 τ = some 1 ∧ ∀ s : Nat, (s : Int) < (σM.1 15 6).toInt → DrOK T σM (1 + 9 * n1 + 8 * n2) s) ∨ (fX0_areDriftsRight_71 τ = some 0 ∧ ∃ s : Nat, (s : Int) < (σM.1 15 6).toInt ∧ ¬ DrOK T σM (1 + 9 * n1 + 8 * n2) s) := by
  have z0' := z0
  have ec : τ.1 3 ((0 : Int32).toNatClampNeg) = σM.1 15 6 := hn
  have key := all1 (n := σM.1 15 6) (c := DrOK T σM (1 + 9 * n1 + 8 * n2)) (N := some 1) (B := fun rec s => bX0_areDriftsRight_71_2 τ (fun a2 => rec (a2)) s) (by omega) (fun rec a h0 h1 => ?_) (fun rec a h0 h1 => ?_) (σM.1 15 6).toInt.toNat K9 0 (by omega) (by unfold K9; omega) (by decide) (by omega)
  · unfold fX0_areDriftsRight_71
    rw [nm_eq]
    rcases key with ⟨h2, h3⟩ | ⟨h1, h2⟩
    · exact .inl ⟨h2, fun p hp => h3 p (by omega) hp⟩
    · exact .inr ⟨h1, h2⟩
  · show bX0_areDriftsRight_71_2 τ _ a = _
    unfold bX0_areDriftsRight_71_2
    rw [q_gd (by decide), nm_eq, ec, if_pos (q_le (by omega))]
  · show (_ ∧ bX0_areDriftsRight_71_2 τ _ a = _) ∨ (_ ∧ bX0_areDriftsRight_71_2 τ _ a = _)
    obtain ⟨i, hi⟩ : ∃ i, i = a.toInt.toNat := ⟨_, rfl⟩
    obtain ⟨f1, f2⟩ := hk.2.2.1 i (by omega)
    have ea : Int32.ofNat i = a := by rw [hi]; exact i32_of h0
    have near := c_near79 τ h0 (by omega)
    have at_ := c_at79 τ h0 (by omega) 0 0
    rw [← hi] at near at_ ⊢
    rw [f1, f2] at near at_
    have hd : fX8_drifts_2 τ a = some (HD σM i) := by
      rw [c_drifts jτ a]
      unfold HD
      rw [ea, hn1]
      congr 1
      refine eI_congr _ 0 (fun j h1 h2 => ?_)
      obtain ⟨u1, u2⟩ := ht j (by omega)
      rw [u1, u2]
    unfold bX0_areDriftsRight_71_2
    rw [q_gd (by decide), nm_eq, ec, if_neg (q_nle (by omega))]
    rcases near with ⟨e, e1, e2⟩ | ⟨e, e1⟩
    · rw [q_bd e, if_neg one_ne, q_bd hd]
      by_cases g : HD σM i = 0
      · rw [if_pos g]
        rcases at_ with ⟨w, w1, w2⟩ | ⟨w, w1⟩
        · rw [q_bd w, if_neg one_ne]
          exact .inl ⟨⟨fun _ => ⟨w1, w2⟩, fun y => absurd g y⟩, rfl⟩
        · rw [q_bd w, if_pos rfl]
          exact .inr ⟨fun y => w1 (y.1 g), rfl⟩
      · rw [if_neg g]
        exact .inl ⟨⟨fun y => absurd y g, fun _ => ⟨e1, e2⟩⟩, rfl⟩
    · rw [q_bd e, if_pos rfl]
      refine .inr ⟨fun w => ?_, rfl⟩
      by_cases g : HD σM i = 0
      · obtain ⟨w1, w2⟩ := w.1 g
        refine e1 ⟨?_, ?_⟩
        · rw [w1]; unfold NEAR; omega
        · rw [w2]; unfold NEAR; omega
      · exact e1 (w.2 g)
theorem k_rw {σM τ : gS} {T : Nat → Int32} {n0 n1 n2 : Nat} (hn : τ.1 3 3 = σM.1 15 9) (b : 0 ≤ (σM.1 15 9).toInt ∧ (σM.1 15 9).toInt ≤ 60) (hk : TKN T n0 n1 n2 (σM.1 15 9).toInt.toNat τ) : (fX0_areRowsRight_71 τ = some 1 ∧ ∀ r : Nat, (r : Int) < (σM.1 15 9).toInt → RwOK T (1 + 9 * n1 + 8 * n2 + 8 * n0) r) ∨ (fX0_areRowsRight_71 τ = some 0 ∧ ∃ r : Nat, (r : Int) < (σM.1 15 9).toInt ∧ ¬ RwOK T (1 + 9 * n1 + 8 * n2 + 8 * n0) r) := by
  have z0' := z0
  have l1 : (1 : Int32).toInt = 1 := by decide
  have ec : τ.1 3 ((3 : Int32).toNatClampNeg) = σM.1 15 9 := hn
  have key := all1 (n := σM.1 15 9) (c := RwOK T (1 + 9 * n1 + 8 * n2 + 8 * n0)) (N := some 1) (B := fun rec s => bX0_areRowsRight_71_2 τ (fun a2 => rec (a2)) s) (by omega) (fun rec a h0 h1 => ?_) (fun rec a h0 h1 => ?_) (σM.1 15 9).toInt.toNat K9 0 (by omega) (by unfold K9; omega) (by decide) (by omega)
  · unfold fX0_areRowsRight_71
    rw [nm_eq]
    rcases key with ⟨h2, h3⟩ | ⟨h1, h2⟩
    · exact .inl ⟨h2, fun p hp => h3 p (by omega) hp⟩
    · exact .inr ⟨h1, h2⟩
  · show bX0_areRowsRight_71_2 τ _ a = _
    unfold bX0_areRowsRight_71_2
    rw [q_gd (by decide), nm_eq, ec, if_pos (q_le (by omega))]
  · show (_ ∧ bX0_areRowsRight_71_2 τ _ a = _) ∨ (_ ∧ bX0_areRowsRight_71_2 τ _ a = _)
    obtain ⟨i, hi⟩ : ∃ i, i = a.toInt.toNat := ⟨_, rfl⟩
    have f1 := hk.2.2.2 i (by omega)
    unfold bX0_areRowsRight_71_2 RwOK
    rw [q_gd (by decide), nm_eq, ec, if_neg (q_nle (by omega)), q_gd (gb_of h0 (by omega)), nm_eq, n_toInt, ← hi, f1]
    by_cases g : T (1 + 9 * n1 + 8 * n2 + 8 * n0 + i) ≤ 1
    · have g' := Int32.le_iff_toInt_le.mp g
      rw [if_pos g]
      exact .inl ⟨by omega, rfl⟩
    · have g' := q_gt g
      rw [if_neg g]
      exact .inr ⟨by omega, rfl⟩
theorem chk_alike {σC σM : gS} (h : σM.1 1 = σC.1 1) (m : Int32) : fX10_checked σM 1 m = fX0_check σC 1 m := by
  unfold fX10_checked fX0_check
  rw [nm_eq, nm_eq, nm_eq, nm_eq]
  have gz : gsz zC.1 0 0 1 = 1600 := by decide
  have gz2 : gsz zM.1 0 0 1 = 1600 := by decide
  have e : (fun (rec : Int32 × Int32 → Option Int32) (s : Int32 × Int32) => bX10_checked_5 σM 1 m (fun a2 a3 => rec (a2, a3)) s.1 s.2) = (fun rec s => bX0_check_5 σC 1 m (fun a2 a3 => rec (a2, a3)) s.1 s.2) := by
    funext rec s
    unfold bX10_checked_5 bX0_check_5
    rw [gz, gz2, h]
  rw [e]
set_option maxHeartbeats 1000000 in
theorem r_read {σC σM : gS} (jC : JC σC) (jM : JM σM) (hT : σM.1 1 = σC.1 1) (hR : TRd σC σM) {n ck : Int32} (h0 : 0 ≤ n.toInt) (hck : n.toInt = due σM → fX10_checked σM 1 (n - 1) = some ck) : (∃ τ, fX0_read_71 σC 1 n = some (1, τ) ∧ TOLD (σM.1 1) σM n ck) ∨ (∃ τ, fX0_read_71 σC 1 n = some (0, τ) ∧ ¬ TOLD (σM.1 1) σM n ck) := by
  obtain ⟨t1, t2, t3, t4, t5⟩ := hR
  obtain ⟨b9, b8, b7, b6⟩ := JM_n jM
  have q0 : σC.1 3 0 = σM.1 15 6 := t1 0 (by decide)
  have q1 : σC.1 3 1 = σM.1 15 7 := t1 1 (by decide)
  have q2 : σC.1 3 2 = σM.1 15 8 := t1 2 (by decide)
  have q3 : σC.1 3 3 = σM.1 15 9 := t1 3 (by decide)
  have l1 : (1 : Int32).toInt = 1 := by decide
  have l2 : (2 : Int32).toInt = 2 := by decide
  have l3 : (3 : Int32).toInt = 3 := by decide
  have l8 : (8 : Int32).toInt = 8 := by decide
  have l9 : (9 : Int32).toInt = 9 := by decide
  have d1 : (9 * σM.1 15 7).toInt = 9 * (σM.1 15 7).toInt := imulc (by decide) (by omega) (by omega)
  have d2 : (8 * σM.1 15 8).toInt = 8 * (σM.1 15 8).toInt := imulc (by decide) (by omega) (by omega)
  have d3 : (8 * σM.1 15 6).toInt = 8 * (σM.1 15 6).toInt := imulc (by decide) (by omega) (by omega)
  have d4 : (2 + 9 * σM.1 15 7).toInt = 2 + 9 * (σM.1 15 7).toInt := by rw [iadd_toInt] <;> omega
  have d5 : (2 + 9 * σM.1 15 7 + 8 * σM.1 15 8).toInt = 2 + 9 * (σM.1 15 7).toInt + 8 * (σM.1 15 8).toInt := by rw [iadd_toInt] <;> omega
  have d6 : (2 + 9 * σM.1 15 7 + 8 * σM.1 15 8 + 8 * σM.1 15 6).toInt = 2 + 9 * (σM.1 15 7).toInt + 8 * (σM.1 15 8).toInt + 8 * (σM.1 15 6).toInt := by rw [iadd_toInt] <;> omega
  have d7 : (2 + 9 * σM.1 15 7 + 8 * σM.1 15 8 + 8 * σM.1 15 6 + σM.1 15 9).toInt = due σM := by unfold due; rw [iadd_toInt] <;> omega
  have hdu : fX0_dueLength σC = some (2 + 9 * σM.1 15 7 + 8 * σM.1 15 8 + 8 * σM.1 15 6 + σM.1 15 9) := by
    unfold fX0_dueLength
    rw [q_gd (by decide), nm_eq, q_gd (by decide), nm_eq, q_gd (by decide), nm_eq, q_gd (by decide), nm_eq]
    show some ((((2 + (9 * σC.1 3 1)) + (8 * σC.1 3 2)) + (8 * σC.1 3 0)) + σC.1 3 3) = _
    rw [q0, q1, q2, q3]
  have gz : gsz zC.1 0 0 1 = 1600 := by decide
  have l16 : (Int32.ofNat 1600).toInt = 1600 := by decide
  unfold fX0_read_71
  rw [q_bd hdu]
  by_cases hd : n = 2 + 9 * σM.1 15 7 + 8 * σM.1 15 8 + 8 * σM.1 15 6 + σM.1 15 9
  · have hn : n.toInt = due σM := by rw [hd]; exact d7
    have hn' := hn
    unfold due at hn'
    have em : (n - 1).toInt = n.toInt - 1 := by rw [isub_toInt] <;> omega
    have en : (n - 1).toNatClampNeg = n.toInt.toNat - 1 := by rw [n_toInt]; omega
    have hc2 : fX0_check σC 1 (n - 1) = some ck := by rw [← chk_alike hT]; exact hck hn
    rw [if_pos hd, q_gd (by decide), gz, if_pos (q_le (by omega)), q_bd hc2, q_gd (gb_of (by omega) (by omega)), nm_eq, en, ← hT]
    by_cases h1 : ck = σM.1 1 (n.toInt.toNat - 1)
    · have hb := fun i => (jm_tape jM).2.2 i
      obtain ⟨τ, eτ, jτ, x71, same, hk⟩ := r_take jC (by rw [← hT]; exact hb)
      rw [q0, q1, q2, q3, ← hT] at hk
      rw [← hT] at x71
      rw [if_pos h1, q_bd eτ, x71]
      have s3 : τ.1 3 = σC.1 3 := same 3 (by decide)
      rcases lt_or 3 (σM.1 1 0) with ⟨c, c'⟩ | ⟨c, c'⟩
      · rw [if_pos c]
        exact .inr ⟨τ, rfl, fun w => by have := w.2.2.1; omega⟩
      rw [if_neg c]
      have hx3 : 0 ≤ (σM.1 1 0).toInt ∧ (σM.1 1 0).toInt ≤ 3 := ⟨(hb 0).1, by omega⟩
      rcases k_pic (σM := σM) (by rw [s3]; exact q1) b7 hk (fun p hp => ⟨by rw [same 9 (by decide)]; exact (t3 p hp).2.1, (t3 p hp).2.2.2.2.1⟩) with ⟨e, hp⟩ | ⟨e, i, hi, hp⟩
      · rw [q_bd e, if_neg one_ne]
        rcases k_pt (σM := σM) (by rw [s3]; exact q2) b8 hk x71 hx3 (fun q hq => by
          unfold QTd
          rw [same 16 (by decide), same 18 (by decide), same 19 (by decide)]
          exact t4 q hq) with ⟨e, hq⟩ | ⟨e, i, hi, hq⟩
        · rw [q_bd e, if_neg one_ne]
          rcases k_dr (σM := σM) jτ (by rw [s3]; exact q0) (by rw [s3]; exact q1) b6 hk (fun p hp => ⟨by rw [same 8 (by decide)]; exact (t3 p hp).1, by rw [same 20 (by decide)]; exact (t3 p hp).2.2.1⟩) with ⟨e, hs⟩ | ⟨e, i, hi, hs⟩
          · rw [q_bd e, if_neg one_ne]
            rcases k_rw (σM := σM) (by rw [s3]; exact q3) b9 hk with ⟨e, hr⟩ | ⟨e, i, hi, hr⟩
            · rw [q_bd e, if_neg one_ne]
              exact .inl ⟨τ, rfl, hn, h1.symm, hx3.2, hp, hq, hs, hr⟩
            · rw [q_bd e, if_pos rfl]
              exact .inr ⟨τ, rfl, fun w => hr (w.2.2.2.2.2.2 i hi)⟩
          · rw [q_bd e, if_pos rfl]
            exact .inr ⟨τ, rfl, fun w => hs (w.2.2.2.2.2.1 i hi)⟩
        · rw [q_bd e, if_pos rfl]
          exact .inr ⟨τ, rfl, fun w => hq (w.2.2.2.2.1 i hi)⟩
      · rw [q_bd e, if_pos rfl]
        exact .inr ⟨τ, rfl, fun w => hp (w.2.2.2.1 i hi)⟩
    · rw [if_neg h1]
      exact .inr ⟨σC, rfl, fun w => h1 w.2.1.symm⟩
  · rw [if_neg hd]
    exact .inr ⟨σC, rfl, fun w => hd (Int32.toInt_inj.mp (by rw [d7]; exact w.1))⟩
theorem on_1 {ρ : gS} {K : Nat} {s : Int32 × Int32 × gS} {o : Int32 × gS} (h : lpc (S := Int32 × Int32 × gS) K (fun rec s => bX10_on_34 ρ (fun a2 a3 σ1 => rec (a2, a3, σ1)) s.1 s.2.1 s.2.2) s = some o) : o.1 = 1 := by
  refine lpc_part (I := fun _ => True) (P := fun o : Int32 × gS => o.1 = 1) (fun rec s _ hrec o ho => ?_) K s o trivial h
  try dsimp only at ho
  unfold bX10_on_34 at ho
  obtain ⟨r, -, ho⟩ := bd_some ho
  by_cases z : r ≤ s.2.1
  · rw [if_pos z, nm_eq] at ho
    refine lpc_part (I := fun _ => True) (P := fun o : Int32 × gS => o.1 = 1) (fun rec s _ hrec o ho => ?_) K9 _ o trivial ho
    try dsimp only at ho
    unfold bX10_on_71 at ho
    obtain ⟨r, -, ho⟩ := bd_some ho
    by_cases z : r ≤ s.2.1
    · rw [if_pos z, nm_eq] at ho
      refine lpc_part (I := fun _ => True) (P := fun o : Int32 × gS => o.1 = 1) (fun rec s _ hrec o ho => ?_) K9 _ o trivial ho
      try dsimp only at ho
      unfold bX10_on_97 at ho
      obtain ⟨-, ho⟩ := gd_some ho
      rw [nm_eq] at ho
      by_cases z : s.2.2.1 15 ((6 : Int32).toNatClampNeg) ≤ s.2.1
      · rw [if_pos z, nm_eq] at ho
        refine lpc_part (I := fun _ => True) (P := fun o : Int32 × gS => o.1 = 1) (fun rec s _ hrec o ho => ?_) K9 _ o trivial ho
        try dsimp only at ho
        unfold bX10_on_126 at ho
        obtain ⟨r, -, ho⟩ := bd_some ho
        by_cases z : r ≤ s.1
        · rw [if_pos z] at ho
          exact fst_so ho
        · rw [if_neg z] at ho
          obtain ⟨-, ho⟩ := gd_some ho
          rw [nm_eq] at ho
          by_cases y : ∀ (x : Option (Int32 × gS)), x = some o → True
          · split at ho
            · obtain ⟨-, ho⟩ := gd_some ho
              rw [nm_eq, nm_eq] at ho
              exact hrec _ _ trivial ho
            · obtain ⟨-, ho⟩ := gd_some ho
              rw [nm_eq, nm_eq] at ho
              exact hrec _ _ trivial ho
          · exact absurd (fun _ _ => trivial) y
      · rw [if_neg z] at ho
        obtain ⟨r1, s1, -, ho⟩ := bd2_ex ho
        rw [nm_eq, nm_eq] at ho
        exact hrec _ _ trivial ho
    · rw [if_neg z] at ho
      obtain ⟨r1, s1, -, ho⟩ := bd2_ex ho
      rw [nm_eq, nm_eq] at ho
      exact hrec _ _ trivial ho
  · rw [if_neg z] at ho
    obtain ⟨-, ho⟩ := gd_some ho
    rw [nm_eq] at ho
    obtain ⟨-, ho⟩ := gd_some ho
    rw [nm_eq] at ho
    obtain ⟨r1, s1, -, ho⟩ := bd2_ex ho
    rw [nm_eq, nm_eq] at ho
    exact hrec _ _ trivial ho
theorem c_34 {σC σM : gS} (h : IV σC σM) : ∃ (oc : Int32 × gS) (om : Int32 × gS), fX9_on σC = some oc ∧ fX10_on σM = some om ∧ oc.1 = om.1 ∧ IV oc.2 om.2 := by
  obtain ⟨oc, om, eC, eM, hI⟩ := g_34 h
  refine ⟨oc, om, eC, eM, ?_, hI⟩
  obtain ⟨i1, i2, i3, i4, i5, i6, i7, i8⟩ := h
  have t0 : 0 ≤ (σC.1 0 1).toInt ∧ (σC.1 0 1).toInt ≤ 1600 := i1 0 1
  unfold fX9_on at eC
  unfold fX10_on at eM
  rw [nm_eq, nm_eq] at eC
  rw [nm_eq, nm_eq, i5] at eM
  obtain ⟨sC, hsC⟩ : ∃ s, s = gsI σC 0 1 0 := ⟨_, rfl⟩
  obtain ⟨sM, hsM⟩ : ∃ s, s = gsI σM 0 1 0 := ⟨_, rfl⟩
  rw [← hsC] at eC
  rw [← hsM] at eM
  have jC : JC sC := by rw [hsC]; exact JC_w i1 (show (0 : Int) ≤ (0 : Int32).toInt by decide) (show (0 : Int32).toInt ≤ (1600 : Int) by decide)
  have jM : JM sM := by rw [hsM]; exact JM_w i2 (show (0 : Int) ≤ (0 : Int32).toInt by decide) (show (0 : Int32).toInt ≤ (1600 : Int) by decide)
  have hT : sM.1 1 = sC.1 1 := by rw [hsM, hsC, gsI_row (k := 0) (by decide), gsI_row (k := 0) (by decide)]; exact i4
  have hR : TRd sC sM := TR_eq i8 (fun k hk => by simp at hk; rw [hsC, gsI_row (by omega)]) (by rw [hsM]; exact UP_w UP_r (.inr (by decide)))
  have cck : ∃ ck, (σC.1 0 1).toInt = due sM → fX10_checked sM 1 (σC.1 0 1 - 1) = some ck := by
    by_cases z : (σC.1 0 1).toInt = due sM
    · have l1 : (1 : Int32).toInt = 1 := by decide
      obtain ⟨b9, b8, b7, b6⟩ := JM_n jM
      have z' := z
      unfold due at z'
      have em : (σC.1 0 1 - 1).toInt = (σC.1 0 1).toInt - 1 := by rw [isub_toInt] <;> omega
      obtain ⟨ck, e, -⟩ := o_fX10_checked jM (p0 := 1) (p1 := σC.1 0 1 - 1) (by decide) (by decide) (by omega) (by omega) (.inl ⟨rfl, by omega⟩)
      exact ⟨ck, fun _ => e⟩
    · exact ⟨0, fun w => absurd w z⟩
  obtain ⟨ck, hck⟩ := cck
  rcases r_isTold jM (n := σC.1 0 1) t0.1 hck with ⟨a, a1⟩ | ⟨a, a1⟩ <;> rcases r_read jC jM hT hR (n := σC.1 0 1) t0.1 hck with ⟨τ, b, b1⟩ | ⟨τ, b, b1⟩
  · rw [q_bd2 b] at eC
    dsimp only at eC
    rw [if_neg one_ne] at eC
    rw [q_bd a, if_neg one_ne] at eM
    obtain ⟨-, eM⟩ := gd_some eM
    rw [nm_eq, nm_eq, nm_eq, nm_eq] at eM
    rw [fst_bd eC, on_1 eM]
  · exact absurd a1 b1
  · exact absurd b1 a1
  · rw [q_bd2 b] at eC
    dsimp only at eC
    rw [if_pos rfl] at eC
    rw [q_bd a, if_pos rfl] at eM
    rw [fst_so eC, fst_so eM]
end P12G
