/-! ONE CALL ON FRESH OBJECTS: the rest -/
section P1
-- the reference
theorem m0_pics : fX10_pictures s0M = some 0 := by decide +kernel
theorem m0_pts : fX10_points s0M = some 0 := by decide +kernel
theorem m0_rows : fX10_rows s0M = some 0 := by decide +kernel
theorem m0_isIn (σ : gS) (a : Int32) : fX10_isIn σ a.toInt64 0 (((0 : Int32) - 1).toInt64) = some 0 := by
  unfold fX10_isIn
  by_cases h : a.toInt64 < 0
  · exact if_pos h
  · refine (if_neg h).trans (if_pos ?_)
    have h1 : (((0 : Int32) - 1).toInt64).toInt = -1 := by decide
    have h2 : (0 : Int64).toInt = 0 := by decide
    have h3 : ¬ a.toInt64.toInt < (0 : Int64).toInt := fun z => h (Int64.lt_iff_toInt_lt.mpr z)
    exact Int64.lt_iff_toInt_lt.mpr (by omega)
theorem m_isIn (σ : gS) (a b c : Int64) : (fX10_isIn σ a b c = some 1 ∧ b.toInt ≤ a.toInt ∧ a.toInt ≤ c.toInt) ∨ (fX10_isIn σ a b c = some 0 ∧ (a.toInt < b.toInt ∨ c.toInt < a.toInt)) := by
  unfold fX10_isIn
  by_cases h : a < b
  · exact .inr ⟨if_pos h, .inl (Int64.lt_iff_toInt_lt.mp h)⟩
  · have h3 : ¬ a.toInt < b.toInt := fun z => h (Int64.lt_iff_toInt_lt.mpr z)
    by_cases h2 : c < a
    · exact .inr ⟨(if_neg h).trans (if_pos h2), .inr (Int64.lt_iff_toInt_lt.mp h2)⟩
    · have h4 : ¬ c.toInt < a.toInt := fun z => h2 (Int64.lt_iff_toInt_lt.mpr z)
      exact .inl ⟨(if_neg h).trans (if_neg h2), by omega, by omega⟩
theorem m0_isPicture (p : Int32) : fX10_isPicture s0M p = some 0 := by
  unfold fX10_isPicture
  exact (q_bd m0_pics).trans ((q_bd (m0_isIn s0M p)).trans (by decide +kernel))
theorem m0_isPoint (p : Int32) : fX10_isPoint s0M p = some 0 := by
  unfold fX10_isPoint
  exact (q_bd m0_pts).trans ((q_bd (m0_isIn s0M p)).trans (by decide +kernel))
theorem m0_isRow (p : Int32) : fX10_isRow s0M p = some 0 := by
  unfold fX10_isRow
  exact (q_bd m0_rows).trans ((q_bd (m0_isIn s0M p)).trans (by decide +kernel))
theorem m0_areTwo (p q : Int32) : fX10_areTwo s0M p q = some 0 := by
  unfold fX10_areTwo
  exact (q_bd (m0_isPicture p)).trans (if_pos rfl)
theorem m0_canMeasure (p q r : Int32) : fX10_canMeasure s0M p q r = some 0 := by
  unfold fX10_canMeasure
  exact (q_bd (m0_isRow p)).trans (if_pos rfl)
theorem m0_isLoop (p q r : Int32) : fX10_isLoop s0M p q r = some 0 := by
  unfold fX10_isLoop
  exact (q_bd (m0_areTwo p q)).trans (if_pos rfl)
-- the class
theorem c0_ex {k : Int32} (h : gb k 6 = true) (hz : s0C.1 3 k.toNatClampNeg = 0) (x : Int32) : fX8_exists_2 s0C k x = some 0 := by
  unfold fX8_exists_2
  by_cases h1 : x < 0
  · exact if_pos h1
  · exact (if_neg h1).trans ((q_gd h).trans ((q_nm hz).trans (if_pos (Int32.not_lt.mp h1))))
theorem c0_ex0 (x : Int32) : fX8_exists_2 s0C 0 x = some 0 := c0_ex (by decide) (by decide +kernel) x
theorem c0_ex1 (x : Int32) : fX8_exists_2 s0C 1 x = some 0 := c0_ex (by decide) (by decide +kernel) x
theorem c0_ex2 (x : Int32) : fX8_exists_2 s0C 2 x = some 0 := c0_ex (by decide) (by decide +kernel) x
theorem c0_ex3 (x : Int32) : fX8_exists_2 s0C 3 x = some 0 := c0_ex (by decide) (by decide +kernel) x
theorem c0_un (p q : Int32) : fX9_areUnlike s0C p q = some 0 := by
  unfold fX9_areUnlike
  by_cases h : p = q
  · exact if_pos h
  · exact (if_neg h).trans ((q_bd (c0_ex1 p)).trans (if_pos rfl))
theorem c0_cm (p q r : Int32) : fX9_canMeasure s0C p q r = some 0 := by
  unfold fX9_canMeasure
  exact (q_bd (c0_ex3 p)).trans (if_pos rfl)
theorem c_axis (σ : gS) (a : Int32) : fX9_isAxis σ a = some 0 ∨ fX9_isAxis σ a = some 1 := by
  unfold fX9_isAxis
  by_cases h : a = 0
  · exact .inr (if_pos h)
  · by_cases h1 : a = 1
    · exact .inr ((if_neg h).trans (if_pos h1))
    · exact .inl ((if_neg h).trans (if_neg h1))
-- feed
theorem q_feedM (a b c d e : Int32) : (fX10_feed s0M a b c d e).map (fun x => x.1) = some 20 := by
  obtain ⟨x, hx, hp⟩ : Ok (fX10_feed s0M a b c d e) (fun o => o.1 = 20) := by
    unfold fX10_feed
    refine ok_ite.mpr ⟨fun _ => ?_, fun h => absurd (by decide +kernel) h⟩
    refine ok_nm.mpr (ok_lpc (I := fun (n : Nat) (s : Int32 × gS) => n = (20 - s.1.toInt).toNat ∧ 0 ≤ s.1.toInt ∧ s.1.toInt ≤ 20 ∧ (s.2.1 0 1).toInt = s.1.toInt) (fun rec n s hs hrec => ?_) K9 20 (0, s0M) ⟨by decide, by decide, by decide, by decide +kernel⟩ (by unfold K9; decide))
    obtain ⟨k, σ⟩ := s
    obtain ⟨hn, h0, h1, h2⟩ := hs
    dsimp only at hn h0 h1 h2 ⊢
    have l20 : (20 : Int32).toInt = 20 := by decide
    have l1 : (1 : Int32).toInt = 1 := by decide
    have J : ∀ w : Int32, ¬ (20 : Int32) ≤ k → Ok (jX10_feed_71 σ a b c d e (fun a6 σ1 => rec (a6, σ1)) k w) (fun o => o.1 = 20) := fun w hk => by
      have hk' : ¬ (20 : Int32).toInt ≤ k.toInt := fun z => hk (Int32.le_iff_toInt_le.mpr z)
      unfold jX10_feed_71
      refine ok_nm.mpr (ok_gd.mpr ⟨gb_of (by omega) (by omega), ?_⟩)
      refine ok_nm.mpr (ok_nm.mpr (ok_nm.mpr ?_))
      have e1 : (k + 1).toInt = k.toInt + 1 := by rw [iadd_toInt] <;> omega
      have e2 : (σ.1 0 1 + 1).toInt = (σ.1 0 1).toInt + 1 := by rw [iadd_toInt] <;> omega
      refine hrec _ _ (show (20 - (k + 1).toInt).toNat < n by omega) ⟨rfl, by dsimp only; omega, by dsimp only; omega, ?_⟩
      dsimp only
      rw [gsI_1, if_pos ⟨rfl, rfl⟩, gsI_1, if_neg (fun z => absurd z.1 (by decide)), e1, e2]
      omega
    unfold bX10_feed_18
    refine ok_ite.mpr ⟨fun h => ?_, fun h => ?_⟩
    · refine ok_some.mpr ?_
      have h' : (20 : Int32).toInt ≤ k.toInt := Int32.le_iff_toInt_le.mp h
      exact q_of 20 (by dsimp only; omega)
    · refine ok_ite.mpr ⟨fun _ => ok_ite.mpr ⟨fun _ => ok_ite.mpr ⟨fun _ => ok_ite.mpr ⟨fun _ => J _ h, fun _ => J _ h⟩, fun _ => J _ h⟩, fun _ => J _ h⟩, fun _ => J _ h⟩
  rw [hx]
  exact congrArg some hp
theorem q_tape (σ : gS) (a : Int32) (h0 : 0 ≤ (σ.1 0 1).toInt) (h1 : (σ.1 0 1).toInt ≤ 1596) : Ok (fX9_tapeNumber σ a) (fun o => (o.1 0 1).toInt = (σ.1 0 1).toInt + 4) := by
  unfold fX9_tapeNumber
  have l24 : (24 : Int32).toInt = 24 := by decide
  have l0 : (0 : Int32).toInt = 0 := by decide
  have l8 : (-8 : Int32).toInt = -8 := by decide
  have l1 : (1 : Int32).toInt = 1 := by decide
  refine ok_nm.mpr (ok_lpc (I := fun (n : Nat) (s : Int32 × gS) => n = (s.1.toInt + 8).toNat ∧ -8 ≤ s.1.toInt ∧ s.1.toInt ≤ 24 ∧ (s.2.1 0 1).toInt * 8 + s.1.toInt = (σ.1 0 1).toInt * 8 + 24) (fun rec n s hs hrec => ?_) K9 32 (24, σ) ⟨show 32 = ((24 : Int32).toInt + 8).toNat by omega, show -8 ≤ (24 : Int32).toInt by omega, show (24 : Int32).toInt ≤ 24 by omega, show (σ.1 0 1).toInt * 8 + (24 : Int32).toInt = (σ.1 0 1).toInt * 8 + 24 by omega⟩ (by unfold K9; decide))
  obtain ⟨k, τ⟩ := s
  obtain ⟨hn, h2, h3, h5⟩ := hs
  dsimp only at hn h2 h3 h5 ⊢
  unfold bX9_tapeNumber_3
  refine ok_ite.mpr ⟨fun h => ok_some.mpr ?_, fun h => ?_⟩
  · have h' : k.toInt < (0 : Int32).toInt := Int32.lt_iff_toInt_lt.mp h
    omega
  · have h' : ¬ k.toInt < (0 : Int32).toInt := fun z => h (Int32.lt_iff_toInt_lt.mpr z)
    refine ok_gd.mpr ⟨gb_of (by omega) (by omega), ?_⟩
    refine ok_nm.mpr (ok_nm.mpr (ok_nm.mpr ?_))
    have e1 : (k + (-8)).toInt = k.toInt + -8 := by rw [iadd_toInt] <;> omega
    have e2 : (τ.1 0 1 + 1).toInt = (τ.1 0 1).toInt + 1 := by rw [iadd_toInt] <;> omega
    have hm : ((k + (-8)).toInt + 8).toNat < n := by
      rw [e1, hn]
      clear hrec h5 e2
      omega
    refine hrec ((k + (-8)).toInt + 8).toNat _ hm ⟨rfl, ?_, ?_, ?_⟩
    · show -8 ≤ (k + (-8)).toInt
      omega
    · show (k + (-8)).toInt ≤ 24
      omega
    · dsimp only
      rw [gsI_1, if_pos ⟨rfl, rfl⟩, gsI_1, if_neg (fun z => absurd z.1 (by decide)), e1, e2]
      omega
theorem q_feedC (a b c d e : Int32) : (fX9_feed s0C a b c d e).map (fun x => x.1) = some 20 := by
  obtain ⟨x, hx, hp⟩ : Ok (fX9_feed s0C a b c d e) (fun o => o.1 = 20) := by
    have z : (s0C.1 0 1).toInt = 0 := by decide +kernel
    unfold fX9_feed
    refine ok_ite.mpr ⟨fun _ => ?_, fun h => absurd (by decide +kernel) h⟩
    refine ok_bd.mpr ((q_tape s0C a (by omega) (by omega)).mono (fun s1 h1 => ?_))
    refine ok_bd.mpr ((q_tape s1 b (by omega) (by omega)).mono (fun s2 h2 => ?_))
    refine ok_bd.mpr ((q_tape s2 c (by omega) (by omega)).mono (fun s3 h3 => ?_))
    refine ok_bd.mpr ((q_tape s3 d (by omega) (by omega)).mono (fun s4 h4 => ?_))
    refine ok_bd.mpr ((q_tape s4 e (by omega) (by omega)).mono (fun s5 h5 => ok_some.mpr ?_))
    exact q_of 20 (by have l20 : (20 : Int32).toInt = 20 := by decide
                      dsimp only; omega)
  rw [hx]
  exact congrArg some hp
def p1_0 (a b c d e : Int32) := q_two (q_feedC a b c d e) (q_feedM a b c d e)
theorem p1_1 (x : Int32) : ∃ (oc : Int32 × gS) (om : Int32 × gS), fX9_end s0C x = some oc ∧ fX10_end s0M x = some om ∧ oc.1 = om.1 ∧ True := by
  have zC : s0C.1 0 1 = 0 := by decide +kernel
  have zM : s0M.1 0 1 = 0 := by decide +kernel
  unfold fX9_end fX10_end
  rw [zC, zM]
  by_cases h : x < 0
  · exact q_pp (if_pos h) (if_pos h)
  · by_cases h1 : x ≤ 0
    · exact q_pp ((if_neg h).trans (if_pos h1)) ((if_neg h).trans (if_pos h1))
    · exact q_pp ((if_neg h).trans (if_neg h1)) ((if_neg h).trans (if_neg h1))
theorem p1_3 (x : Int32) : ∃ (oc : Int32) (om : Int32), fX9_fault s0C x = some oc ∧ fX10_fault s0M x = some om ∧ oc = om ∧ True := by
  have z1 : s0C.1 0 15 = 0 := by decide +kernel
  have z2 : s0M.1 0 7 = 0 := by decide +kernel
  have z3 : s0C.1 0 16 = -1 := by decide +kernel
  have z4 : s0M.1 0 8 = -1 := by decide +kernel
  unfold fX9_fault fX10_fault
  rw [z1, z2, z3, z4]
  by_cases h : x = 0
  · exact q_oo (if_pos h) (if_pos h)
  · by_cases h1 : x = 1
    · exact q_oo ((if_neg h).trans (if_pos h1)) ((if_neg h).trans (if_pos h1))
    · exact q_oo ((if_neg h).trans (if_neg h1)) ((if_neg h).trans (if_neg h1))
theorem p1_4 (x : Int32) : ∃ (oc : Int32) (om : Int32), fX9_has s0C x = some oc ∧ fX10_has s0M x = some om ∧ oc = om ∧ True := by
  by_cases h : 0 ≤ x.toInt ∧ x.toInt ≤ 8
  · obtain ⟨h0, h8⟩ := h
    have hx : x.toInt = 0 ∨ x.toInt = 1 ∨ x.toInt = 2 ∨ x.toInt = 3 ∨ x.toInt = 4 ∨ x.toInt = 5 ∨ x.toInt = 6 ∨ x.toInt = 7 ∨ x.toInt = 8 := by omega
    rcases hx with h | h | h | h | h | h | h | h | h
    · obtain rfl := q_of 0 (h.trans (by decide)); exact q_oo (v := 0) (by decide +kernel) (by decide +kernel)
    · obtain rfl := q_of 1 (h.trans (by decide)); exact q_oo (v := 0) (by decide +kernel) (by decide +kernel)
    · obtain rfl := q_of 2 (h.trans (by decide)); exact q_oo (v := 0) (by decide +kernel) (by decide +kernel)
    · obtain rfl := q_of 3 (h.trans (by decide)); exact q_oo (v := 0) (by decide +kernel) (by decide +kernel)
    · obtain rfl := q_of 4 (h.trans (by decide)); exact q_oo (v := 0) (by decide +kernel) (by decide +kernel)
    · obtain rfl := q_of 5 (h.trans (by decide)); exact q_oo (v := 0) (by decide +kernel) (by decide +kernel)
    · obtain rfl := q_of 6 (h.trans (by decide)); exact q_oo (v := 0) (by decide +kernel) (by decide +kernel)
    · obtain rfl := q_of 7 (h.trans (by decide)); exact q_oo (v := 3) (by decide +kernel) (by decide +kernel)
    · obtain rfl := q_of 8 (h.trans (by decide)); exact q_oo (v := 0) (by decide +kernel) (by decide +kernel)
  · have n : ∀ c : Int32, 0 ≤ c.toInt → c.toInt ≤ 8 → x ≠ c := fun c h0 h1 e => h (by rw [e]; exact ⟨h0, h1⟩)
    have hM : fX10_has s0M x = some (-1) := by
      unfold fX10_has
      rw [if_neg (n 0 (by decide) (by decide)), if_neg (n 1 (by decide) (by decide)), if_neg (n 2 (by decide) (by decide)), if_neg (n 3 (by decide) (by decide)), if_neg (n 4 (by decide) (by decide)), if_neg (n 5 (by decide) (by decide)), if_neg (n 6 (by decide) (by decide)), if_neg (n 7 (by decide) (by decide)), if_neg (n 8 (by decide) (by decide))]
    have hj : jX9_has_19 s0C x = some (-1) := by
      unfold jX9_has_19
      rw [if_neg (n 6 (by decide) (by decide)), if_neg (n 7 (by decide) (by decide)), if_neg (n 8 (by decide) (by decide))]
    have hC : fX9_has s0C x = some (-1) := by
      unfold fX9_has
      by_cases h1 : x < 0
      · exact (if_pos h1).trans hj
      · by_cases h2 : 5 < x
        · exact (if_neg h1).trans ((if_pos h2).trans hj)
        · exfalso
          have l0 : (0 : Int32).toInt = 0 := by decide
          have l5 : (5 : Int32).toInt = 5 := by decide
          have h1' : ¬ x.toInt < (0 : Int32).toInt := fun z => h1 (Int32.lt_iff_toInt_lt.mpr z)
          have h2' : ¬ (5 : Int32).toInt < x.toInt := fun z => h2 (Int32.lt_iff_toInt_lt.mpr z)
          exact h ⟨by omega, by omega⟩
    exact q_oo hC hM
theorem m0_letter (k : Int32) (hk : fX10_isIn s0M k.toInt64 0 2 = some 1) (hg : gb (6 + k) 12 = true) (hz : s0M.1 15 (6 + k).toNatClampNeg = 0) (x y : Int32) : fX10_letter s0M k x y = some (-1) := by
  unfold fX10_letter
  exact (q_bd hk).trans ((if_neg (by decide)).trans ((q_gd hg).trans ((q_nm hz).trans ((q_bd (m0_isIn s0M x)).trans (if_pos rfl)))))
theorem c0_letter (k : Int32) (h0 : ¬ k < 0) (h2 : ¬ 2 < k) (he : ∀ x, fX8_exists_2 s0C k x = some 0) (x y : Int32) : fX9_letter s0C k x y = some (-1) := by
  unfold fX9_letter
  exact (if_neg h0).trans ((if_neg h2).trans ((q_bd (he x)).trans (if_pos rfl)))
theorem p1_5 (k x y : Int32) : ∃ (oc : Int32) (om : Int32), fX9_letter s0C k x y = some oc ∧ fX10_letter s0M k x y = some om ∧ oc = om ∧ True := by
  have l0 : (0 : Int64).toInt = 0 := by decide
  have l2 : (2 : Int64).toInt = 2 := by decide
  have e : k.toInt64.toInt = k.toInt := Int32.toInt_toInt64 _
  have i0 : (0 : Int32).toInt = 0 := by decide
  have i2 : (2 : Int32).toInt = 2 := by decide
  rcases m_isIn s0M k.toInt64 0 2 with ⟨h, h1, h2⟩ | ⟨h, h1⟩
  · have hx : k.toInt = 0 ∨ k.toInt = 1 ∨ k.toInt = 2 := by omega
    rcases hx with h | h | h
    · obtain rfl := q_of 0 (h.trans (by decide)); exact q_oo (c0_letter 0 (by decide) (by decide) c0_ex0 x y) (m0_letter 0 (by decide +kernel) (by decide) (by decide +kernel) x y)
    · obtain rfl := q_of 1 (h.trans (by decide)); exact q_oo (c0_letter 1 (by decide) (by decide) c0_ex1 x y) (m0_letter 1 (by decide +kernel) (by decide) (by decide +kernel) x y)
    · obtain rfl := q_of 2 (h.trans (by decide)); exact q_oo (c0_letter 2 (by decide) (by decide) c0_ex2 x y) (m0_letter 2 (by decide +kernel) (by decide) (by decide +kernel) x y)
  · have hM : fX10_letter s0M k x y = some (-1) := by
      unfold fX10_letter
      exact (q_bd h).trans (if_pos rfl)
    have hC : fX9_letter s0C k x y = some (-1) := by
      unfold fX9_letter
      by_cases h3 : k < 0
      · exact if_pos h3
      · refine (if_neg h3).trans (if_pos ?_)
        have h3' : ¬ k.toInt < (0 : Int32).toInt := fun z => h3 (Int32.lt_iff_toInt_lt.mpr z)
        exact Int32.lt_iff_toInt_lt.mpr (by omega)
    exact q_oo hC hM
def p1_6 (x y : Int32) := q_pp (oc := fX9_picture s0C x y) (om := fX10_picture s0M x y) (v := -1000000000) (s := s0C) (t := s0M) (by unfold fX9_picture; exact (q_bd (c0_ex1 x)).trans (if_pos rfl)) (by unfold fX10_picture; exact (q_bd (m0_isPicture x)).trans (if_pos rfl))
def p1_7 (x y : Int32) := q_pp (oc := fX9_point s0C x y) (om := fX10_point s0M x y) (v := -1000000000) (s := s0C) (t := s0M) (by unfold fX9_point; exact (q_bd (c0_ex2 x)).trans (if_pos rfl)) (by unfold fX10_point; exact (q_bd (m0_isPoint x)).trans (if_pos rfl))
def p1_8 (x y : Int32) := q_pp (oc := fX9_row s0C x y) (om := fX10_row s0M x y) (v := -1000000000) (s := s0C) (t := s0M) (by unfold fX9_row; exact (q_bd (c0_ex3 x)).trans (if_pos rfl)) (by unfold fX10_row; exact (q_bd (m0_isRow x)).trans (if_pos rfl))
def p1_9 (x y : Int32) := q_oo (oc := fX9_drift s0C x y) (om := fX10_drift s0M x y) (v := -1000000000) (by unfold fX9_drift; exact (q_bd (c0_ex0 x)).trans (if_pos rfl)) (by unfold fX10_drift; exact (q_gd (by decide)).trans ((q_nm (w := 0) (by decide +kernel)).trans ((q_bd (m0_isIn s0M x)).trans (if_pos rfl))))
theorem p1_11 (n : Int32) : ∃ (oc : Int32 × gS) (om : Int32 × gS), fX9_rounds s0C n = some oc ∧ fX10_rounds s0M n = some om ∧ oc.1 = om.1 ∧ True := by
  have l1 : (1 : Int64).toInt = 1 := by decide
  have l5 : (500 : Int64).toInt = 500 := by decide
  have e : n.toInt64.toInt = n.toInt := Int32.toInt_toInt64 _
  have i0 : (0 : Int32).toInt = 0 := by decide
  have i1 : (1 : Int32).toInt = 1 := by decide
  have i5 : (500 : Int32).toInt = 500 := by decide
  rcases m_isIn s0M n.toInt64 1 500 with ⟨h, h1, h2⟩ | ⟨h, h1⟩
  · have n1 : ¬ n < 1 := fun z => by have := Int32.lt_iff_toInt_lt.mp z; omega
    have n5 : n ≤ 500 := Int32.le_iff_toInt_le.mpr (by omega)
    have n0 : ¬ n ≤ 0 := fun z => by have := Int32.le_iff_toInt_le.mp z; omega
    obtain ⟨⟨r, σM⟩, hr, hr0⟩ := q_ex (show (fX10_isRound s0M).map (fun x => x.1) = some 0 by decide +kernel)
    obtain ⟨⟨q, σC⟩, hq, hq0⟩ := q_ex (show (fX1_makeRound s0C).map (fun x => x.1) = some 0 by decide +kernel)
    dsimp only at hr0 hq0
    subst hr0 hq0
    have hM : fX10_rounds s0M n = some (0, σM) := by
      unfold fX10_rounds
      refine (q_bd h).trans ((if_neg (by decide)).trans ((q_bd2 (x := (0, σM)) ?_).trans rfl))
      unfold fX10_rests
      refine (q_nm rfl).trans ((q_lpc (K' := 1048575) rfl).trans ?_)
      show bX10_rests_2 s0M n _ 0 s0M = _
      unfold bX10_rests_2
      exact (if_neg n0).trans ((q_bd2 hr).trans (if_pos rfl))
    have hC : fX9_rounds s0C n = some (0, σC) := by
      unfold fX9_rounds
      refine (if_neg n1).trans ((if_pos n5).trans ((q_bd2 (x := (0, σC)) ?_).trans rfl))
      unfold fX1_settle
      refine (q_nm rfl).trans ((q_lpc (K' := 1048575) rfl).trans ?_)
      show bX1_settle_2 s0C n _ 0 s0C = _
      unfold bX1_settle_2
      refine (q_gd (by decide)).trans ((q_nm (w := 0) (by decide +kernel)).trans ((if_pos (by decide)).trans ((q_nm rfl).trans ((q_lpc (K' := 1048575) rfl).trans ?_))))
      show bX1_settle_57 s0C n _ 0 s0C = _
      unfold bX1_settle_57
      exact (if_neg n0).trans ((q_bd2 hq).trans (if_pos rfl))
    exact q_pp hC hM
  · have hM : fX10_rounds s0M n = some (-1, s0M) := by
      unfold fX10_rounds
      exact (q_bd h).trans (if_pos rfl)
    have hC : fX9_rounds s0C n = some (-1, s0C) := by
      unfold fX9_rounds
      by_cases h3 : n < 1
      · exact if_pos h3
      · refine (if_neg h3).trans (if_neg ?_)
        have h3' : ¬ n.toInt < (1 : Int32).toInt := fun z => h3 (Int32.lt_iff_toInt_lt.mpr z)
        exact fun z => by have := Int32.le_iff_toInt_le.mp z; omega
    exact q_pp hC hM
theorem m0_w49 (k a z0 : Int32) (x : Int32) (hg : gb (6 + z0) 12 = true) (hz : s0M.1 15 (6 + z0).toNatClampNeg = 0) : jX10_whole_49 s0M k x a z0 6 0 x.toInt64 = some (-1, s0M) := by
  unfold jX10_whole_49
  exact (q_gd hg).trans ((q_nm hz).trans ((q_bd (m0_isIn s0M x)).trans (if_pos rfl)))
theorem m0_whole (k x a : Int32) : fX10_whole s0M k x a = some (-1, s0M) := by
  unfold fX10_whole
  rcases m_isIn s0M k.toInt64 0 2 with ⟨h, -, -⟩ | ⟨h, -⟩
  · refine (q_bd h).trans ((if_neg (by decide)).trans ?_)
    rcases m_isIn s0M a.toInt64 0 1 with ⟨h, -, -⟩ | ⟨h, -⟩
    · refine (q_bd h).trans ((if_neg (by decide)).trans ?_)
      by_cases h0 : k = 0
      · exact (if_pos h0).trans (m0_w49 k a 1 x (by decide) (by decide +kernel))
      · refine (if_neg h0).trans ?_
        by_cases h1 : k = 1
        · exact (if_pos h1).trans (m0_w49 k a 2 x (by decide) (by decide +kernel))
        · exact (if_neg h1).trans (m0_w49 k a 0 x (by decide) (by decide +kernel))
    · exact (q_bd h).trans (if_pos rfl)
  · exact (q_bd h).trans (if_pos rfl)
theorem c0_whole (k x a : Int32) : fX9_whole s0C k x a = some (-1, s0C) := by
  have w105 : jX9_whole_105 s0C k x a = some (-1, s0C) := by
    unfold jX9_whole_105
    by_cases h : k = 2
    · exact (if_pos h).trans ((q_bd (c0_ex0 x)).trans (if_pos rfl))
    · exact if_neg h
  have w44 : jX9_whole_44 s0C k x a = some (-1, s0C) := by
    unfold jX9_whole_44
    by_cases h : k = 1
    · exact (if_pos h).trans ((q_bd (c0_ex2 x)).trans ((if_pos rfl).trans w105))
    · exact (if_neg h).trans w105
  unfold fX9_whole
  by_cases h : k < 0
  · exact if_pos h
  · refine (if_neg h).trans ?_
    by_cases h2 : 2 < k
    · exact if_pos h2
    · refine (if_neg h2).trans ?_
      rcases c_axis s0C a with h3 | h3
      · exact (q_bd h3).trans (if_pos rfl)
      · refine (q_bd h3).trans ((if_neg (by decide)).trans ?_)
        by_cases h4 : k = 0
        · exact (if_pos h4).trans ((q_bd (c0_ex1 x)).trans ((if_pos rfl).trans w44))
        · exact (if_neg h4).trans w44
def p1_13 (k x a : Int32) := q_pp (c0_whole k x a) (m0_whole k x a)
theorem p1_14 (x : Int32) : ∃ (oc : Int32 × gS) (om : Int32 × gS), fX9_sets s0C x = some oc ∧ fX10_sets s0M x = some om ∧ oc.1 = om.1 ∧ True := by
  have l0 : (0 : Int64).toInt = 0 := by decide
  have l3 : (3 : Int64).toInt = 3 := by decide
  have e : x.toInt64.toInt = x.toInt := Int32.toInt_toInt64 _
  have i0 : (0 : Int32).toInt = 0 := by decide
  have i3 : (3 : Int32).toInt = 3 := by decide
  rcases m_isIn s0M x.toInt64 0 3 with ⟨h, h1, h2⟩ | ⟨h, h1⟩
  · have hx : x.toInt = 0 ∨ x.toInt = 1 ∨ x.toInt = 2 ∨ x.toInt = 3 := by omega
    rcases hx with h | h | h | h
    · obtain rfl := q_of 0 (h.trans (by decide)); exact q_two (v := 0) (by decide +kernel) (by decide +kernel)
    · obtain rfl := q_of 1 (h.trans (by decide)); exact q_two (v := 0) (by decide +kernel) (by decide +kernel)
    · obtain rfl := q_of 2 (h.trans (by decide)); exact q_two (v := 0) (by decide +kernel) (by decide +kernel)
    · obtain rfl := q_of 3 (h.trans (by decide)); exact q_two (v := 0) (by decide +kernel) (by decide +kernel)
  · have hM : fX10_sets s0M x = some (-1, s0M) := by
      unfold fX10_sets
      exact (q_bd h).trans (if_pos rfl)
    have hC : fX9_sets s0C x = some (-1, s0C) := by
      unfold fX9_sets
      by_cases h3 : x < 0
      · exact if_pos h3
      · refine (if_neg h3).trans (if_neg ?_)
        have h3' : ¬ x.toInt < (0 : Int32).toInt := fun z => h3 (Int32.lt_iff_toInt_lt.mpr z)
        exact fun z => by have := Int32.le_iff_toInt_le.mp z; omega
    exact q_pp hC hM
def p1_16 (x y : Int32) := q_pp (oc := fX9_hang s0C x y) (om := fX10_hang s0M x y) (v := -1) (s := s0C) (t := s0M) (by unfold fX9_hang; exact (q_bd (c0_ex1 x)).trans (if_pos rfl)) (by unfold fX10_hang; exact (q_bd (m0_isPicture x)).trans (if_pos rfl))
def p1_18 (x : Int32) := q_pp (oc := fX9_needs s0C x) (om := fX10_needs s0M x) (v := -1) (s := s0C) (t := s0M) (by unfold fX9_needs; exact (q_bd (c0_ex3 x)).trans (if_pos rfl)) (by unfold fX10_needs; exact (q_bd (m0_isRow x)).trans (if_pos rfl))
def p1_19 (x : Int32) := q_oo (oc := fX9_doubt s0C x) (om := fX10_doubt s0M x) (v := -1) (by unfold fX9_doubt; exact (q_bd (c0_ex3 x)).trans (if_pos rfl)) (by unfold fX10_doubt; exact (q_bd (m0_isRow x)).trans (if_pos rfl))
theorem c0_drop (x z : Int32) : fX9_drop s0C x z = some (0, s0C) := by
  have hj : ∀ w, jX9_drop_9 s0C x w = some (0, s0C) := fun w => by
    unfold jX9_drop_9
    exact (q_nm rfl).trans ((q_bd (c0_ex3 x)).trans (if_pos rfl))
  unfold fX9_drop
  by_cases h : z = 0
  · exact (if_pos h).trans (hj _)
  · exact (if_neg h).trans (hj _)
def p1_21 (x z : Int32) := q_pp (oc := fX9_drop s0C x z) (om := fX10_drop s0M x z) (c0_drop x z) (t := s0M) (by unfold fX10_drop; exact (q_bd (m0_isRow x)).trans (if_pos rfl))
theorem p1_22 (L : Int64) : ∃ (oc : Int32 × gS) (om : Int32 × gS), fX9_clean s0C L = some oc ∧ fX10_clean s0M L = some om ∧ oc.1 = om.1 ∧ True := by
  by_cases h : (0 : Int64) ≤ L
  · have k1 : ((fX10_rests s0M 50).bind (fun r => (fX10_worstNow r.2).bind (fun w => (fX10_rows w.2).map (fun n => (w.1, n))))) = some ((-1 : Int32), (0 : Int32)) := by decide +kernel
    obtain ⟨⟨r, τ1⟩, hr⟩ : ∃ x, fX10_rests s0M 50 = some x := by
      cases hx : fX10_rests s0M 50 with
      | none => rw [hx] at k1; cases k1
      | some x => exact ⟨x, rfl⟩
    rw [hr] at k1
    obtain ⟨⟨w, τ2⟩, hw⟩ : ∃ x, fX10_worstNow τ1 = some x := by
      cases hx : fX10_worstNow τ1 with
      | none => rw [show (some (r, τ1)).bind (fun r => (fX10_worstNow r.2).bind (fun w => (fX10_rows w.2).map (fun n => (w.1, n)))) = (fX10_worstNow τ1).bind (fun w => (fX10_rows w.2).map (fun n => (w.1, n))) from rfl, hx] at k1; cases k1
      | some x => exact ⟨x, rfl⟩
    rw [show (some (r, τ1)).bind (fun r => (fX10_worstNow r.2).bind (fun w => (fX10_rows w.2).map (fun n => (w.1, n)))) = (fX10_worstNow τ1).bind (fun w => (fX10_rows w.2).map (fun n => (w.1, n))) from rfl, hw] at k1
    obtain ⟨n, hn, hn2⟩ := q_ex (show (fX10_rows τ2).map (fun n => (w, n)) = some ((-1 : Int32), (0 : Int32)) from k1)
    obtain ⟨rfl, rfl⟩ := Prod.mk.inj hn2
    have hM : fX10_clean s0M L = some (0, τ2) := by
      unfold fX10_clean
      refine (if_pos h).trans ((q_nm rfl).trans ((q_lpc (K' := 1048575) rfl).trans ?_))
      show bX10_clean_10 s0M L _ 0 s0M = _
      unfold bX10_clean_10
      refine (q_bd m0_rows).trans ((if_pos (by decide)).trans ((q_nm rfl).trans ((q_nm rfl).trans ((q_lpc (K' := 1048575) rfl).trans ?_))))
      show bX10_clean_41 s0M L _ 0 1 s0M = _
      unfold bX10_clean_41
      refine (if_neg (by decide)).trans ((q_bd2 hr).trans ((q_nm rfl).trans ((q_bd2 hw).trans ((q_nm rfl).trans ((if_pos rfl).trans ?_)))))
      unfold jX10_clean_88
      refine (q_nm rfl).trans ((if_pos rfl).trans ((q_lpc (K' := 1048574) rfl).trans ?_))
      show bX10_clean_41 s0M L _ 0 0 τ2 = _
      unfold bX10_clean_41
      refine (if_pos rfl).trans ((q_nm rfl).trans ((q_nm rfl).trans ((q_lpc (K' := 1048575) rfl).trans ?_)))
      show bX10_clean_115 τ2 L 0 _ 0 0 τ2 = _
      unfold bX10_clean_115
      exact (q_bd hn).trans ((if_pos (by decide)).trans ((if_pos (by decide)).trans ((q_nm rfl).trans (by rfl))))
    have k2 : ((fJ7_fill_53178 s0C 199 0).bind (fun a => (fX1_settle a 50).bind (fun b => (fX9_findWorst b.2).map (fun w => (w.1, w.2.1 3 3))))) = some ((-1 : Int32), (0 : Int32)) := by decide +kernel
    obtain ⟨ρ1, h1⟩ : ∃ x, fJ7_fill_53178 s0C 199 0 = some x := by
      cases hx : fJ7_fill_53178 s0C 199 0 with
      | none => rw [hx] at k2; cases k2
      | some x => exact ⟨x, rfl⟩
    rw [h1] at k2
    obtain ⟨⟨t, ρ2⟩, h2⟩ : ∃ x, fX1_settle ρ1 50 = some x := by
      cases hx : fX1_settle ρ1 50 with
      | none => rw [show (some ρ1).bind (fun a => (fX1_settle a 50).bind (fun b => (fX9_findWorst b.2).map (fun w => (w.1, w.2.1 3 3)))) = (fX1_settle ρ1 50).bind (fun b => (fX9_findWorst b.2).map (fun w => (w.1, w.2.1 3 3))) from rfl, hx] at k2; cases k2
      | some x => exact ⟨x, rfl⟩
    rw [show (some ρ1).bind (fun a => (fX1_settle a 50).bind (fun b => (fX9_findWorst b.2).map (fun w => (w.1, w.2.1 3 3)))) = (fX1_settle ρ1 50).bind (fun b => (fX9_findWorst b.2).map (fun w => (w.1, w.2.1 3 3))) from rfl, h2] at k2
    obtain ⟨⟨v, ρ3⟩, h3, h4⟩ := q_ex (show (fX9_findWorst ρ2).map (fun w => (w.1, w.2.1 3 3)) = some ((-1 : Int32), (0 : Int32)) from k2)
    obtain ⟨h5, h6⟩ := Prod.mk.inj h4
    dsimp only at h5 h6
    subst h5
    have hA : fX9_dropAbove s0C L = some (0, ρ3) := by
      unfold fX9_dropAbove
      refine (q_bd h1).trans ((q_bd2 h2).trans ((q_nm rfl).trans ((q_lpc (K' := 1048575) rfl).trans ?_)))
      show bX9_dropAbove_20 ρ2 L _ 0 ρ2 = _
      unfold bX9_dropAbove_20
      exact (if_neg (by decide)).trans ((q_bd2 h3).trans ((q_nm rfl).trans (if_pos rfl)))
    have hB : fX9_putBack ρ3 L = some (0, ρ3) := by
      unfold fX9_putBack
      refine (q_nm rfl).trans ((q_nm rfl).trans ((q_lpc (K' := 1048575) rfl).trans ?_))
      show bX9_putBack_5 ρ3 L _ 0 0 ρ3 = _
      unfold bX9_putBack_5
      exact (q_gd (by decide)).trans ((q_nm h6).trans (if_pos (by decide)))
    have hC : fX9_clean s0C L = some (0, ρ3) := by
      unfold fX9_clean
      exact (if_pos h).trans ((q_bd2 hA).trans ((q_nm rfl).trans ((q_bd2 hB).trans ((q_nm rfl).trans ((if_pos (show (0 : Int32) ≤ 0 by decide)).trans (congrArg (fun z : Int32 => some (z, ρ3)) (show (0 : Int32) - 0 = 0 by decide)))))))
    exact q_pp hC hM
  · exact q_pp (v := -1) (s := s0C) (t := s0M) (by unfold fX9_clean; exact if_neg h) (by unfold fX10_clean; exact if_neg h)
def p1_23 (x y z : Int32) := q_po (oc := fX9_tie s0C x y z) (om := fX10_tie s0M x y z) (v := -1000000000) (s := s0C) (by unfold fX9_tie; exact (q_bd (c0_un x y)).trans (if_pos rfl)) (by unfold fX10_tie; exact (q_bd (m0_areTwo x y)).trans (if_pos rfl))
theorem p1_24 (x y z a : Int32) : ∃ (oc : Int32 × gS) (om : Int32), fX9_loop s0C x y z a = some oc ∧ fX10_loop s0M x y z a = some om ∧ oc.1 = om ∧ True := by
  have hM : fX10_loop s0M x y z a = some (-1000000000) := by
    unfold fX10_loop
    rcases m_isIn s0M a.toInt64 0 1 with ⟨h, -, -⟩ | ⟨h, -⟩
    · exact (q_bd h).trans ((if_neg (by decide)).trans ((q_bd (m0_isLoop x y z)).trans (if_pos rfl)))
    · exact (q_bd h).trans (if_pos rfl)
  have hC : fX9_loop s0C x y z a = some (-1000000000, s0C) := by
    unfold fX9_loop
    rcases c_axis s0C a with h | h
    · exact (q_bd h).trans (if_pos rfl)
    · exact (q_bd h).trans ((if_neg (by decide)).trans ((q_bd (c0_un x y)).trans (if_pos rfl)))
  exact q_po hC hM
theorem p1_25 (x : Int32) : ∃ (oc : Int32 × gS) (om : Int32), fX9_gap s0C x = some oc ∧ fX10_gap s0M x = some om ∧ oc.1 = om ∧ True := by
  have l0 : (0 : Int64).toInt = 0 := by decide
  have l1 : (1 : Int64).toInt = 1 := by decide
  have e : x.toInt64.toInt = x.toInt := Int32.toInt_toInt64 _
  rcases m_isIn s0M x.toInt64 0 1 with ⟨h, h1, h2⟩ | ⟨h, h1⟩
  · have hx : x.toInt = 0 ∨ x.toInt = 1 := by omega
    rcases hx with h | h
    · obtain rfl := q_of 0 (h.trans (by decide)); exact q_cm (v := -1) (by decide +kernel) (by decide +kernel)
    · obtain rfl := q_of 1 (h.trans (by decide)); exact q_cm (v := -1) (by decide +kernel) (by decide +kernel)
  · have i0 : (0 : Int32).toInt = 0 := by decide
    have i1 : (1 : Int32).toInt = 1 := by decide
    have n0 : x ≠ 0 := fun z => by rw [z] at e h1; omega
    have n1 : x ≠ 1 := fun z => by rw [z] at e h1; omega
    exact q_po (v := -1) (s := s0C) (by unfold fX9_gap; exact (if_neg n0).trans (if_neg n1)) (by unfold fX10_gap; exact (q_bd h).trans (if_pos rfl))
theorem p1_26 (k : Int32) : ∃ (oc : Int32 × gS) (om : Int32 × gS), fX9_tree s0C k = some oc ∧ fX10_tree s0M k = some om ∧ oc.1 = om.1 ∧ True := by
  obtain ⟨⟨n, τ⟩, hn, hn0⟩ := q_ex (show (fX10_treeOf s0M).map (fun x => x.1) = some 0 by decide +kernel)
  have k2 : ((fX7_survey s0C).bind (fun a => (fX7_growTree a).map (fun b => b.1 140 10))) = some (0 : Int32) := by decide +kernel
  obtain ⟨ρ1, h1⟩ : ∃ x, fX7_survey s0C = some x := by
    cases hx : fX7_survey s0C with
    | none => rw [hx] at k2; cases k2
    | some x => exact ⟨x, rfl⟩
  rw [h1] at k2
  obtain ⟨ρ2, h2, h3⟩ := q_ex (show (fX7_growTree ρ1).map (fun b => b.1 140 10) = some (0 : Int32) from k2)
  dsimp only at hn0 h3
  subst hn0
  by_cases hk : k = -1
  · refine q_pp (v := 0) (s := ρ2) (t := τ) ?_ ?_
    · unfold fX9_tree
      refine (q_bd h1).trans ((q_bd h2).trans ((if_pos hk).trans ?_))
      rw [h3]
    · unfold fX10_tree
      exact (q_bd2 hn).trans ((q_nm rfl).trans (if_pos hk))
  · refine q_pp (v := -1) (s := ρ2) (t := τ) ?_ ?_
    · unfold fX9_tree
      refine (q_bd h1).trans ((q_bd h2).trans ((if_neg hk).trans ?_))
      by_cases h4 : k < 0
      · exact if_pos h4
      · refine (if_neg h4).trans (if_neg ?_)
        rw [h3]
        exact h4
    · unfold fX10_tree
      exact (q_bd2 hn).trans ((q_nm rfl).trans ((if_neg hk).trans ((q_bd (m0_isIn τ k)).trans (if_pos rfl))))
theorem p1_27 (n : Int32) : ∃ (oc : Int32 × gS) (om : Int32 × gS), fX9_plan s0C n = some oc ∧ fX10_plan s0M n = some om ∧ oc.1 = om.1 ∧ True := by
  have l1 : (1 : Int64).toInt = 1 := by decide
  have l5 : (20 : Int64).toInt = 20 := by decide
  have e : n.toInt64.toInt = n.toInt := Int32.toInt_toInt64 _
  have i1 : (1 : Int32).toInt = 1 := by decide
  have i5 : (20 : Int32).toInt = 20 := by decide
  rcases m_isIn s0M n.toInt64 1 20 with ⟨h, h1, h2⟩ | ⟨h, h1⟩
  · have hx : n.toInt = 1 ∨ n.toInt = 2 ∨ n.toInt = 3 ∨ n.toInt = 4 ∨ n.toInt = 5 ∨ n.toInt = 6 ∨ n.toInt = 7 ∨ n.toInt = 8 ∨ n.toInt = 9 ∨ n.toInt = 10 ∨ n.toInt = 11 ∨ n.toInt = 12 ∨ n.toInt = 13 ∨ n.toInt = 14 ∨ n.toInt = 15 ∨ n.toInt = 16 ∨ n.toInt = 17 ∨ n.toInt = 18 ∨ n.toInt = 19 ∨ n.toInt = 20 := by omega
    rcases hx with h | h | h | h | h | h | h | h | h | h | h | h | h | h | h | h | h | h | h | h
    · obtain rfl := q_of 1 (h.trans (by decide)); exact q_two (v := 0) (by decide +kernel) (by decide +kernel)
    · obtain rfl := q_of 2 (h.trans (by decide)); exact q_two (v := 0) (by decide +kernel) (by decide +kernel)
    · obtain rfl := q_of 3 (h.trans (by decide)); exact q_two (v := 0) (by decide +kernel) (by decide +kernel)
    · obtain rfl := q_of 4 (h.trans (by decide)); exact q_two (v := 0) (by decide +kernel) (by decide +kernel)
    · obtain rfl := q_of 5 (h.trans (by decide)); exact q_two (v := 0) (by decide +kernel) (by decide +kernel)
    · obtain rfl := q_of 6 (h.trans (by decide)); exact q_two (v := 0) (by decide +kernel) (by decide +kernel)
    · obtain rfl := q_of 7 (h.trans (by decide)); exact q_two (v := 0) (by decide +kernel) (by decide +kernel)
    · obtain rfl := q_of 8 (h.trans (by decide)); exact q_two (v := 0) (by decide +kernel) (by decide +kernel)
    · obtain rfl := q_of 9 (h.trans (by decide)); exact q_two (v := 0) (by decide +kernel) (by decide +kernel)
    · obtain rfl := q_of 10 (h.trans (by decide)); exact q_two (v := 0) (by decide +kernel) (by decide +kernel)
    · obtain rfl := q_of 11 (h.trans (by decide)); exact q_two (v := 0) (by decide +kernel) (by decide +kernel)
    · obtain rfl := q_of 12 (h.trans (by decide)); exact q_two (v := 0) (by decide +kernel) (by decide +kernel)
    · obtain rfl := q_of 13 (h.trans (by decide)); exact q_two (v := 0) (by decide +kernel) (by decide +kernel)
    · obtain rfl := q_of 14 (h.trans (by decide)); exact q_two (v := 0) (by decide +kernel) (by decide +kernel)
    · obtain rfl := q_of 15 (h.trans (by decide)); exact q_two (v := 0) (by decide +kernel) (by decide +kernel)
    · obtain rfl := q_of 16 (h.trans (by decide)); exact q_two (v := 0) (by decide +kernel) (by decide +kernel)
    · obtain rfl := q_of 17 (h.trans (by decide)); exact q_two (v := 0) (by decide +kernel) (by decide +kernel)
    · obtain rfl := q_of 18 (h.trans (by decide)); exact q_two (v := 0) (by decide +kernel) (by decide +kernel)
    · obtain rfl := q_of 19 (h.trans (by decide)); exact q_two (v := 0) (by decide +kernel) (by decide +kernel)
    · obtain rfl := q_of 20 (h.trans (by decide)); exact q_two (v := 0) (by decide +kernel) (by decide +kernel)
  · have hM : fX10_plan s0M n = some (-1, s0M) := by
      unfold fX10_plan
      exact (q_bd h).trans (if_pos rfl)
    have hC : fX9_plan s0C n = some (-1, s0C) := by
      unfold fX9_plan
      by_cases h3 : n < 1
      · exact if_pos h3
      · refine (if_neg h3).trans (if_neg ?_)
        have h3' : ¬ n.toInt < (1 : Int32).toInt := fun z => h3 (Int32.lt_iff_toInt_lt.mpr z)
        exact fun z => by have := Int32.le_iff_toInt_le.mp z; omega
    exact q_pp hC hM
def p1_28 (x y : Int32) := q_pp (oc := fX9_differ s0C x y) (om := fX10_differ s0M x y) (v := -1000000000) (s := s0C) (t := s0M) (by unfold fX9_differ; exact (q_bd (c0_ex1 x)).trans (if_pos rfl)) (by unfold fX10_differ; exact (q_bd (m0_isPicture x)).trans (if_pos rfl))
def p1_29 (x y z w : Int32) := q_pp (oc := fX9_alters s0C x y z w) (om := fX10_alters s0M x y z w) (v := -1) (s := s0C) (t := s0M) (by unfold fX9_alters; exact (q_bd (c0_cm x y z)).trans (if_pos rfl)) (by unfold fX10_alters; exact (q_bd (m0_canMeasure x y z)).trans (if_pos rfl))
def p1_30 (x y z : Int32) := q_pp (oc := fX9_measure s0C x y z) (om := fX10_measure s0M x y z) (v := 0) (s := s0C) (t := s0M) (by unfold fX9_measure; exact (q_bd (c0_cm x y z)).trans (if_pos rfl)) (by unfold fX10_measure; exact (q_bd (m0_canMeasure x y z)).trans (if_pos rfl))
theorem m0_slips (n m s : Int32) : fX10_slips s0M n m s = some (-1, s0M) := by
  unfold fX10_slips
  rcases m_isIn s0M n.toInt64 1 60 with ⟨h, -, -⟩ | ⟨h, -⟩
  · refine (q_bd h).trans ((if_neg (by decide)).trans ?_)
    rcases m_isIn s0M m.toInt64 0 999 with ⟨h, -, -⟩ | ⟨h, -⟩
    · refine (q_bd h).trans ((if_neg (by decide)).trans ?_)
      by_cases h2 : s < 0
      · exact if_pos h2
      · exact (if_neg h2).trans ((q_bd m0_rows).trans (if_pos rfl))
    · exact (q_bd h).trans (if_pos rfl)
  · exact (q_bd h).trans (if_pos rfl)
def p1_31 (n m s : Int32) := q_pp (oc := fX9_slips s0C n m s) (s := s0C) (by unfold fX9_slips; exact (q_gd (by decide)).trans ((q_nm (w := 0) (by decide +kernel)).trans ((q_nm rfl).trans (if_pos rfl)))) (m0_slips n m s)
theorem p1_33 (k : Int32) : ∃ (oc : Int32) (om : Int32), fX9_octet s0C k = some oc ∧ fX10_octet s0M k = some om ∧ oc = om ∧ True := by
  have zC : s0C.1 197 2 = 0 := by decide +kernel
  have zM : s0M.1 0 56 = 0 := by decide +kernel
  unfold fX9_octet fX10_octet
  rw [zC, zM]
  by_cases h : k < 0
  · exact q_oo (if_pos h) (if_pos h)
  · exact q_oo ((if_neg h).trans (if_neg h)) ((if_neg h).trans (if_pos (Int32.not_lt.mp h)))
def p1_2 := q_two q_blockC q_blockM
def p1_10 := q_two q_startC q_startM
def p1_15 := q_two q_partsC q_partsM
def p1_17 := q_two q_blindC q_blindM
def p1_20 := q_two q_worstC q_worstM
def p1_32 := q_two q_imageC q_imageM
def p1_34 := q_two q_onC q_onM
def p1_12 := q_oo q_sumC q_sumM
theorem p1_all (o x1 x2 x3 x4 x5 : Int32) : lOK (fun _ _ => True) o x1 x2 x3 x4 x5 s0C s0M :=
  ⟨fun _ => p1_0 _ _ _ _ _, fun _ => p1_1 _, fun _ => p1_2, fun _ => p1_3 _, fun _ => p1_4 _, fun _ => p1_5 _ _ _, fun _ => p1_6 _ _, fun _ => p1_7 _ _, fun _ => p1_8 _ _, fun _ => p1_9 _ _, fun _ => p1_10, fun _ => p1_11 _, fun _ => p1_12, fun _ => p1_13 _ _ _, fun _ => p1_14 _, fun _ => p1_15, fun _ => p1_16 _ _, fun _ => p1_17, fun _ => p1_18 _, fun _ => p1_19 _, fun _ => p1_20, fun _ => p1_21 _ _, fun _ => p1_22 _, fun _ => p1_23 _ _ _, fun _ => p1_24 _ _ _ _, fun _ => p1_25 _, fun _ => p1_26 _, fun _ => p1_27 _, fun _ => p1_28 _ _, fun _ => p1_29 _ _ _ _, fun _ => p1_30 _ _ _, fun _ => p1_31 _ _ _, fun _ => p1_32, fun _ => p1_33 _, fun _ => p1_34, fun _ => trivial⟩
end P1
