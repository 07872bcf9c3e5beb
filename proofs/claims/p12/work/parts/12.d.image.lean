/-! ANSWERS ALIKE: image (how many bytes) -/
section P12D
theorem gs_len (σ : gS) (k i : Nat) (x : Int32) : (gsI σ k i x).1 k i = x := by rw [gsI_at, if_pos rfl]
theorem wb_len {σ τ : gS} {v : Int32} (h : fX0_writeByte σ v = some τ) (h0 : 0 ≤ (σ.1 197 2).toInt) (h1 : (σ.1 197 2).toInt ≤ 377) : (τ.1 197 2).toInt = (σ.1 197 2).toInt + 1 ∧ τ.1 3 = σ.1 3 := by
  have l : (378 : Int32).toInt = 378 := by decide
  unfold fX0_writeByte at h
  rw [if_pos (Int32.lt_iff_toInt_lt.mpr (by omega)), q_gd (gb_of h0 (by omega)), nm_eq, nm_eq] at h
  cases h
  refine ⟨?_, ?_⟩
  · rw [gs_len, gsI_row (by decide)]
    exact i_inc (c := 377) (by omega) h1 (by decide)
  · rw [gsI_row (by decide), gsI_row (by decide)]
theorem wr_len {σ τ : gS} {v : Int32} (h : fX10_writes σ v = some τ) (h0 : 0 ≤ (σ.1 0 56).toInt) (h1 : (σ.1 0 56).toInt ≤ 377) : (τ.1 0 56).toInt = (σ.1 0 56).toInt + 1 ∧ τ.1 15 = σ.1 15 := by
  unfold fX10_writes at h
  rw [q_gd (gb_of h0 (by omega)), nm_eq, nm_eq] at h
  cases h
  refine ⟨?_, ?_⟩
  · rw [gs_len, gsI_row (by decide)]
    exact i_inc (c := 377) (by omega) h1 (by decide)
  · rw [gsI_row (by decide), gsI_row (by decide)]
theorem m8 {a : Int32} {n m : Int} (h : a.toInt = n) (hm : m = n - 8) (hn : 0 ≤ n ∧ n ≤ 24) : (a + (-8)).toInt = m := by
  have l : (-8 : Int32).toInt = -8 := by decide
  rw [iadd_toInt] <;> omega
theorem wp_len55 {σ τ : gS} {p : Int32} (h : fX0_writePair_55 σ p = some τ) (h0 : 0 ≤ (σ.1 197 2).toInt) (h1 : (σ.1 197 2).toInt ≤ 370) : (τ.1 197 2).toInt = (σ.1 197 2).toInt + 8 ∧ τ.1 3 = σ.1 3 := by
  unfold fX0_writePair_55 at h
  rw [nm_eq] at h
  refine lpc_part (I := fun s : Int32 × gS => 0 ≤ s.1.toInt ∧ s.1.toInt ≤ 2 ∧ (s.2.1 197 2).toInt = (σ.1 197 2).toInt + 4 * s.1.toInt ∧ s.2.1 3 = σ.1 3) (P := fun τ : gS => (τ.1 197 2).toInt = (σ.1 197 2).toInt + 8 ∧ τ.1 3 = σ.1 3) (fun rec s hs hrec o ho => ?_) K9 _ τ ⟨by show 0 ≤ (0 : Int32).toInt; decide, by show (0 : Int32).toInt ≤ 2; decide, by show (σ.1 197 2).toInt = (σ.1 197 2).toInt + 4 * (0 : Int32).toInt; rw [z0]; omega, rfl⟩ h
  obtain ⟨a, s⟩ := s
  obtain ⟨k0, k1, k2, k3⟩ := hs
  dsimp only at ho k0 k1 k2 k3
  have l2 : (2 : Int32).toInt = 2 := by decide
  unfold bX0_writePair_55_2 at ho
  by_cases z : (2 : Int32) ≤ a
  · have z' := Int32.le_iff_toInt_le.mp z
    rw [if_pos z] at ho
    cases ho
    exact ⟨by omega, k3⟩
  · have z' := q_gt z
    rw [if_neg z, nm_eq] at ho
    have e1 := i_inc (a := a) (c := 2) (by omega) k1 (by decide)
    refine lpc_part (I := fun t : Int32 × gS => ((t.1.toInt = 24 ∧ (t.2.1 197 2).toInt = (s.1 197 2).toInt) ∨ (t.1.toInt = 16 ∧ (t.2.1 197 2).toInt = (s.1 197 2).toInt + 1) ∨ (t.1.toInt = 8 ∧ (t.2.1 197 2).toInt = (s.1 197 2).toInt + 2) ∨ (t.1.toInt = 0 ∧ (t.2.1 197 2).toInt = (s.1 197 2).toInt + 3) ∨ (t.1.toInt = -8 ∧ (t.2.1 197 2).toInt = (s.1 197 2).toInt + 4)) ∧ t.2.1 3 = σ.1 3) (P := fun τ : gS => (τ.1 197 2).toInt = (σ.1 197 2).toInt + 8 ∧ τ.1 3 = σ.1 3) (fun rec2 t ht hrec2 o ho => ?_) K9 _ o ⟨.inl ⟨by show (24 : Int32).toInt = 24; decide, rfl⟩, k3⟩ ho
    obtain ⟨b, t⟩ := t
    obtain ⟨j1, j2⟩ := ht
    dsimp only at ho j1 j2
    unfold bX0_writePair_55_11 at ho
    by_cases y : b < 0
    · have y' := Int32.lt_iff_toInt_lt.mp y
      rw [z0] at y'
      rw [if_pos y, nm_eq] at ho
      exact hrec (a + 1, t) o ⟨by show 0 ≤ (a + 1).toInt; omega, by show (a + 1).toInt ≤ 2; omega, by show (t.1 197 2).toInt = _ + 4 * (a + 1).toInt; omega, j2⟩ ho
    · have y' : ¬ b.toInt < (0 : Int32).toInt := fun w => y (Int32.lt_iff_toInt_lt.mpr w)
      rw [z0] at y'
      rw [if_neg y] at ho
      obtain ⟨-, ho⟩ := gd_some ho
      obtain ⟨-, ho⟩ := gd_some ho
      rw [nm_eq] at ho
      obtain ⟨u, hu, ho⟩ := bd_some ho
      obtain ⟨w1, w2⟩ := wb_len hu (by omega) (by omega)
      rw [nm_eq] at ho
      refine hrec2 (b + (-8), u) o ⟨?_, w2.trans j2⟩ ho
      show ((b + (-8)).toInt = 24 ∧ (u.1 197 2).toInt = _) ∨ ((b + (-8)).toInt = 16 ∧ (u.1 197 2).toInt = _) ∨ ((b + (-8)).toInt = 8 ∧ (u.1 197 2).toInt = _) ∨ ((b + (-8)).toInt = 0 ∧ (u.1 197 2).toInt = _) ∨ ((b + (-8)).toInt = -8 ∧ (u.1 197 2).toInt = _)
      rcases j1 with ⟨j1, j3⟩ | ⟨j1, j3⟩ | ⟨j1, j3⟩ | ⟨j1, j3⟩ | ⟨j1, j3⟩
      · exact .inr (.inl ⟨m8 j1 (by decide) (by decide), by omega⟩)
      · exact .inr (.inr (.inl ⟨m8 j1 (by decide) (by decide), by omega⟩))
      · exact .inr (.inr (.inr (.inl ⟨m8 j1 (by decide) (by decide), by omega⟩)))
      · exact .inr (.inr (.inr (.inr ⟨m8 j1 (by decide) (by decide), by omega⟩)))
      · omega
theorem wp_len52 {σ τ : gS} {p : Int32} (h : fX0_writePair_52 σ p = some τ) (h0 : 0 ≤ (σ.1 197 2).toInt) (h1 : (σ.1 197 2).toInt ≤ 370) : (τ.1 197 2).toInt = (σ.1 197 2).toInt + 8 ∧ τ.1 3 = σ.1 3 := by
  unfold fX0_writePair_52 at h
  rw [nm_eq] at h
  refine lpc_part (I := fun s : Int32 × gS => 0 ≤ s.1.toInt ∧ s.1.toInt ≤ 2 ∧ (s.2.1 197 2).toInt = (σ.1 197 2).toInt + 4 * s.1.toInt ∧ s.2.1 3 = σ.1 3) (P := fun τ : gS => (τ.1 197 2).toInt = (σ.1 197 2).toInt + 8 ∧ τ.1 3 = σ.1 3) (fun rec s hs hrec o ho => ?_) K9 _ τ ⟨by show 0 ≤ (0 : Int32).toInt; decide, by show (0 : Int32).toInt ≤ 2; decide, by show (σ.1 197 2).toInt = (σ.1 197 2).toInt + 4 * (0 : Int32).toInt; rw [z0]; omega, rfl⟩ h
  obtain ⟨a, s⟩ := s
  obtain ⟨k0, k1, k2, k3⟩ := hs
  dsimp only at ho k0 k1 k2 k3
  have l2 : (2 : Int32).toInt = 2 := by decide
  unfold bX0_writePair_52_2 at ho
  by_cases z : (2 : Int32) ≤ a
  · have z' := Int32.le_iff_toInt_le.mp z
    rw [if_pos z] at ho
    cases ho
    exact ⟨by omega, k3⟩
  · have z' := q_gt z
    rw [if_neg z, nm_eq] at ho
    have e1 := i_inc (a := a) (c := 2) (by omega) k1 (by decide)
    refine lpc_part (I := fun t : Int32 × gS => ((t.1.toInt = 24 ∧ (t.2.1 197 2).toInt = (s.1 197 2).toInt) ∨ (t.1.toInt = 16 ∧ (t.2.1 197 2).toInt = (s.1 197 2).toInt + 1) ∨ (t.1.toInt = 8 ∧ (t.2.1 197 2).toInt = (s.1 197 2).toInt + 2) ∨ (t.1.toInt = 0 ∧ (t.2.1 197 2).toInt = (s.1 197 2).toInt + 3) ∨ (t.1.toInt = -8 ∧ (t.2.1 197 2).toInt = (s.1 197 2).toInt + 4)) ∧ t.2.1 3 = σ.1 3) (P := fun τ : gS => (τ.1 197 2).toInt = (σ.1 197 2).toInt + 8 ∧ τ.1 3 = σ.1 3) (fun rec2 t ht hrec2 o ho => ?_) K9 _ o ⟨.inl ⟨by show (24 : Int32).toInt = 24; decide, rfl⟩, k3⟩ ho
    obtain ⟨b, t⟩ := t
    obtain ⟨j1, j2⟩ := ht
    dsimp only at ho j1 j2
    unfold bX0_writePair_52_11 at ho
    by_cases y : b < 0
    · have y' := Int32.lt_iff_toInt_lt.mp y
      rw [z0] at y'
      rw [if_pos y, nm_eq] at ho
      exact hrec (a + 1, t) o ⟨by show 0 ≤ (a + 1).toInt; omega, by show (a + 1).toInt ≤ 2; omega, by show (t.1 197 2).toInt = _ + 4 * (a + 1).toInt; omega, j2⟩ ho
    · have y' : ¬ b.toInt < (0 : Int32).toInt := fun w => y (Int32.lt_iff_toInt_lt.mpr w)
      rw [z0] at y'
      rw [if_neg y] at ho
      obtain ⟨-, ho⟩ := gd_some ho
      obtain ⟨-, ho⟩ := gd_some ho
      rw [nm_eq] at ho
      obtain ⟨u, hu, ho⟩ := bd_some ho
      obtain ⟨w1, w2⟩ := wb_len hu (by omega) (by omega)
      rw [nm_eq] at ho
      refine hrec2 (b + (-8), u) o ⟨?_, w2.trans j2⟩ ho
      show ((b + (-8)).toInt = 24 ∧ (u.1 197 2).toInt = _) ∨ ((b + (-8)).toInt = 16 ∧ (u.1 197 2).toInt = _) ∨ ((b + (-8)).toInt = 8 ∧ (u.1 197 2).toInt = _) ∨ ((b + (-8)).toInt = 0 ∧ (u.1 197 2).toInt = _) ∨ ((b + (-8)).toInt = -8 ∧ (u.1 197 2).toInt = _)
      rcases j1 with ⟨j1, j3⟩ | ⟨j1, j3⟩ | ⟨j1, j3⟩ | ⟨j1, j3⟩ | ⟨j1, j3⟩
      · exact .inr (.inl ⟨m8 j1 (by decide) (by decide), by omega⟩)
      · exact .inr (.inr (.inl ⟨m8 j1 (by decide) (by decide), by omega⟩))
      · exact .inr (.inr (.inr (.inl ⟨m8 j1 (by decide) (by decide), by omega⟩)))
      · exact .inr (.inr (.inr (.inr ⟨m8 j1 (by decide) (by decide), by omega⟩)))
      · omega
theorem wp_len49 {σ τ : gS} {p : Int32} (h : fX0_writePair_49 σ p = some τ) (h0 : 0 ≤ (σ.1 197 2).toInt) (h1 : (σ.1 197 2).toInt ≤ 370) : (τ.1 197 2).toInt = (σ.1 197 2).toInt + 8 ∧ τ.1 3 = σ.1 3 := by
  unfold fX0_writePair_49 at h
  rw [nm_eq] at h
  refine lpc_part (I := fun s : Int32 × gS => 0 ≤ s.1.toInt ∧ s.1.toInt ≤ 2 ∧ (s.2.1 197 2).toInt = (σ.1 197 2).toInt + 4 * s.1.toInt ∧ s.2.1 3 = σ.1 3) (P := fun τ : gS => (τ.1 197 2).toInt = (σ.1 197 2).toInt + 8 ∧ τ.1 3 = σ.1 3) (fun rec s hs hrec o ho => ?_) K9 _ τ ⟨by show 0 ≤ (0 : Int32).toInt; decide, by show (0 : Int32).toInt ≤ 2; decide, by show (σ.1 197 2).toInt = (σ.1 197 2).toInt + 4 * (0 : Int32).toInt; rw [z0]; omega, rfl⟩ h
  obtain ⟨a, s⟩ := s
  obtain ⟨k0, k1, k2, k3⟩ := hs
  dsimp only at ho k0 k1 k2 k3
  have l2 : (2 : Int32).toInt = 2 := by decide
  unfold bX0_writePair_49_2 at ho
  by_cases z : (2 : Int32) ≤ a
  · have z' := Int32.le_iff_toInt_le.mp z
    rw [if_pos z] at ho
    cases ho
    exact ⟨by omega, k3⟩
  · have z' := q_gt z
    rw [if_neg z, nm_eq] at ho
    have e1 := i_inc (a := a) (c := 2) (by omega) k1 (by decide)
    refine lpc_part (I := fun t : Int32 × gS => ((t.1.toInt = 24 ∧ (t.2.1 197 2).toInt = (s.1 197 2).toInt) ∨ (t.1.toInt = 16 ∧ (t.2.1 197 2).toInt = (s.1 197 2).toInt + 1) ∨ (t.1.toInt = 8 ∧ (t.2.1 197 2).toInt = (s.1 197 2).toInt + 2) ∨ (t.1.toInt = 0 ∧ (t.2.1 197 2).toInt = (s.1 197 2).toInt + 3) ∨ (t.1.toInt = -8 ∧ (t.2.1 197 2).toInt = (s.1 197 2).toInt + 4)) ∧ t.2.1 3 = σ.1 3) (P := fun τ : gS => (τ.1 197 2).toInt = (σ.1 197 2).toInt + 8 ∧ τ.1 3 = σ.1 3) (fun rec2 t ht hrec2 o ho => ?_) K9 _ o ⟨.inl ⟨by show (24 : Int32).toInt = 24; decide, rfl⟩, k3⟩ ho
    obtain ⟨b, t⟩ := t
    obtain ⟨j1, j2⟩ := ht
    dsimp only at ho j1 j2
    unfold bX0_writePair_49_11 at ho
    by_cases y : b < 0
    · have y' := Int32.lt_iff_toInt_lt.mp y
      rw [z0] at y'
      rw [if_pos y, nm_eq] at ho
      exact hrec (a + 1, t) o ⟨by show 0 ≤ (a + 1).toInt; omega, by show (a + 1).toInt ≤ 2; omega, by show (t.1 197 2).toInt = _ + 4 * (a + 1).toInt; omega, j2⟩ ho
    · have y' : ¬ b.toInt < (0 : Int32).toInt := fun w => y (Int32.lt_iff_toInt_lt.mpr w)
      rw [z0] at y'
      rw [if_neg y] at ho
      obtain ⟨-, ho⟩ := gd_some ho
      obtain ⟨-, ho⟩ := gd_some ho
      rw [nm_eq] at ho
      obtain ⟨u, hu, ho⟩ := bd_some ho
      obtain ⟨w1, w2⟩ := wb_len hu (by omega) (by omega)
      rw [nm_eq] at ho
      refine hrec2 (b + (-8), u) o ⟨?_, w2.trans j2⟩ ho
      show ((b + (-8)).toInt = 24 ∧ (u.1 197 2).toInt = _) ∨ ((b + (-8)).toInt = 16 ∧ (u.1 197 2).toInt = _) ∨ ((b + (-8)).toInt = 8 ∧ (u.1 197 2).toInt = _) ∨ ((b + (-8)).toInt = 0 ∧ (u.1 197 2).toInt = _) ∨ ((b + (-8)).toInt = -8 ∧ (u.1 197 2).toInt = _)
      rcases j1 with ⟨j1, j3⟩ | ⟨j1, j3⟩ | ⟨j1, j3⟩ | ⟨j1, j3⟩ | ⟨j1, j3⟩
      · exact .inr (.inl ⟨m8 j1 (by decide) (by decide), by omega⟩)
      · exact .inr (.inr (.inl ⟨m8 j1 (by decide) (by decide), by omega⟩))
      · exact .inr (.inr (.inr (.inl ⟨m8 j1 (by decide) (by decide), by omega⟩)))
      · exact .inr (.inr (.inr (.inr ⟨m8 j1 (by decide) (by decide), by omega⟩)))
      · omega
theorem wf_len {σ τ : gS} {p : Int32} (h : fX10_writesFour σ p = some τ) (h0 : 0 ≤ (σ.1 0 56).toInt) (h1 : (σ.1 0 56).toInt ≤ 374) : (τ.1 0 56).toInt = (σ.1 0 56).toInt + 4 ∧ τ.1 15 = σ.1 15 := by
  unfold fX10_writesFour at h
  rw [nm_eq] at h
  refine lpc_part (I := fun t : Int32 × gS => ((t.1.toInt = 24 ∧ (t.2.1 0 56).toInt = (σ.1 0 56).toInt) ∨ (t.1.toInt = 16 ∧ (t.2.1 0 56).toInt = (σ.1 0 56).toInt + 1) ∨ (t.1.toInt = 8 ∧ (t.2.1 0 56).toInt = (σ.1 0 56).toInt + 2) ∨ (t.1.toInt = 0 ∧ (t.2.1 0 56).toInt = (σ.1 0 56).toInt + 3) ∨ (t.1.toInt = -8 ∧ (t.2.1 0 56).toInt = (σ.1 0 56).toInt + 4)) ∧ t.2.1 15 = σ.1 15) (P := fun τ : gS => (τ.1 0 56).toInt = (σ.1 0 56).toInt + 4 ∧ τ.1 15 = σ.1 15) (fun rec2 t ht hrec2 o ho => ?_) K9 _ τ ⟨.inl ⟨by show (24 : Int32).toInt = 24; decide, rfl⟩, rfl⟩ h
  obtain ⟨b, t⟩ := t
  obtain ⟨j1, j2⟩ := ht
  dsimp only at ho j1 j2
  unfold bX10_writesFour_3 at ho
  by_cases y : b < 0
  · have y' := Int32.lt_iff_toInt_lt.mp y
    rw [z0] at y'
    rw [if_pos y] at ho
    cases ho
    exact ⟨by omega, j2⟩
  · have y' : ¬ b.toInt < (0 : Int32).toInt := fun w => y (Int32.lt_iff_toInt_lt.mpr w)
    rw [z0] at y'
    rw [if_neg y] at ho
    obtain ⟨u, hu, ho⟩ := bd_some ho
    obtain ⟨w1, w2⟩ := wr_len hu (by omega) (by omega)
    rw [nm_eq] at ho
    refine hrec2 (b + (-8), u) o ⟨?_, w2.trans j2⟩ ho
    show ((b + (-8)).toInt = 24 ∧ (u.1 0 56).toInt = _) ∨ ((b + (-8)).toInt = 16 ∧ (u.1 0 56).toInt = _) ∨ ((b + (-8)).toInt = 8 ∧ (u.1 0 56).toInt = _) ∨ ((b + (-8)).toInt = 0 ∧ (u.1 0 56).toInt = _) ∨ ((b + (-8)).toInt = -8 ∧ (u.1 0 56).toInt = _)
    rcases j1 with ⟨j1, j3⟩ | ⟨j1, j3⟩ | ⟨j1, j3⟩ | ⟨j1, j3⟩ | ⟨j1, j3⟩
    · exact .inr (.inl ⟨m8 j1 (by decide) (by decide), by omega⟩)
    · exact .inr (.inr (.inl ⟨m8 j1 (by decide) (by decide), by omega⟩))
    · exact .inr (.inr (.inr (.inl ⟨m8 j1 (by decide) (by decide), by omega⟩)))
    · exact .inr (.inr (.inr (.inr ⟨m8 j1 (by decide) (by decide), by omega⟩)))
    · omega
theorem wl_len {σ τ : gS} {p : Int32} (h : fX10_writesPlace σ p = some τ) (h0 : 0 ≤ (σ.1 0 56).toInt) (h1 : (σ.1 0 56).toInt ≤ 370) : (τ.1 0 56).toInt = (σ.1 0 56).toInt + 8 ∧ τ.1 15 = σ.1 15 := by
  unfold fX10_writesPlace at h
  obtain ⟨-, h⟩ := gd_some h
  rw [nm_eq] at h
  obtain ⟨u, hu, h⟩ := bd_some h
  obtain ⟨a1, a2⟩ := wf_len hu h0 (by omega)
  obtain ⟨-, h⟩ := gd_some h
  rw [nm_eq] at h
  obtain ⟨w, hw, h⟩ := bd_some h
  obtain ⟨b1, b2⟩ := wf_len hw (by omega) (by omega)
  cases h
  exact ⟨by omega, b2.trans a2⟩
noncomputable def IML (n0 n1 n2 n3 : Int) : Int := 2 + 9 * n1 + 8 * n2 + 8 * n0 + n3
theorem il_c115 {σ ρ s : gS} {o : Int32 × gS} (b0 : 0 ≤ (σ.1 3 0).toInt ∧ (σ.1 3 0).toInt ≤ 6) (b1 : 0 ≤ (σ.1 3 1).toInt ∧ (σ.1 3 1).toInt ≤ 12) (b2 : 0 ≤ (σ.1 3 2).toInt ∧ (σ.1 3 2).toInt ≤ 20) (b3 : 0 ≤ (σ.1 3 3).toInt ∧ (σ.1 3 3).toInt ≤ 60) (hr : s.1 3 = σ.1 3) (hl : (s.1 197 2).toInt = 1 + 9 * (σ.1 3 1).toInt + 8 * (σ.1 3 2).toInt + 8 * (σ.1 3 0).toInt) (h : lpc (S := Int32 × gS) K9 (fun rec s => bX0_write_47_115 ρ (fun a2 σ1 => rec (a2, σ1)) s.1 s.2) (0, s) = some o) : o.1.toInt = IML (σ.1 3 0).toInt (σ.1 3 1).toInt (σ.1 3 2).toInt (σ.1 3 3).toInt := by
  refine lpc_part (I := fun t : Int32 × gS => 0 ≤ t.1.toInt ∧ t.1.toInt ≤ (σ.1 3 3).toInt ∧ (t.2.1 197 2).toInt = 1 + 9 * (σ.1 3 1).toInt + 8 * (σ.1 3 2).toInt + 8 * (σ.1 3 0).toInt + 1 * t.1.toInt ∧ t.2.1 3 = σ.1 3) (P := fun o : Int32 × gS => o.1.toInt = IML (σ.1 3 0).toInt (σ.1 3 1).toInt (σ.1 3 2).toInt (σ.1 3 3).toInt) (fun rec t ht hrec o ho => ?_) K9 _ o ⟨by show 0 ≤ (0 : Int32).toInt; decide, by show (0 : Int32).toInt ≤ _; rw [z0]; exact b3.1, by show (s.1 197 2).toInt = _ + _ * (0 : Int32).toInt; rw [z0]; omega, hr⟩ h
  obtain ⟨a, t⟩ := t
  obtain ⟨k0, k1, k2, k3⟩ := ht
  dsimp only at ho k0 k1 k2 k3
  unfold bX0_write_47_115 at ho
  rw [q_gd (by decide), nm_eq] at ho
  have ec : t.1 3 ((3 : Int32).toNatClampNeg) = (σ.1 3 3) := by rw [k3]; rfl
  rw [ec] at ho
  by_cases z : (σ.1 3 3) ≤ a
  · have z' := Int32.le_iff_toInt_le.mp z
    rw [if_pos z] at ho
    obtain ⟨r, -, ho⟩ := bd_some ho
    obtain ⟨u, hu, ho⟩ := bd_some ho
    obtain ⟨w1, w2⟩ := wb_len hu (by omega) (by omega)
    rw [fst_so ho]
    unfold IML
    omega
  · have z' := q_gt z
    rw [if_neg z] at ho
    have e1 := i_inc (a := a) (c := 60) (by omega) (by omega) (by decide)
    obtain ⟨-, ho⟩ := gd_some ho
    rw [nm_eq] at ho
    obtain ⟨u, hu, ho⟩ := bd_some ho
    obtain ⟨w1, w2⟩ := wb_len hu (by omega) (by omega)
    rw [nm_eq] at ho
    exact hrec (a + 1, u) o ⟨by show 0 ≤ (a + 1).toInt; omega, by show (a + 1).toInt ≤ _; omega, by show (u.1 197 2).toInt = _ + _ * (a + 1).toInt; omega, w2.trans k3⟩ ho
theorem il_c85 {σ ρ s : gS} {o : Int32 × gS} (b0 : 0 ≤ (σ.1 3 0).toInt ∧ (σ.1 3 0).toInt ≤ 6) (b1 : 0 ≤ (σ.1 3 1).toInt ∧ (σ.1 3 1).toInt ≤ 12) (b2 : 0 ≤ (σ.1 3 2).toInt ∧ (σ.1 3 2).toInt ≤ 20) (b3 : 0 ≤ (σ.1 3 3).toInt ∧ (σ.1 3 3).toInt ≤ 60) (hr : s.1 3 = σ.1 3) (hl : (s.1 197 2).toInt = 1 + 9 * (σ.1 3 1).toInt + 8 * (σ.1 3 2).toInt) (h : lpc (S := Int32 × gS) K9 (fun rec s => bX0_write_47_85 ρ (fun a2 σ1 => rec (a2, σ1)) s.1 s.2) (0, s) = some o) : o.1.toInt = IML (σ.1 3 0).toInt (σ.1 3 1).toInt (σ.1 3 2).toInt (σ.1 3 3).toInt := by
  refine lpc_part (I := fun t : Int32 × gS => 0 ≤ t.1.toInt ∧ t.1.toInt ≤ (σ.1 3 0).toInt ∧ (t.2.1 197 2).toInt = 1 + 9 * (σ.1 3 1).toInt + 8 * (σ.1 3 2).toInt + 8 * t.1.toInt ∧ t.2.1 3 = σ.1 3) (P := fun o : Int32 × gS => o.1.toInt = IML (σ.1 3 0).toInt (σ.1 3 1).toInt (σ.1 3 2).toInt (σ.1 3 3).toInt) (fun rec t ht hrec o ho => ?_) K9 _ o ⟨by show 0 ≤ (0 : Int32).toInt; decide, by show (0 : Int32).toInt ≤ _; rw [z0]; exact b0.1, by show (s.1 197 2).toInt = _ + _ * (0 : Int32).toInt; rw [z0]; omega, hr⟩ h
  obtain ⟨a, t⟩ := t
  obtain ⟨k0, k1, k2, k3⟩ := ht
  dsimp only at ho k0 k1 k2 k3
  unfold bX0_write_47_85 at ho
  rw [q_gd (by decide), nm_eq] at ho
  have ec : t.1 3 ((0 : Int32).toNatClampNeg) = (σ.1 3 0) := by rw [k3]; rfl
  rw [ec] at ho
  by_cases z : (σ.1 3 0) ≤ a
  · have z' := Int32.le_iff_toInt_le.mp z
    rw [if_pos z] at ho
    rw [nm_eq] at ho
    exact il_c115 b0 b1 b2 b3 k3 (by omega) ho
  · have z' := q_gt z
    rw [if_neg z] at ho
    have e1 := i_inc (a := a) (c := 60) (by omega) (by omega) (by decide)
    obtain ⟨u, hu, ho⟩ := bd_some ho
    obtain ⟨w1, w2⟩ := wp_len55 hu (by omega) (by omega)
    rw [nm_eq] at ho
    exact hrec (a + 1, u) o ⟨by show 0 ≤ (a + 1).toInt; omega, by show (a + 1).toInt ≤ _; omega, by show (u.1 197 2).toInt = _ + _ * (a + 1).toInt; omega, w2.trans k3⟩ ho
theorem il_c55 {σ ρ s : gS} {o : Int32 × gS} (b0 : 0 ≤ (σ.1 3 0).toInt ∧ (σ.1 3 0).toInt ≤ 6) (b1 : 0 ≤ (σ.1 3 1).toInt ∧ (σ.1 3 1).toInt ≤ 12) (b2 : 0 ≤ (σ.1 3 2).toInt ∧ (σ.1 3 2).toInt ≤ 20) (b3 : 0 ≤ (σ.1 3 3).toInt ∧ (σ.1 3 3).toInt ≤ 60) (hr : s.1 3 = σ.1 3) (hl : (s.1 197 2).toInt = 1 + 9 * (σ.1 3 1).toInt) (h : lpc (S := Int32 × gS) K9 (fun rec s => bX0_write_47_55 ρ (fun a2 σ1 => rec (a2, σ1)) s.1 s.2) (0, s) = some o) : o.1.toInt = IML (σ.1 3 0).toInt (σ.1 3 1).toInt (σ.1 3 2).toInt (σ.1 3 3).toInt := by
  refine lpc_part (I := fun t : Int32 × gS => 0 ≤ t.1.toInt ∧ t.1.toInt ≤ (σ.1 3 2).toInt ∧ (t.2.1 197 2).toInt = 1 + 9 * (σ.1 3 1).toInt + 8 * t.1.toInt ∧ t.2.1 3 = σ.1 3) (P := fun o : Int32 × gS => o.1.toInt = IML (σ.1 3 0).toInt (σ.1 3 1).toInt (σ.1 3 2).toInt (σ.1 3 3).toInt) (fun rec t ht hrec o ho => ?_) K9 _ o ⟨by show 0 ≤ (0 : Int32).toInt; decide, by show (0 : Int32).toInt ≤ _; rw [z0]; exact b2.1, by show (s.1 197 2).toInt = _ + _ * (0 : Int32).toInt; rw [z0]; omega, hr⟩ h
  obtain ⟨a, t⟩ := t
  obtain ⟨k0, k1, k2, k3⟩ := ht
  dsimp only at ho k0 k1 k2 k3
  unfold bX0_write_47_55 at ho
  rw [q_gd (by decide), nm_eq] at ho
  have ec : t.1 3 ((2 : Int32).toNatClampNeg) = (σ.1 3 2) := by rw [k3]; rfl
  rw [ec] at ho
  by_cases z : (σ.1 3 2) ≤ a
  · have z' := Int32.le_iff_toInt_le.mp z
    rw [if_pos z] at ho
    rw [nm_eq] at ho
    exact il_c85 b0 b1 b2 b3 k3 (by omega) ho
  · have z' := q_gt z
    rw [if_neg z] at ho
    have e1 := i_inc (a := a) (c := 60) (by omega) (by omega) (by decide)
    obtain ⟨u, hu, ho⟩ := bd_some ho
    obtain ⟨w1, w2⟩ := wp_len52 hu (by omega) (by omega)
    rw [nm_eq] at ho
    exact hrec (a + 1, u) o ⟨by show 0 ≤ (a + 1).toInt; omega, by show (a + 1).toInt ≤ _; omega, by show (u.1 197 2).toInt = _ + _ * (a + 1).toInt; omega, w2.trans k3⟩ ho
theorem il_c15 {σ ρ s : gS} {o : Int32 × gS} (b0 : 0 ≤ (σ.1 3 0).toInt ∧ (σ.1 3 0).toInt ≤ 6) (b1 : 0 ≤ (σ.1 3 1).toInt ∧ (σ.1 3 1).toInt ≤ 12) (b2 : 0 ≤ (σ.1 3 2).toInt ∧ (σ.1 3 2).toInt ≤ 20) (b3 : 0 ≤ (σ.1 3 3).toInt ∧ (σ.1 3 3).toInt ≤ 60) (hr : s.1 3 = σ.1 3) (hl : (s.1 197 2).toInt = 1) (h : lpc (S := Int32 × gS) K9 (fun rec s => bX0_write_47_15 ρ (fun a2 σ1 => rec (a2, σ1)) s.1 s.2) (0, s) = some o) : o.1.toInt = IML (σ.1 3 0).toInt (σ.1 3 1).toInt (σ.1 3 2).toInt (σ.1 3 3).toInt := by
  refine lpc_part (I := fun t : Int32 × gS => 0 ≤ t.1.toInt ∧ t.1.toInt ≤ (σ.1 3 1).toInt ∧ (t.2.1 197 2).toInt = 1 + 9 * t.1.toInt ∧ t.2.1 3 = σ.1 3) (P := fun o : Int32 × gS => o.1.toInt = IML (σ.1 3 0).toInt (σ.1 3 1).toInt (σ.1 3 2).toInt (σ.1 3 3).toInt) (fun rec t ht hrec o ho => ?_) K9 _ o ⟨by show 0 ≤ (0 : Int32).toInt; decide, by show (0 : Int32).toInt ≤ _; rw [z0]; exact b1.1, by show (s.1 197 2).toInt = _ + _ * (0 : Int32).toInt; rw [z0]; omega, hr⟩ h
  obtain ⟨a, t⟩ := t
  obtain ⟨k0, k1, k2, k3⟩ := ht
  dsimp only at ho k0 k1 k2 k3
  unfold bX0_write_47_15 at ho
  rw [q_gd (by decide), nm_eq] at ho
  have ec : t.1 3 ((1 : Int32).toNatClampNeg) = (σ.1 3 1) := by rw [k3]; rfl
  rw [ec] at ho
  by_cases z : (σ.1 3 1) ≤ a
  · have z' := Int32.le_iff_toInt_le.mp z
    rw [if_pos z] at ho
    rw [nm_eq] at ho
    exact il_c55 b0 b1 b2 b3 k3 (by omega) ho
  · have z' := q_gt z
    rw [if_neg z] at ho
    have e1 := i_inc (a := a) (c := 60) (by omega) (by omega) (by decide)
    obtain ⟨-, ho⟩ := gd_some ho
    rw [nm_eq] at ho
    obtain ⟨u, hu, ho⟩ := bd_some ho
    obtain ⟨w1, w2⟩ := wb_len hu (by omega) (by omega)
    obtain ⟨v, hv, ho⟩ := bd_some ho
    obtain ⟨v1, v2⟩ := wp_len49 hv (by omega) (by omega)
    rw [nm_eq] at ho
    exact hrec (a + 1, v) o ⟨by show 0 ≤ (a + 1).toInt; omega, by show (a + 1).toInt ≤ _; omega, by show (v.1 197 2).toInt = _ + _ * (a + 1).toInt; omega, v2.trans (w2.trans k3)⟩ ho
theorem il_m97 {σ ρ s : gS} {o : Int32 × gS} (b0 : 0 ≤ (σ.1 15 6).toInt ∧ (σ.1 15 6).toInt ≤ 6) (b1 : 0 ≤ (σ.1 15 7).toInt ∧ (σ.1 15 7).toInt ≤ 12) (b2 : 0 ≤ (σ.1 15 8).toInt ∧ (σ.1 15 8).toInt ≤ 20) (b3 : 0 ≤ (σ.1 15 9).toInt ∧ (σ.1 15 9).toInt ≤ 60) (hr : s.1 15 = σ.1 15) (hl : (s.1 0 56).toInt = 1 + 9 * (σ.1 15 7).toInt + 8 * (σ.1 15 8).toInt + 8 * (σ.1 15 6).toInt) (h : lpc (S := Int32 × gS) K9 (fun rec s => bX10_image_97 ρ (fun a1 σ1 => rec (a1, σ1)) s.1 s.2) (0, s) = some o) : o.1.toInt = IML (σ.1 15 6).toInt (σ.1 15 7).toInt (σ.1 15 8).toInt (σ.1 15 9).toInt := by
  refine lpc_part (I := fun t : Int32 × gS => 0 ≤ t.1.toInt ∧ t.1.toInt ≤ (σ.1 15 9).toInt ∧ (t.2.1 0 56).toInt = 1 + 9 * (σ.1 15 7).toInt + 8 * (σ.1 15 8).toInt + 8 * (σ.1 15 6).toInt + 1 * t.1.toInt ∧ t.2.1 15 = σ.1 15) (P := fun o : Int32 × gS => o.1.toInt = IML (σ.1 15 6).toInt (σ.1 15 7).toInt (σ.1 15 8).toInt (σ.1 15 9).toInt) (fun rec t ht hrec o ho => ?_) K9 _ o ⟨by show 0 ≤ (0 : Int32).toInt; decide, by show (0 : Int32).toInt ≤ _; rw [z0]; exact b3.1, by show (s.1 0 56).toInt = _ + _ * (0 : Int32).toInt; rw [z0]; omega, hr⟩ h
  obtain ⟨a, t⟩ := t
  obtain ⟨k0, k1, k2, k3⟩ := ht
  dsimp only at ho k0 k1 k2 k3
  unfold bX10_image_97 at ho
  rw [q_bd (m_rows t), k3] at ho
  by_cases z : (σ.1 15 9) ≤ a
  · have z' := Int32.le_iff_toInt_le.mp z
    rw [if_pos z] at ho
    obtain ⟨r, -, ho⟩ := bd_some ho
    obtain ⟨u, hu, ho⟩ := bd_some ho
    obtain ⟨w1, w2⟩ := wr_len hu (by omega) (by omega)
    rw [fst_so ho]
    unfold IML
    omega
  · have z' := q_gt z
    rw [if_neg z] at ho
    have e1 := i_inc (a := a) (c := 60) (by omega) (by omega) (by decide)
    obtain ⟨-, ho⟩ := gd_some ho
    rw [nm_eq] at ho
    by_cases y : t.1 26 a.toNatClampNeg = 0
    · rw [if_pos y] at ho
      obtain ⟨u, hu, ho⟩ := bd_some ho
      obtain ⟨w1, w2⟩ := wr_len hu (by omega) (by omega)
      rw [nm_eq] at ho
      exact hrec (a + 1, u) o ⟨by show 0 ≤ (a + 1).toInt; omega, by show (a + 1).toInt ≤ _; omega, by show (u.1 0 56).toInt = _ + _ * (a + 1).toInt; omega, w2.trans k3⟩ ho
    · rw [if_neg y] at ho
      obtain ⟨u, hu, ho⟩ := bd_some ho
      obtain ⟨w1, w2⟩ := wr_len hu (by omega) (by omega)
      rw [nm_eq] at ho
      exact hrec (a + 1, u) o ⟨by show 0 ≤ (a + 1).toInt; omega, by show (a + 1).toInt ≤ _; omega, by show (u.1 0 56).toInt = _ + _ * (a + 1).toInt; omega, w2.trans k3⟩ ho
theorem il_m70 {σ ρ s : gS} {o : Int32 × gS} (b0 : 0 ≤ (σ.1 15 6).toInt ∧ (σ.1 15 6).toInt ≤ 6) (b1 : 0 ≤ (σ.1 15 7).toInt ∧ (σ.1 15 7).toInt ≤ 12) (b2 : 0 ≤ (σ.1 15 8).toInt ∧ (σ.1 15 8).toInt ≤ 20) (b3 : 0 ≤ (σ.1 15 9).toInt ∧ (σ.1 15 9).toInt ≤ 60) (hr : s.1 15 = σ.1 15) (hl : (s.1 0 56).toInt = 1 + 9 * (σ.1 15 7).toInt + 8 * (σ.1 15 8).toInt) (h : lpc (S := Int32 × gS) K9 (fun rec s => bX10_image_70 ρ (fun a1 σ1 => rec (a1, σ1)) s.1 s.2) (0, s) = some o) : o.1.toInt = IML (σ.1 15 6).toInt (σ.1 15 7).toInt (σ.1 15 8).toInt (σ.1 15 9).toInt := by
  refine lpc_part (I := fun t : Int32 × gS => 0 ≤ t.1.toInt ∧ t.1.toInt ≤ (σ.1 15 6).toInt ∧ (t.2.1 0 56).toInt = 1 + 9 * (σ.1 15 7).toInt + 8 * (σ.1 15 8).toInt + 8 * t.1.toInt ∧ t.2.1 15 = σ.1 15) (P := fun o : Int32 × gS => o.1.toInt = IML (σ.1 15 6).toInt (σ.1 15 7).toInt (σ.1 15 8).toInt (σ.1 15 9).toInt) (fun rec t ht hrec o ho => ?_) K9 _ o ⟨by show 0 ≤ (0 : Int32).toInt; decide, by show (0 : Int32).toInt ≤ _; rw [z0]; exact b0.1, by show (s.1 0 56).toInt = _ + _ * (0 : Int32).toInt; rw [z0]; omega, hr⟩ h
  obtain ⟨a, t⟩ := t
  obtain ⟨k0, k1, k2, k3⟩ := ht
  dsimp only at ho k0 k1 k2 k3
  unfold bX10_image_70 at ho
  rw [q_gd (by decide), nm_eq] at ho
  have ec : t.1 15 ((6 : Int32).toNatClampNeg) = (σ.1 15 6) := by rw [k3]; rfl
  rw [ec] at ho
  by_cases z : (σ.1 15 6) ≤ a
  · have z' := Int32.le_iff_toInt_le.mp z
    rw [if_pos z] at ho
    rw [nm_eq] at ho
    exact il_m97 b0 b1 b2 b3 k3 (by omega) ho
  · have z' := q_gt z
    rw [if_neg z] at ho
    have e1 := i_inc (a := a) (c := 60) (by omega) (by omega) (by decide)
    obtain ⟨u, hu, ho⟩ := bd_some ho
    obtain ⟨w1, w2⟩ := wl_len hu (by omega) (by omega)
    rw [nm_eq] at ho
    exact hrec (a + 1, u) o ⟨by show 0 ≤ (a + 1).toInt; omega, by show (a + 1).toInt ≤ _; omega, by show (u.1 0 56).toInt = _ + _ * (a + 1).toInt; omega, w2.trans k3⟩ ho
theorem il_m46 {σ ρ s : gS} {o : Int32 × gS} (b0 : 0 ≤ (σ.1 15 6).toInt ∧ (σ.1 15 6).toInt ≤ 6) (b1 : 0 ≤ (σ.1 15 7).toInt ∧ (σ.1 15 7).toInt ≤ 12) (b2 : 0 ≤ (σ.1 15 8).toInt ∧ (σ.1 15 8).toInt ≤ 20) (b3 : 0 ≤ (σ.1 15 9).toInt ∧ (σ.1 15 9).toInt ≤ 60) (hr : s.1 15 = σ.1 15) (hl : (s.1 0 56).toInt = 1 + 9 * (σ.1 15 7).toInt) (h : lpc (S := Int32 × gS) K9 (fun rec s => bX10_image_46 ρ (fun a1 σ1 => rec (a1, σ1)) s.1 s.2) (0, s) = some o) : o.1.toInt = IML (σ.1 15 6).toInt (σ.1 15 7).toInt (σ.1 15 8).toInt (σ.1 15 9).toInt := by
  refine lpc_part (I := fun t : Int32 × gS => 0 ≤ t.1.toInt ∧ t.1.toInt ≤ (σ.1 15 8).toInt ∧ (t.2.1 0 56).toInt = 1 + 9 * (σ.1 15 7).toInt + 8 * t.1.toInt ∧ t.2.1 15 = σ.1 15) (P := fun o : Int32 × gS => o.1.toInt = IML (σ.1 15 6).toInt (σ.1 15 7).toInt (σ.1 15 8).toInt (σ.1 15 9).toInt) (fun rec t ht hrec o ho => ?_) K9 _ o ⟨by show 0 ≤ (0 : Int32).toInt; decide, by show (0 : Int32).toInt ≤ _; rw [z0]; exact b2.1, by show (s.1 0 56).toInt = _ + _ * (0 : Int32).toInt; rw [z0]; omega, hr⟩ h
  obtain ⟨a, t⟩ := t
  obtain ⟨k0, k1, k2, k3⟩ := ht
  dsimp only at ho k0 k1 k2 k3
  unfold bX10_image_46 at ho
  rw [q_bd (m_points t), k3] at ho
  by_cases z : (σ.1 15 8) ≤ a
  · have z' := Int32.le_iff_toInt_le.mp z
    rw [if_pos z] at ho
    rw [nm_eq] at ho
    exact il_m70 b0 b1 b2 b3 k3 (by omega) ho
  · have z' := q_gt z
    rw [if_neg z] at ho
    have e1 := i_inc (a := a) (c := 60) (by omega) (by omega) (by decide)
    obtain ⟨u, hu, ho⟩ := bd_some ho
    obtain ⟨w1, w2⟩ := wl_len hu (by omega) (by omega)
    rw [nm_eq] at ho
    exact hrec (a + 1, u) o ⟨by show 0 ≤ (a + 1).toInt; omega, by show (a + 1).toInt ≤ _; omega, by show (u.1 0 56).toInt = _ + _ * (a + 1).toInt; omega, w2.trans k3⟩ ho
theorem il_m15 {σ ρ s : gS} {o : Int32 × gS} (b0 : 0 ≤ (σ.1 15 6).toInt ∧ (σ.1 15 6).toInt ≤ 6) (b1 : 0 ≤ (σ.1 15 7).toInt ∧ (σ.1 15 7).toInt ≤ 12) (b2 : 0 ≤ (σ.1 15 8).toInt ∧ (σ.1 15 8).toInt ≤ 20) (b3 : 0 ≤ (σ.1 15 9).toInt ∧ (σ.1 15 9).toInt ≤ 60) (hr : s.1 15 = σ.1 15) (hl : (s.1 0 56).toInt = 1) (h : lpc (S := Int32 × gS) K9 (fun rec s => bX10_image_15 ρ (fun a1 σ1 => rec (a1, σ1)) s.1 s.2) (0, s) = some o) : o.1.toInt = IML (σ.1 15 6).toInt (σ.1 15 7).toInt (σ.1 15 8).toInt (σ.1 15 9).toInt := by
  refine lpc_part (I := fun t : Int32 × gS => 0 ≤ t.1.toInt ∧ t.1.toInt ≤ (σ.1 15 7).toInt ∧ (t.2.1 0 56).toInt = 1 + 9 * t.1.toInt ∧ t.2.1 15 = σ.1 15) (P := fun o : Int32 × gS => o.1.toInt = IML (σ.1 15 6).toInt (σ.1 15 7).toInt (σ.1 15 8).toInt (σ.1 15 9).toInt) (fun rec t ht hrec o ho => ?_) K9 _ o ⟨by show 0 ≤ (0 : Int32).toInt; decide, by show (0 : Int32).toInt ≤ _; rw [z0]; exact b1.1, by show (s.1 0 56).toInt = _ + _ * (0 : Int32).toInt; rw [z0]; omega, hr⟩ h
  obtain ⟨a, t⟩ := t
  obtain ⟨k0, k1, k2, k3⟩ := ht
  dsimp only at ho k0 k1 k2 k3
  unfold bX10_image_15 at ho
  rw [q_bd (m_pictures t), k3] at ho
  by_cases z : (σ.1 15 7) ≤ a
  · have z' := Int32.le_iff_toInt_le.mp z
    rw [if_pos z] at ho
    rw [nm_eq] at ho
    exact il_m46 b0 b1 b2 b3 k3 (by omega) ho
  · have z' := q_gt z
    rw [if_neg z] at ho
    have e1 := i_inc (a := a) (c := 60) (by omega) (by omega) (by decide)
    obtain ⟨-, ho⟩ := gd_some ho
    rw [nm_eq] at ho
    obtain ⟨u, hu, ho⟩ := bd_some ho
    obtain ⟨w1, w2⟩ := wr_len hu (by omega) (by omega)
    obtain ⟨v, hv, ho⟩ := bd_some ho
    obtain ⟨v1, v2⟩ := wl_len hv (by omega) (by omega)
    rw [nm_eq] at ho
    exact hrec (a + 1, v) o ⟨by show 0 ≤ (a + 1).toInt; omega, by show (a + 1).toInt ≤ _; omega, by show (v.1 0 56).toInt = _ + _ * (a + 1).toInt; omega, v2.trans (w2.trans k3)⟩ ho
theorem c_32 {σC σM : gS} (h : IV σC σM) : ∃ (oc : Int32 × gS) (om : Int32 × gS), fX9_image σC = some oc ∧ fX10_image σM = some om ∧ oc.1 = om.1 ∧ IV oc.2 om.2 := by
  obtain ⟨oc, om, eC, eM, hI⟩ := g_32 h
  refine ⟨oc, om, eC, eM, ?_, hI⟩
  obtain ⟨n3, n2, n1, n0⟩ := IV_n h
  have m3 := (JM_n h.2.1).1
  have m2 := (JM_n h.2.1).2.1
  have m1 := (JM_n h.2.1).2.2.1
  have m0 := (JM_n h.2.1).2.2.2
  have hC : oc.1.toInt = IML (σC.1 3 0).toInt (σC.1 3 1).toInt (σC.1 3 2).toInt (σC.1 3 3).toInt := by
    unfold fX9_image at eC
    obtain ⟨r, s, e, e2⟩ := bd2_ex eC
    cases e2
    unfold fX0_write_47 at e
    rw [nm_eq] at e
    obtain ⟨u, hu, e⟩ := bd_some e
    have l0 : ((gsI σC 197 2 0).1 197 2).toInt = 0 := by rw [gs_len]; exact z0
    obtain ⟨w1, w2⟩ := wb_len hu (by omega) (by omega)
    rw [nm_eq] at e
    exact il_c15 (σ := σC) (by rw [n0]; exact m0) (by rw [n1]; exact m1) (by rw [n2]; exact m2) (by rw [n3]; exact m3) (w2.trans (gsI_row (by decide))) (by omega) e
  have hM : om.1.toInt = IML (σM.1 15 6).toInt (σM.1 15 7).toInt (σM.1 15 8).toInt (σM.1 15 9).toInt := by
    unfold fX10_image at eM
    rw [nm_eq] at eM
    obtain ⟨u, hu, e⟩ := bd_some eM
    have l0 : ((gsI σM 0 56 0).1 0 56).toInt = 0 := by rw [gs_len]; exact z0
    obtain ⟨w1, w2⟩ := wr_len hu (by omega) (by omega)
    rw [nm_eq] at e
    exact il_m15 (σ := σM) m0 m1 m2 m3 (w2.trans (gsI_row (by decide))) (by omega) e
  refine Int32.toInt_inj.mp ?_
  rw [hC, hM, n0, n1, n2, n3]
end P12D
