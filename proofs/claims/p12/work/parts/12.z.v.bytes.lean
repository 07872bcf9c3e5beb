/-! THE IMAGE'S BYTES -/
section P12ZV
theorem and255 {x : Int32} (h0 : 0 ≤ x.toInt) (h1 : x.toInt ≤ 255) : x &&& 255 = x := by
  have k : ∀ n : Fin 256, Int32.ofNat n.1 &&& 255 = Int32.ofNat n.1 := by decide +kernel
  have := k ⟨x.toInt.toNat, by omega⟩
  dsimp only at this
  rw [i32_of h0] at this
  exact this
/-- what is written up to n, on both sides -/
noncomputable def WBY (σ s : gS) (n : Nat) (τ t : gS) : Prop := (∀ k, k ≠ 197 → k ≠ 198 → τ.1 k = σ.1 k) ∧ (∀ k, k ≠ 0 → k ≠ 40 → t.1 k = s.1 k) ∧ (∀ i, i ≠ 56 → t.1 0 i = s.1 0 i) ∧ (τ.1 197 2).toInt = n ∧ (t.1 0 56).toInt = n ∧ ∀ i, i < n → τ.1 198 i = t.1 40 i ∧ 0 ≤ (t.1 40 i).toInt ∧ (t.1 40 i).toInt ≤ 255
theorem wr_1 {σ s τ t : gS} {n : Nat} (h : WBY σ s n τ t) (hn : n ≤ 377) {c m : Int32} (e : c &&& 255 = m) : ∃ τ' t', fX0_writeByte τ c = some τ' ∧ fX10_writes t m = some t' ∧ WBY σ s (n + 1) τ' t' := by
  obtain ⟨h1, h2, h3, h4, h5, h6⟩ := h
  have l : (378 : Int32).toInt = 378 := by decide
  have l1 : (1 : Int32).toInt = 1 := by decide
  have lm : 0 ≤ m.toInt ∧ m.toInt ≤ 255 := by rw [← e]; exact iand_toInt (by decide) (by decide)
  refine ⟨gsI (gsI τ 198 n m) 197 2 (τ.1 197 2 + 1), gsI (gsI t 40 n m) 0 56 (t.1 0 56 + 1), ?_, ?_, fun k k1 k2 => ?_, fun k k1 k2 => ?_, fun i hi => ?_, ?_, ?_, fun i hi => ?_⟩
  · unfold fX0_writeByte
    rw [if_pos (Int32.lt_iff_toInt_lt.mpr (by omega)), q_gd (gb_of (by omega) (by omega)), nm_eq, nm_eq, e, show (τ.1 197 2).toNatClampNeg = n by rw [n_toInt]; omega, gsI_row (show 197 ≠ 198 by decide)]
  · unfold fX10_writes
    rw [q_gd (gb_of (by omega) (by omega)), nm_eq, nm_eq, show (t.1 0 56).toNatClampNeg = n by rw [n_toInt]; omega, gsI_row (show 0 ≠ 40 by decide)]
  · rw [gsI_row k1, gsI_row k2]; exact h1 k k1 k2
  · rw [gsI_row k1, gsI_row k2]; exact h2 k k1 k2
  · rw [gsI_at, if_neg hi, gsI_row (by decide)]; exact h3 i hi
  · rw [gs_len, iadd_toInt] <;> omega
  · rw [gs_len, iadd_toInt] <;> omega
  · rw [gsI_row (show 198 ≠ 197 by decide), gsI_row (show 40 ≠ 0 by decide), gsI_at, gsI_at]
    by_cases z : i = n
    · rw [if_pos z, if_pos z]; exact ⟨rfl, lm⟩
    · rw [if_neg z, if_neg z]; exact h6 i (by omega)
theorem by_alike {v b : Int32} (hb : b = 24 ∨ b = 16 ∨ b = 8 ∨ b = 0) : ((v.toUInt32 >>> (b.toUInt32 &&& Int32.toUInt32 31)).toInt32) &&& 255 = (v >>> (b &&& 31)) &&& 255 := by
  rcases hb with rfl | rfl | rfl | rfl
  · rw [show (24 : Int32) &&& 31 = 24 by decide]; exact (by_24 v).symm
  · rw [show (16 : Int32) &&& 31 = 16 by decide]; exact (by_16 v).symm
  · rw [show (8 : Int32) &&& 31 = 8 by decide]; exact (by_8 v).symm
  · rw [show (0 : Int32) &&& 31 = 0 by decide]; exact (by_0 v).symm
theorem m_st (t0 : gS) {t t' : gS} {v b : Int32} (hb : b = 24 ∨ b = 16 ∨ b = 8 ∨ b = 0) (e : fX10_writes t ((v >>> (b &&& 31)) &&& 255) = some t') (rec : Int32 → gS → Option gS) : bX10_writesFour_3 t0 v rec b t = rec (b + -8) t' := by
  unfold bX10_writesFour_3
  rw [if_neg (by rcases hb with rfl | rfl | rfl | rfl <;> decide), q_bd e, nm_eq]
theorem st_49 {σ s τ t : gS} {n : Nat} (h : WBY σ s n τ t) (hn : n ≤ 377) {p a b : Int32} (p0 : 0 ≤ p.toInt) (p1 : p.toInt < 12) (ha : a = 0 ∨ a = 1) (hb : b = 24 ∨ b = 16 ∨ b = 8 ∨ b = 0) : ∃ τ' t', WBY σ s (n + 1) τ' t' ∧ (∀ (τ0 : gS) (rec2 rec : Int32 → gS → Option gS), bX0_writePair_49_11 τ0 p a rec2 rec b τ = rec (b + -8) τ') ∧ ∀ (t0 : gS) (rec : Int32 → gS → Option gS), bX10_writesFour_3 t0 (σ.1 (50 + a.toInt.toNat) p.toInt.toNat) rec b t = rec (b + -8) t' := by
  obtain ⟨τ', t', e1, e2, w⟩ := wr_1 h hn (by_alike (v := σ.1 (50 + a.toInt.toNat) p.toInt.toNat) hb)
  have a1 : a.toInt.toNat ≤ 1 := by rcases ha with rfl | rfl <;> decide
  refine ⟨τ', t', w, fun τ0 rec2 rec => ?_, fun t0 rec => m_st t0 hb e2 rec⟩
  unfold bX0_writePair_49_11
  rw [if_neg (by rcases hb with rfl | rfl | rfl | rfl <;> decide), q_gd (by rcases ha with rfl | rfl <;> decide), q_gd (gb_of p0 p1), nm_eq, n_toInt, n_toInt, h.1 (50 + a.toInt.toNat) (by omega) (by omega), q_bd e1, nm_eq]
theorem four_49 {σ s τ t : gS} {n : Nat} (h : WBY σ s n τ t) (hn : n ≤ 374) {p a : Int32} (p0 : 0 ≤ p.toInt) (p1 : p.toInt < 12) (ha : a = 0 ∨ a = 1) : ∃ τ' t', WBY σ s (n + 4) τ' t' ∧ (∀ (τ0 : gS) (rec2 : Int32 → gS → Option gS), lpc (S := Int32 × gS) K9 (fun rec x => bX0_writePair_49_11 τ0 p a rec2 (fun a4 σ1 => rec (a4, σ1)) x.1 x.2) (24, τ) = rec2 (a + 1) τ') ∧ fX10_writesFour t (σ.1 (50 + a.toInt.toNat) p.toInt.toNat) = some t' := by
  obtain ⟨τ1, t1, w1, c1, d1⟩ := st_49 h (by omega) p0 p1 ha (b := 24) (.inl rfl)
  obtain ⟨τ2, t2, w2, c2, d2⟩ := st_49 w1 (by omega) p0 p1 ha (b := 16) (.inr (.inl rfl))
  obtain ⟨τ3, t3, w3, c3, d3⟩ := st_49 w2 (by omega) p0 p1 ha (b := 8) (.inr (.inr (.inl rfl)))
  obtain ⟨τ4, t4, w4, c4, d4⟩ := st_49 w3 (by omega) p0 p1 ha (b := 0) (.inr (.inr (.inr rfl)))
  refine ⟨τ4, t4, w4, fun τ0 rec2 => ?_, ?_⟩
  · rw [lpc_pos (by unfold K9; omega)]
    refine (c1 τ0 rec2 _).trans ?_
    rw [lpc_pos (by unfold K9; omega)]
    refine (c2 τ0 rec2 _).trans ?_
    rw [lpc_pos (by unfold K9; omega)]
    refine (c3 τ0 rec2 _).trans ?_
    rw [lpc_pos (by unfold K9; omega)]
    refine (c4 τ0 rec2 _).trans ?_
    rw [lpc_pos (by unfold K9; omega)]
    show bX0_writePair_49_11 τ0 p a rec2 _ (0 + -8) τ4 = _
    unfold bX0_writePair_49_11
    rw [if_pos (by decide), nm_eq]
  · unfold fX10_writesFour
    rw [nm_eq, lpc_pos (by unfold K9; omega)]
    refine (d1 t _).trans ?_
    rw [lpc_pos (by unfold K9; omega)]
    refine (d2 t _).trans ?_
    rw [lpc_pos (by unfold K9; omega)]
    refine (d3 t _).trans ?_
    rw [lpc_pos (by unfold K9; omega)]
    refine (d4 t _).trans ?_
    rw [lpc_pos (by unfold K9; omega)]
    show bX10_writesFour_3 t _ _ (0 + -8) t4 = _
    unfold bX10_writesFour_3
    rw [if_pos (by decide)]
theorem pair_49 {σ s τ t : gS} {n : Nat} (h : WBY σ s n τ t) (hn : n ≤ 370) {p c : Int32} (p0 : 0 ≤ p.toInt) (p1 : p.toInt < 12) (c0 : 0 ≤ c.toInt) (c1 : c.toInt ≤ 37) (e0 : σ.1 50 p.toInt.toNat = s.1 28 c.toInt.toNat) (e1 : σ.1 51 p.toInt.toNat = s.1 28 (38 + c.toInt.toNat)) : ∃ τ' t', WBY σ s (n + 8) τ' t' ∧ fX0_writePair_49 τ p = some τ' ∧ fX10_writesPlace t c = some t' := by
  obtain ⟨τ1, t1, w1, f1, g1⟩ := four_49 h (by omega) p0 p1 (a := 0) (.inl rfl)
  obtain ⟨τ2, t2, w2, f2, g2⟩ := four_49 w1 (by omega) p0 p1 (a := 1) (.inr rfl)
  have l38 : (38 : Int32).toInt = 38 := by decide
  have n38 : (38 + c).toInt = 38 + c.toInt := by rw [iadd_toInt] <;> omega
  refine ⟨τ2, t2, w2, ?_, ?_⟩
  · unfold fX0_writePair_49
    rw [nm_eq, lpc_pos (by unfold K9; omega)]
    show bX0_writePair_49_2 τ p _ 0 τ = _
    unfold bX0_writePair_49_2
    rw [if_neg (by decide), nm_eq, f1, show (0 : Int32) + 1 = 1 by decide, lpc_pos (by unfold K9; omega)]
    show bX0_writePair_49_2 τ p _ 1 τ1 = _
    unfold bX0_writePair_49_2
    rw [if_neg (by decide), nm_eq, f2, show (1 : Int32) + 1 = 2 by decide, lpc_pos (by unfold K9; omega)]
    show bX0_writePair_49_2 τ p _ 2 τ2 = _
    unfold bX0_writePair_49_2
    rw [if_pos (by decide)]
  · have q0 : σ.1 (50 + (0 : Int32).toInt.toNat) p.toInt.toNat = s.1 28 c.toInt.toNat := e0
    have q1 : σ.1 (50 + (1 : Int32).toInt.toNat) p.toInt.toNat = s.1 28 (38 + c.toInt.toNat) := e1
    rw [q0] at g1
    rw [q1] at g2
    unfold fX10_writesPlace
    rw [q_gd (gb_of c0 (by omega)), nm_eq, n_toInt, h.2.1 28 (by decide) (by decide), q_bd g1, q_gd (gb_of (by omega) (by omega)), nm_eq, show (38 + c).toNatClampNeg = 38 + c.toInt.toNat by rw [n_toInt]; omega, w1.2.1 28 (by decide) (by decide), q_bd g2]
theorem st_52 {σ s τ t : gS} {n : Nat} (h : WBY σ s n τ t) (hn : n ≤ 377) {p a b : Int32} (p0 : 0 ≤ p.toInt) (p1 : p.toInt < 20) (ha : a = 0 ∨ a = 1) (hb : b = 24 ∨ b = 16 ∨ b = 8 ∨ b = 0) : ∃ τ' t', WBY σ s (n + 1) τ' t' ∧ (∀ (τ0 : gS) (rec2 rec : Int32 → gS → Option gS), bX0_writePair_52_11 τ0 p a rec2 rec b τ = rec (b + -8) τ') ∧ ∀ (t0 : gS) (rec : Int32 → gS → Option gS), bX10_writesFour_3 t0 (σ.1 (53 + a.toInt.toNat) p.toInt.toNat) rec b t = rec (b + -8) t' := by
  obtain ⟨τ', t', e1, e2, w⟩ := wr_1 h hn (by_alike (v := σ.1 (53 + a.toInt.toNat) p.toInt.toNat) hb)
  have a1 : a.toInt.toNat ≤ 1 := by rcases ha with rfl | rfl <;> decide
  refine ⟨τ', t', w, fun τ0 rec2 rec => ?_, fun t0 rec => m_st t0 hb e2 rec⟩
  unfold bX0_writePair_52_11
  rw [if_neg (by rcases hb with rfl | rfl | rfl | rfl <;> decide), q_gd (by rcases ha with rfl | rfl <;> decide), q_gd (gb_of p0 p1), nm_eq, n_toInt, n_toInt, h.1 (53 + a.toInt.toNat) (by omega) (by omega), q_bd e1, nm_eq]
theorem four_52 {σ s τ t : gS} {n : Nat} (h : WBY σ s n τ t) (hn : n ≤ 374) {p a : Int32} (p0 : 0 ≤ p.toInt) (p1 : p.toInt < 20) (ha : a = 0 ∨ a = 1) : ∃ τ' t', WBY σ s (n + 4) τ' t' ∧ (∀ (τ0 : gS) (rec2 : Int32 → gS → Option gS), lpc (S := Int32 × gS) K9 (fun rec x => bX0_writePair_52_11 τ0 p a rec2 (fun a4 σ1 => rec (a4, σ1)) x.1 x.2) (24, τ) = rec2 (a + 1) τ') ∧ fX10_writesFour t (σ.1 (53 + a.toInt.toNat) p.toInt.toNat) = some t' := by
  obtain ⟨τ1, t1, w1, c1, d1⟩ := st_52 h (by omega) p0 p1 ha (b := 24) (.inl rfl)
  obtain ⟨τ2, t2, w2, c2, d2⟩ := st_52 w1 (by omega) p0 p1 ha (b := 16) (.inr (.inl rfl))
  obtain ⟨τ3, t3, w3, c3, d3⟩ := st_52 w2 (by omega) p0 p1 ha (b := 8) (.inr (.inr (.inl rfl)))
  obtain ⟨τ4, t4, w4, c4, d4⟩ := st_52 w3 (by omega) p0 p1 ha (b := 0) (.inr (.inr (.inr rfl)))
  refine ⟨τ4, t4, w4, fun τ0 rec2 => ?_, ?_⟩
  · rw [lpc_pos (by unfold K9; omega)]
    refine (c1 τ0 rec2 _).trans ?_
    rw [lpc_pos (by unfold K9; omega)]
    refine (c2 τ0 rec2 _).trans ?_
    rw [lpc_pos (by unfold K9; omega)]
    refine (c3 τ0 rec2 _).trans ?_
    rw [lpc_pos (by unfold K9; omega)]
    refine (c4 τ0 rec2 _).trans ?_
    rw [lpc_pos (by unfold K9; omega)]
    show bX0_writePair_52_11 τ0 p a rec2 _ (0 + -8) τ4 = _
    unfold bX0_writePair_52_11
    rw [if_pos (by decide), nm_eq]
  · unfold fX10_writesFour
    rw [nm_eq, lpc_pos (by unfold K9; omega)]
    refine (d1 t _).trans ?_
    rw [lpc_pos (by unfold K9; omega)]
    refine (d2 t _).trans ?_
    rw [lpc_pos (by unfold K9; omega)]
    refine (d3 t _).trans ?_
    rw [lpc_pos (by unfold K9; omega)]
    refine (d4 t _).trans ?_
    rw [lpc_pos (by unfold K9; omega)]
    show bX10_writesFour_3 t _ _ (0 + -8) t4 = _
    unfold bX10_writesFour_3
    rw [if_pos (by decide)]
theorem pair_52 {σ s τ t : gS} {n : Nat} (h : WBY σ s n τ t) (hn : n ≤ 370) {p c : Int32} (p0 : 0 ≤ p.toInt) (p1 : p.toInt < 20) (c0 : 0 ≤ c.toInt) (c1 : c.toInt ≤ 37) (e0 : σ.1 53 p.toInt.toNat = s.1 28 c.toInt.toNat) (e1 : σ.1 54 p.toInt.toNat = s.1 28 (38 + c.toInt.toNat)) : ∃ τ' t', WBY σ s (n + 8) τ' t' ∧ fX0_writePair_52 τ p = some τ' ∧ fX10_writesPlace t c = some t' := by
  obtain ⟨τ1, t1, w1, f1, g1⟩ := four_52 h (by omega) p0 p1 (a := 0) (.inl rfl)
  obtain ⟨τ2, t2, w2, f2, g2⟩ := four_52 w1 (by omega) p0 p1 (a := 1) (.inr rfl)
  have l38 : (38 : Int32).toInt = 38 := by decide
  have n38 : (38 + c).toInt = 38 + c.toInt := by rw [iadd_toInt] <;> omega
  refine ⟨τ2, t2, w2, ?_, ?_⟩
  · unfold fX0_writePair_52
    rw [nm_eq, lpc_pos (by unfold K9; omega)]
    show bX0_writePair_52_2 τ p _ 0 τ = _
    unfold bX0_writePair_52_2
    rw [if_neg (by decide), nm_eq, f1, show (0 : Int32) + 1 = 1 by decide, lpc_pos (by unfold K9; omega)]
    show bX0_writePair_52_2 τ p _ 1 τ1 = _
    unfold bX0_writePair_52_2
    rw [if_neg (by decide), nm_eq, f2, show (1 : Int32) + 1 = 2 by decide, lpc_pos (by unfold K9; omega)]
    show bX0_writePair_52_2 τ p _ 2 τ2 = _
    unfold bX0_writePair_52_2
    rw [if_pos (by decide)]
  · have q0 : σ.1 (53 + (0 : Int32).toInt.toNat) p.toInt.toNat = s.1 28 c.toInt.toNat := e0
    have q1 : σ.1 (53 + (1 : Int32).toInt.toNat) p.toInt.toNat = s.1 28 (38 + c.toInt.toNat) := e1
    rw [q0] at g1
    rw [q1] at g2
    unfold fX10_writesPlace
    rw [q_gd (gb_of c0 (by omega)), nm_eq, n_toInt, h.2.1 28 (by decide) (by decide), q_bd g1, q_gd (gb_of (by omega) (by omega)), nm_eq, show (38 + c).toNatClampNeg = 38 + c.toInt.toNat by rw [n_toInt]; omega, w1.2.1 28 (by decide) (by decide), q_bd g2]
theorem st_55 {σ s τ t : gS} {n : Nat} (h : WBY σ s n τ t) (hn : n ≤ 377) {p a b : Int32} (p0 : 0 ≤ p.toInt) (p1 : p.toInt < 6) (ha : a = 0 ∨ a = 1) (hb : b = 24 ∨ b = 16 ∨ b = 8 ∨ b = 0) : ∃ τ' t', WBY σ s (n + 1) τ' t' ∧ (∀ (τ0 : gS) (rec2 rec : Int32 → gS → Option gS), bX0_writePair_55_11 τ0 p a rec2 rec b τ = rec (b + -8) τ') ∧ ∀ (t0 : gS) (rec : Int32 → gS → Option gS), bX10_writesFour_3 t0 (σ.1 (56 + a.toInt.toNat) p.toInt.toNat) rec b t = rec (b + -8) t' := by
  obtain ⟨τ', t', e1, e2, w⟩ := wr_1 h hn (by_alike (v := σ.1 (56 + a.toInt.toNat) p.toInt.toNat) hb)
  have a1 : a.toInt.toNat ≤ 1 := by rcases ha with rfl | rfl <;> decide
  refine ⟨τ', t', w, fun τ0 rec2 rec => ?_, fun t0 rec => m_st t0 hb e2 rec⟩
  unfold bX0_writePair_55_11
  rw [if_neg (by rcases hb with rfl | rfl | rfl | rfl <;> decide), q_gd (by rcases ha with rfl | rfl <;> decide), q_gd (gb_of p0 p1), nm_eq, n_toInt, n_toInt, h.1 (56 + a.toInt.toNat) (by omega) (by omega), q_bd e1, nm_eq]
theorem four_55 {σ s τ t : gS} {n : Nat} (h : WBY σ s n τ t) (hn : n ≤ 374) {p a : Int32} (p0 : 0 ≤ p.toInt) (p1 : p.toInt < 6) (ha : a = 0 ∨ a = 1) : ∃ τ' t', WBY σ s (n + 4) τ' t' ∧ (∀ (τ0 : gS) (rec2 : Int32 → gS → Option gS), lpc (S := Int32 × gS) K9 (fun rec x => bX0_writePair_55_11 τ0 p a rec2 (fun a4 σ1 => rec (a4, σ1)) x.1 x.2) (24, τ) = rec2 (a + 1) τ') ∧ fX10_writesFour t (σ.1 (56 + a.toInt.toNat) p.toInt.toNat) = some t' := by
  obtain ⟨τ1, t1, w1, c1, d1⟩ := st_55 h (by omega) p0 p1 ha (b := 24) (.inl rfl)
  obtain ⟨τ2, t2, w2, c2, d2⟩ := st_55 w1 (by omega) p0 p1 ha (b := 16) (.inr (.inl rfl))
  obtain ⟨τ3, t3, w3, c3, d3⟩ := st_55 w2 (by omega) p0 p1 ha (b := 8) (.inr (.inr (.inl rfl)))
  obtain ⟨τ4, t4, w4, c4, d4⟩ := st_55 w3 (by omega) p0 p1 ha (b := 0) (.inr (.inr (.inr rfl)))
  refine ⟨τ4, t4, w4, fun τ0 rec2 => ?_, ?_⟩
  · rw [lpc_pos (by unfold K9; omega)]
    refine (c1 τ0 rec2 _).trans ?_
    rw [lpc_pos (by unfold K9; omega)]
    refine (c2 τ0 rec2 _).trans ?_
    rw [lpc_pos (by unfold K9; omega)]
    refine (c3 τ0 rec2 _).trans ?_
    rw [lpc_pos (by unfold K9; omega)]
    refine (c4 τ0 rec2 _).trans ?_
    rw [lpc_pos (by unfold K9; omega)]
    show bX0_writePair_55_11 τ0 p a rec2 _ (0 + -8) τ4 = _
    unfold bX0_writePair_55_11
    rw [if_pos (by decide), nm_eq]
  · unfold fX10_writesFour
    rw [nm_eq, lpc_pos (by unfold K9; omega)]
    refine (d1 t _).trans ?_
    rw [lpc_pos (by unfold K9; omega)]
    refine (d2 t _).trans ?_
    rw [lpc_pos (by unfold K9; omega)]
    refine (d3 t _).trans ?_
    rw [lpc_pos (by unfold K9; omega)]
    refine (d4 t _).trans ?_
    rw [lpc_pos (by unfold K9; omega)]
    show bX10_writesFour_3 t _ _ (0 + -8) t4 = _
    unfold bX10_writesFour_3
    rw [if_pos (by decide)]
theorem pair_55 {σ s τ t : gS} {n : Nat} (h : WBY σ s n τ t) (hn : n ≤ 370) {p c : Int32} (p0 : 0 ≤ p.toInt) (p1 : p.toInt < 6) (c0 : 0 ≤ c.toInt) (c1 : c.toInt ≤ 37) (e0 : σ.1 56 p.toInt.toNat = s.1 28 c.toInt.toNat) (e1 : σ.1 57 p.toInt.toNat = s.1 28 (38 + c.toInt.toNat)) : ∃ τ' t', WBY σ s (n + 8) τ' t' ∧ fX0_writePair_55 τ p = some τ' ∧ fX10_writesPlace t c = some t' := by
  obtain ⟨τ1, t1, w1, f1, g1⟩ := four_55 h (by omega) p0 p1 (a := 0) (.inl rfl)
  obtain ⟨τ2, t2, w2, f2, g2⟩ := four_55 w1 (by omega) p0 p1 (a := 1) (.inr rfl)
  have l38 : (38 : Int32).toInt = 38 := by decide
  have n38 : (38 + c).toInt = 38 + c.toInt := by rw [iadd_toInt] <;> omega
  refine ⟨τ2, t2, w2, ?_, ?_⟩
  · unfold fX0_writePair_55
    rw [nm_eq, lpc_pos (by unfold K9; omega)]
    show bX0_writePair_55_2 τ p _ 0 τ = _
    unfold bX0_writePair_55_2
    rw [if_neg (by decide), nm_eq, f1, show (0 : Int32) + 1 = 1 by decide, lpc_pos (by unfold K9; omega)]
    show bX0_writePair_55_2 τ p _ 1 τ1 = _
    unfold bX0_writePair_55_2
    rw [if_neg (by decide), nm_eq, f2, show (1 : Int32) + 1 = 2 by decide, lpc_pos (by unfold K9; omega)]
    show bX0_writePair_55_2 τ p _ 2 τ2 = _
    unfold bX0_writePair_55_2
    rw [if_pos (by decide)]
  · have q0 : σ.1 (56 + (0 : Int32).toInt.toNat) p.toInt.toNat = s.1 28 c.toInt.toNat := e0
    have q1 : σ.1 (56 + (1 : Int32).toInt.toNat) p.toInt.toNat = s.1 28 (38 + c.toInt.toNat) := e1
    rw [q0] at g1
    rw [q1] at g2
    unfold fX10_writesPlace
    rw [q_gd (gb_of c0 (by omega)), nm_eq, n_toInt, h.2.1 28 (by decide) (by decide), q_bd g1, q_gd (gb_of (by omega) (by omega)), nm_eq, show (38 + c).toNatClampNeg = 38 + c.toInt.toNat by rw [n_toInt]; omega, w1.2.1 28 (by decide) (by decide), q_bd g2]
theorem chk_2 {σ s τ t : gS} {n : Nat} (h : WBY σ s n τ t) (hn : n ≤ 377) : ∃ v : Int32, fX0_check τ 198 (τ.1 197 2) = some v ∧ fX10_checked t 40 (t.1 0 56) = some v ∧ 0 ≤ v.toInt ∧ v.toInt ≤ 255 := by
  obtain ⟨h1, h2, h3, h4, h5, h6⟩ := h
  have z0' := z0
  have l5 : (5 : Int32).toInt = 5 := by decide
  have l45 : (45 : Int32).toInt = 45 := by decide
  have e : τ.1 197 2 = t.1 0 56 := Int32.toInt_inj.mp (by omega)
  have gz1 : gsz zC.1 0 0 198 = 378 := by decide
  have gz2 : gsz zM.1 0 0 40 = 400 := by decide
  have key : Re (fX0_check τ 198 (τ.1 197 2)) (fX10_checked t 40 (t.1 0 56)) (fun a b => a = b ∧ 0 ≤ b.toInt ∧ b.toInt ≤ 255) := by
    unfold fX0_check fX10_checked
    rw [nm_eq, nm_eq, nm_eq, nm_eq, e]
    refine re_lpc (I := fun (m : Nat) (x y : Int32 × Int32) => m = n - y.2.toInt.toNat ∧ 0 ≤ y.2.toInt ∧ y.2.toInt ≤ n ∧ (0 ≤ y.1.toInt ∧ y.1.toInt ≤ 255) ∧ x = y) (fun f g m x y hs hrec => ?_) K9 K9 n (45, 0) (45, 0) ⟨by dsimp only; omega, by dsimp only; omega, by dsimp only; omega, ⟨by dsimp only; omega, by dsimp only; omega⟩, rfl⟩ (by unfold K9; omega) (by unfold K9; omega)
    obtain ⟨a, i⟩ := y
    obtain ⟨hm, i0, i1, ⟨a0, a1⟩, ex⟩ := hs
    subst ex
    dsimp only at hm i0 i1 a0 a1 ⊢
    unfold bX0_check_5 bX10_checked_5
    simp only [nm_eq]
    rw [gz1, gz2]
    by_cases hk : t.1 0 56 ≤ i
    · rw [if_pos hk, if_pos hk]
      exact ⟨_, _, rfl, rfl, rfl, a0, a1⟩
    have hlt := q_gt hk
    have ei := i_inc (a := i) (c := 400) (by omega) (by omega) (by decide)
    obtain ⟨b1, b2, b3⟩ := h6 i.toInt.toNat (by omega)
    have m5 : (5 * a).toInt = 5 * a.toInt := imulc (by decide) (by omega) (by omega)
    have s5 : (5 * a + t.1 40 i.toInt.toNat).toInt = 5 * a.toInt + (t.1 40 i.toInt.toNat).toInt := by rw [iadd_toInt] <;> omega
    have r := irm_toInt (x := 5 * a + t.1 40 i.toInt.toNat) (c := 241) (n := 241) (by omega) (by decide)
    rw [if_neg hk, if_neg hk, q_gd (gb_of i0 (by omega)), q_gd (gb_of i0 (by omega)), n_toInt, b1]
    exact hrec (n - (i + 1).toInt.toNat) _ _ (by omega) ⟨rfl, by dsimp only; omega, by dsimp only; omega, ⟨by dsimp only; omega, by dsimp only; omega⟩, rfl⟩
  obtain ⟨a, b, ea, eb, rfl, b0, b1⟩ := key
  exact ⟨a, ea, eb, b0, b1⟩
/-- what the last image holds, on both sides -/
noncomputable def OC (σ s : gS) : Prop := σ.1 197 2 = s.1 0 56 ∧ (0 ≤ (s.1 0 56).toInt ∧ (s.1 0 56).toInt ≤ 378) ∧ ∀ i : Nat, (i : Int) < (s.1 0 56).toInt → σ.1 198 i = s.1 40 i
theorem oc_wr {σ s τ t : gS} {n : Nat} (h : WBY σ s n τ t) (hn : n ≤ 378) : OC τ t := by
  obtain ⟨h1, h2, h3, h4, h5, h6⟩ := h
  exact ⟨Int32.toInt_inj.mp (by omega), by omega, fun i hi => (h6 i (by omega)).1⟩
set_option maxHeartbeats 1000000 in
theorem image_2 {σ s : gS} (h : GT σ s) : Re (fX9_image σ) (fX10_image s) (fun oc om => oc.1 = om.1 ∧ OC oc.2 om.2) := by
  obtain ⟨b9, b8, b7, b6⟩ := gt_n h
  obtain ⟨n3, n2, n1, n0⟩ := tr_n h.2.2.1
  have z0' := z0
  have l1 : (1 : Int32).toInt = 1 := by decide
  have l12 : (12 : Int32).toInt = 12 := by decide
  have l32 : (32 : Int32).toInt = 32 := by decide
  obtain ⟨-, -, -, g1, g2, g3, g4, g5, g6, g7, -⟩ := h
  have key : Re (fX0_write_47 σ) (fX10_image s) (fun oc om => oc.1 = om.1 ∧ OC oc.2 om.2) := by
    have w0 : WBY σ s 0 (gsI σ 197 2 0) (gsI s 0 56 0) := ⟨fun k k1 k2 => gsI_row k1, fun k k1 k2 => gsI_row k1, fun i hi => by rw [gsI_at, if_neg hi], by rw [gs_len]; decide, by rw [gs_len]; decide, fun i hi => absurd hi (by omega)⟩
    have e47 : (gsI σ 197 2 0).1 47 1 = s.1 0 36 := by rw [gsI_row (by decide)]; exact g1
    have e36 : (gsI s 0 56 0).1 0 36 = s.1 0 36 := by rw [gsI_at, if_neg (by decide)]
    obtain ⟨τ, t, d1, d2, w⟩ := wr_1 w0 (by omega) (and255 (x := s.1 0 36) (by omega) (by omega))
    unfold fX0_write_47 fX10_image
    rw [nm_eq, nm_eq, e47, e36, q_bd d1, q_bd d2, nm_eq, nm_eq]
    refine re_lpc (I := fun (m : Nat) (x y : Int32 × gS) => m = ((s.1 15 7).toInt - y.1.toInt).toNat ∧ 0 ≤ y.1.toInt ∧ y.1.toInt ≤ (s.1 15 7).toInt ∧ x.1 = y.1 ∧ WBY σ s (1 + 9 * y.1.toInt.toNat) x.2 y.2) (fun f g m x y hs hrec => ?_) K9 K9 (s.1 15 7).toInt.toNat (0, τ) (0, t) ⟨by dsimp only; omega, by dsimp only; omega, by dsimp only; omega, rfl, w⟩ (by unfold K9; omega) (by unfold K9; omega)
    clear w d1 d2 w0 e47 e36
    obtain ⟨p', τ⟩ := x
    obtain ⟨p, t⟩ := y
    obtain ⟨hm, p0, p1, ep, w⟩ := hs
    dsimp only at hm p0 p1 ep w ⊢
    subst ep
    have ec : τ.1 3 ((1 : Int32).toNatClampNeg) = s.1 15 7 := by rw [w.1 3 (by decide) (by decide)]; exact n1
    unfold bX0_write_47_15 bX10_image_15
    simp only [nm_eq]
    rw [q_gd (by decide), ec, q_bd (m_pictures t), w.2.1 15 (by decide) (by decide)]
    by_cases hk : s.1 15 7 ≤ p'
    rotate_left
    · have hlt := q_gt hk
      have ei := i_inc (a := p') (c := 60) (by omega) (by omega) (by decide)
      obtain ⟨c1, c2, c3⟩ := g3 p'.toInt.toNat (by omega)
      obtain ⟨τ1, t1, d1, d2, w1⟩ := wr_1 w (by omega) (and255 (x := s.1 27 p'.toInt.toNat) (by omega) (by omega))
      obtain ⟨τ2, t2, w2, d3, d4⟩ := pair_49 w1 (by omega) (p := p') (c := p') p0 (by omega) p0 (by omega) (by
        have := g4 0 p'.toInt.toNat (by decide) (by omega)
        rw [show 38 * 0 + p'.toInt.toNat = p'.toInt.toNat by omega] at this
        exact this) (by
        have := g4 1 p'.toInt.toNat (by decide) (by omega)
        rw [show 38 * 1 + p'.toInt.toNat = 38 + p'.toInt.toNat by omega] at this
        exact this)
      rw [if_neg hk, if_neg hk, q_gd (gb_of p0 (by omega)), q_gd (gb_of p0 (by omega)), n_toInt, w.1 48 (by decide) (by decide), c1, q_bd d1, q_bd d3, w.2.1 27 (by decide) (by decide), q_bd d2, q_bd d4]
      exact hrec ((s.1 15 7).toInt - (p' + 1).toInt).toNat (p' + 1, τ2) (p' + 1, t2) (by omega) ⟨rfl, by dsimp only; omega, by dsimp only; omega, rfl, by
        rw [show 1 + 9 * (p' + 1).toInt.toNat = 1 + 9 * p'.toInt.toNat + 1 + 8 by omega]
        exact w2⟩
    have hk' := Int32.le_iff_toInt_le.mp hk
    rw [show p'.toInt.toNat = (s.1 15 7).toInt.toNat by omega] at w
    rw [if_pos hk, if_pos hk]
    clear hrec hm hk hk' p0 p1 ec
    obtain ⟨N, hN⟩ : ∃ N, N = 1 + 9 * (s.1 15 7).toInt.toNat := ⟨_, rfl⟩
    rw [← hN] at w
    -- points
    refine re_lpc (I := fun (m : Nat) (x y : Int32 × gS) => m = ((s.1 15 8).toInt - y.1.toInt).toNat ∧ 0 ≤ y.1.toInt ∧ y.1.toInt ≤ (s.1 15 8).toInt ∧ x.1 = y.1 ∧ WBY σ s (N + 8 * y.1.toInt.toNat) x.2 y.2) (fun f g m x y hs hrec => ?_) K9 K9 (s.1 15 8).toInt.toNat (0, τ) (0, t) ⟨by dsimp only; omega, by dsimp only; omega, by dsimp only; omega, rfl, w⟩ (by unfold K9; omega) (by unfold K9; omega)
    clear w
    obtain ⟨p', τ⟩ := x
    obtain ⟨p, t⟩ := y
    obtain ⟨hm, p0, p1, ep, w⟩ := hs
    dsimp only at hm p0 p1 ep w ⊢
    subst ep
    have ec : τ.1 3 ((2 : Int32).toNatClampNeg) = s.1 15 8 := by rw [w.1 3 (by decide) (by decide)]; exact n2
    unfold bX0_write_47_55 bX10_image_46
    simp only [nm_eq]
    rw [q_gd (by decide), ec, q_bd (m_points t), w.2.1 15 (by decide) (by decide)]
    by_cases hk : s.1 15 8 ≤ p'
    rotate_left
    · have hlt := q_gt hk
      have ei := i_inc (a := p') (c := 60) (by omega) (by omega) (by decide)
      have e12 : (12 + p').toInt = 12 + p'.toInt := by rw [iadd_toInt] <;> omega
      obtain ⟨τ2, t2, w2, d3, d4⟩ := pair_52 w (by omega) (p := p') (c := 12 + p') p0 (by omega) (by omega) (by omega) (by
        have := g5 0 p'.toInt.toNat (by decide) (by omega)
        rw [show 38 * 0 + (12 + p'.toInt.toNat) = (12 + p').toInt.toNat by omega] at this
        exact this) (by
        have := g5 1 p'.toInt.toNat (by decide) (by omega)
        rw [show 38 * 1 + (12 + p'.toInt.toNat) = 38 + (12 + p').toInt.toNat by omega] at this
        exact this)
      rw [if_neg hk, if_neg hk, q_bd d3, q_bd d4]
      exact hrec ((s.1 15 8).toInt - (p' + 1).toInt).toNat (p' + 1, τ2) (p' + 1, t2) (by omega) ⟨rfl, by dsimp only; omega, by dsimp only; omega, rfl, by
        rw [show N + 8 * (p' + 1).toInt.toNat = N + 8 * p'.toInt.toNat + 8 by omega]
        exact w2⟩
    have hk' := Int32.le_iff_toInt_le.mp hk
    rw [show p'.toInt.toNat = (s.1 15 8).toInt.toNat by omega] at w
    rw [if_pos hk, if_pos hk]
    clear hrec hm hk hk' p0 p1 ec
    obtain ⟨N2, hN2⟩ : ∃ N2, N2 = N + 8 * (s.1 15 8).toInt.toNat := ⟨_, rfl⟩
    rw [← hN2] at w
    -- drifts
    refine re_lpc (I := fun (m : Nat) (x y : Int32 × gS) => m = ((s.1 15 6).toInt - y.1.toInt).toNat ∧ 0 ≤ y.1.toInt ∧ y.1.toInt ≤ (s.1 15 6).toInt ∧ x.1 = y.1 ∧ WBY σ s (N2 + 8 * y.1.toInt.toNat) x.2 y.2) (fun f g m x y hs hrec => ?_) K9 K9 (s.1 15 6).toInt.toNat (0, τ) (0, t) ⟨by dsimp only; omega, by dsimp only; omega, by dsimp only; omega, rfl, w⟩ (by unfold K9; omega) (by unfold K9; omega)
    clear w
    obtain ⟨p', τ⟩ := x
    obtain ⟨p, t⟩ := y
    obtain ⟨hm, p0, p1, ep, w⟩ := hs
    dsimp only at hm p0 p1 ep w ⊢
    subst ep
    have ec : τ.1 3 ((0 : Int32).toNatClampNeg) = s.1 15 6 := by rw [w.1 3 (by decide) (by decide)]; exact n0
    have ec2 : t.1 15 ((6 : Int32).toNatClampNeg) = s.1 15 6 := by rw [w.2.1 15 (by decide) (by decide)]; rfl
    unfold bX0_write_47_85 bX10_image_70
    simp only [nm_eq]
    rw [q_gd (show gb 0 6 = true by decide), ec, q_gd (show gb 6 12 = true by decide), ec2]
    by_cases hk : s.1 15 6 ≤ p'
    rotate_left
    · have hlt := q_gt hk
      have ei := i_inc (a := p') (c := 60) (by omega) (by omega) (by decide)
      have e12 : (32 + p').toInt = 32 + p'.toInt := by rw [iadd_toInt] <;> omega
      obtain ⟨τ2, t2, w2, d3, d4⟩ := pair_55 w (by omega) (p := p') (c := 32 + p') p0 (by omega) (by omega) (by omega) (by
        have := g6 0 p'.toInt.toNat (by decide) (by omega)
        rw [show 38 * 0 + (32 + p'.toInt.toNat) = (32 + p').toInt.toNat by omega] at this
        exact this) (by
        have := g6 1 p'.toInt.toNat (by decide) (by omega)
        rw [show 38 * 1 + (32 + p'.toInt.toNat) = 38 + (32 + p').toInt.toNat by omega] at this
        exact this)
      rw [if_neg hk, if_neg hk, q_bd d3, q_bd d4]
      exact hrec ((s.1 15 6).toInt - (p' + 1).toInt).toNat (p' + 1, τ2) (p' + 1, t2) (by omega) ⟨rfl, by dsimp only; omega, by dsimp only; omega, rfl, by
        rw [show N2 + 8 * (p' + 1).toInt.toNat = N2 + 8 * p'.toInt.toNat + 8 by omega]
        exact w2⟩
    have hk' := Int32.le_iff_toInt_le.mp hk
    rw [show p'.toInt.toNat = (s.1 15 6).toInt.toNat by omega] at w
    rw [if_pos hk, if_pos hk]
    clear hrec hm hk hk' p0 p1 ec ec2
    obtain ⟨N3, hN3⟩ : ∃ N3, N3 = N2 + 8 * (s.1 15 6).toInt.toNat := ⟨_, rfl⟩
    rw [← hN3] at w
    -- rows
    refine re_lpc (I := fun (m : Nat) (x y : Int32 × gS) => m = ((s.1 15 9).toInt - y.1.toInt).toNat ∧ 0 ≤ y.1.toInt ∧ y.1.toInt ≤ (s.1 15 9).toInt ∧ x.1 = y.1 ∧ WBY σ s (N3 + y.1.toInt.toNat) x.2 y.2) (fun f g m x y hs hrec => ?_) K9 K9 (s.1 15 9).toInt.toNat (0, τ) (0, t) ⟨by dsimp only; omega, by dsimp only; omega, by dsimp only; omega, rfl, w⟩ (by unfold K9; omega) (by unfold K9; omega)
    clear w
    obtain ⟨p', τ⟩ := x
    obtain ⟨p, t⟩ := y
    obtain ⟨hm, p0, p1, ep, w⟩ := hs
    dsimp only at hm p0 p1 ep w ⊢
    subst ep
    have ec : τ.1 3 ((3 : Int32).toNatClampNeg) = s.1 15 9 := by rw [w.1 3 (by decide) (by decide)]; exact n3
    unfold bX0_write_47_115 bX10_image_97
    simp only [nm_eq]
    rw [q_gd (by decide), ec, q_bd (m_rows t), w.2.1 15 (by decide) (by decide)]
    by_cases hk : s.1 15 9 ≤ p'
    · have hk' := Int32.le_iff_toInt_le.mp hk
      obtain ⟨v, v1, v2, v3, v4⟩ := chk_2 w (by omega)
      obtain ⟨τ1, t1, d1, d2, w1⟩ := wr_1 w (by omega) (and255 v3 v4)
      rw [if_pos hk, if_pos hk, q_bd v1, q_bd d1, q_bd v2, q_bd d2]
      have o := oc_wr w1 (by omega)
      exact ⟨_, _, rfl, rfl, o.1, o⟩
    have hlt := q_gt hk
    have ei := i_inc (a := p') (c := 60) (by omega) (by omega) (by decide)
    have D := g7 p'.toInt.toNat (by omega)
    have go : ∀ τ1 t1, WBY σ s (N3 + p'.toInt.toNat + 1) τ1 t1 → Re (f (p' + 1, τ1)) (g (p' + 1, t1)) (fun oc om => oc.1 = om.1 ∧ OC oc.2 om.2) := fun τ1 t1 w1 => hrec ((s.1 15 9).toInt - (p' + 1).toInt).toNat (p' + 1, τ1) (p' + 1, t1) (by omega) ⟨rfl, by dsimp only; omega, by dsimp only; omega, rfl, by
      rw [show N3 + (p' + 1).toInt.toNat = N3 + p'.toInt.toNat + 1 by omega]
      exact w1⟩
    rw [if_neg hk, if_neg hk, q_gd (gb_of p0 (by omega)), q_gd (gb_of p0 (by omega)), n_toInt, w.1 58 (by decide) (by decide), D.1, w.2.1 26 (by decide) (by decide)]
    rcases D.2 with z | z
    · obtain ⟨τ1, t1, d1, d2, w1⟩ := wr_1 w (by omega) (c := 0) (m := 0) (by decide)
      rw [z, q_bd d1, if_pos rfl, q_bd d2]
      exact go τ1 t1 w1
    · obtain ⟨τ1, t1, d1, d2, w1⟩ := wr_1 w (by omega) (c := 1) (m := 1) (by decide)
      rw [z, q_bd d1, if_neg one_ne, q_bd d2]
      exact go τ1 t1 w1
  obtain ⟨a, b, ea, eb, e⟩ := key
  unfold fX9_image
  rw [q_bd2 ea]
  exact ⟨_, b, rfl, eb, e⟩
theorem octet_2 {σ s : gS} (h : OC σ s) (x : Int32) : ∃ v : Int32, fX9_octet σ x = some v ∧ fX10_octet s x = some v := by
  obtain ⟨h1, h2, h3⟩ := h
  have z0' := z0
  unfold fX9_octet fX10_octet
  rcases lt_or x 0 with ⟨a, a'⟩ | ⟨a, a'⟩
  · rw [if_pos a, if_pos a]; exact ⟨_, rfl, rfl⟩
  rw [if_neg a, if_neg a, h1]
  by_cases b : s.1 0 56 ≤ x
  · have b' := Int32.le_iff_toInt_le.mp b
    rw [if_pos b, if_neg (show ¬ x < s.1 0 56 from fun y => by have := Int32.lt_iff_toInt_lt.mp y; omega)]
    exact ⟨_, rfl, rfl⟩
  · have b' := q_gt b
    rw [if_neg b, if_pos (show x < s.1 0 56 from Int32.lt_iff_toInt_lt.mpr b'), q_gd (gb_of (by omega) (by omega)), nm_eq, q_gd (gb_of (by omega) (by omega)), nm_eq, n_toInt, h3 x.toInt.toNat (by omega)]
    exact ⟨_, rfl, rfl⟩
end P12ZV
