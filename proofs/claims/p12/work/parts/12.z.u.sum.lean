/-! WHAT IS ASKED, 5: sum -/
section P12ZU
/-- how far a picture lies from its centre, on one axis, as the reference has it -/
noncomputable def fa (s : gS) (p a : Nat) : Int64 := (s.1 28 (38 * a + p) - s.1 28 (38 * a + (32 + (s.1 16 (12 + p)).toInt.toNat)) - 100 * s.1 19 (24 + (2 * p + a))).toInt64
noncomputable def fc (s : gS) (p : Nat) : Int64 := (s.1 18 (12 + p)).toInt64 * fa s p 0 * fa s p 0 + (s.1 18 (12 + p)).toInt64 * fa s p 1 * fa s p 1
theorem alg64 (A c X Y : Int64) : A + c * X * X + c * Y * Y = A + c * (X * X + Y * Y) := by
  rw [Int64.mul_add, Int64.mul_assoc, Int64.mul_assoc, Int64.add_assoc]
theorem alg2 (A c X Y : Int64) : A + c * (X * X + Y * Y) = A + (c * X * X + c * Y * Y) := by
  rw [Int64.mul_add, Int64.mul_assoc, Int64.mul_assoc]
theorem m_sumc {s : gS} {σ : gS} (h : GT σ s) {p : Int32} (p0 : 0 ≤ p.toInt) (p1 : p.toInt < (s.1 15 7).toInt) {g : Int64 × Int32 → Option Int64} (A : Int64) : lpc (S := Int64 × Int32) K9 (fun rec x => bX10_sum_48 s p (fun a1 a3 => g (a1, a3)) (fun a1 a4 => rec (a1, a4)) x.1 x.2) (A, 0) = g (A + fc s p.toInt.toNat, p + 1) := by
  have z0' := z0
  have l1 : (1 : Int32).toInt = 1 := by decide
  have l2 : (2 : Int32).toInt = 2 := by decide
  have l12 : (12 : Int32).toInt = 12 := by decide
  have l24 : (24 : Int32).toInt = 24 := by decide
  have l32 : (32 : Int32).toInt = 32 := by decide
  have b7 := (gt_n h).2.2.1
  have b6 := (gt_n h).2.2.2
  obtain ⟨f1, f2, f3⟩ := ps_2 h p0 p1
  have P := h.2.2.1.2.2.1 p.toInt.toNat (by omega)
  have s0 : 0 ≤ (s.1 16 (12 + p.toInt.toNat)).toInt := (h.2.1 16 (12 + p.toInt.toNat)).1
  have s1 := P.2.2.2.1
  have t2 : (2 * p).toInt = 2 * p.toInt := imulc (by decide) (by omega) (by omega)
  have t24 : (24 + 2 * p).toInt = 24 + 2 * p.toInt := by rw [iadd_toInt] <;> omega
  have step : ∀ (a : Int32) (B : Int64) (rec : Int64 × Int32 → Option Int64), (a = 0 ∨ a = 1) → bX10_sum_48 s p (fun a1 a3 => g (a1, a3)) (fun a1 a4 => rec (a1, a4)) B a = rec (B + (s.1 18 (12 + p.toInt.toNat)).toInt64 * fa s p.toInt.toNat a.toInt.toNat * fa s p.toInt.toNat a.toInt.toNat, a + 1) := fun a B rec ha => by
    have a0 : 0 ≤ a.toInt ∧ a.toInt ≤ 1 := by rcases ha with rfl | rfl <;> decide
    have m1 : (38 * a).toInt = 38 * a.toInt := imulc (by decide) (by omega) (by omega)
    have m2 : (38 * a + p).toInt = 38 * a.toInt + p.toInt := by rw [iadd_toInt] <;> omega
    have m3 : (38 * a + 32).toInt = 38 * a.toInt + 32 := by rw [iadd_toInt] <;> omega
    have m4 : (38 * a + 32 + s.1 16 (12 + p.toInt.toNat)).toInt = 38 * a.toInt + 32 + (s.1 16 (12 + p.toInt.toNat)).toInt := by rw [iadd_toInt] <;> omega
    have m5 : (24 + 2 * p + a).toInt = 24 + 2 * p.toInt + a.toInt := by rw [iadd_toInt] <;> omega
    unfold bX10_sum_48 fa
    rw [if_neg (q_nle (by omega)), q_gd (gb_of (by omega) (by omega)), nm_eq, q_bd f1, q_gd (gb_of (by omega) (by omega)), nm_eq, q_gd (gb_of (by omega) (by omega)), nm_eq, nm_eq, q_bd f2, nm_eq, nm_eq, show (38 * a + p).toNatClampNeg = 38 * a.toInt.toNat + p.toInt.toNat by rw [n_toInt]; omega, show (38 * a + 32 + s.1 16 (12 + p.toInt.toNat)).toNatClampNeg = 38 * a.toInt.toNat + (32 + (s.1 16 (12 + p.toInt.toNat)).toInt.toNat) by rw [n_toInt]; omega, show (24 + 2 * p + a).toNatClampNeg = 24 + (2 * p.toInt.toNat + a.toInt.toNat) by rw [n_toInt]; omega]
  rw [lpc_pos (by unfold K9; omega)]
  show bX10_sum_48 s p _ _ A 0 = _
  rw [step 0 A _ (.inl rfl), lpc_pos (by unfold K9; omega)]
  show bX10_sum_48 s p _ _ _ (0 + 1) = _
  rw [show (0 : Int32) + 1 = 1 by decide, step 1 _ _ (.inr rfl), lpc_pos (by unfold K9; omega)]
  show bX10_sum_48 s p _ _ _ (1 + 1) = _
  rw [show (1 : Int32) + 1 = 2 by decide]
  unfold bX10_sum_48
  rw [if_pos (by decide), nm_eq, n_0, n_1, Int64.add_assoc]
  rfl
theorem k_sumc {s : gS} {σ : gS} (h : GT σ s) {p : Int32} (p0 : 0 ≤ p.toInt) (p1 : p.toInt < (s.1 15 7).toInt) {f : Int64 × Int32 → Option Int64} (A : Int64) : bX5_squares_47_41 σ (fun a1 a3 => f (a1, a3)) A p = f (A + fc s p.toInt.toNat, p + 1) := by
  have z0' := z0
  have b7 := (gt_n h).2.2.1
  have b6 := (gt_n h).2.2.2
  have e7 : σ.1 3 ((1 : Int32).toNatClampNeg) = s.1 15 7 := (tr_n h.2.2.1).2.2.1
  have g12 := gb_of (i := p) (n := 12) p0 (by omega)
  have P := h.2.2.1.2.2.1 p.toInt.toNat (by omega)
  have s0 : 0 ≤ (s.1 16 (12 + p.toInt.toNat)).toInt := (h.2.1 16 (12 + p.toInt.toNat)).1
  have s1 := P.2.2.2.1
  have B0 := h.2.2.2.2.2.2.1 0 p.toInt.toNat (by decide) (by omega)
  have B1 := h.2.2.2.2.2.2.1 1 p.toInt.toNat (by decide) (by omega)
  have D0 := h.2.2.2.2.2.2.2.2.1 0 (s.1 16 (12 + p.toInt.toNat)).toInt.toNat (by decide) (by omega)
  have D1 := h.2.2.2.2.2.2.2.2.1 1 (s.1 16 (12 + p.toInt.toNat)).toInt.toNat (by decide) (by omega)
  have g6 := gb_of (i := s.1 16 (12 + p.toInt.toNat)) (n := 6) s0 (by omega)
  have c0 : fX5_centreAt_47 σ p 0 = some (s.1 28 (38 * 0 + (32 + (s.1 16 (12 + p.toInt.toNat)).toInt.toNat)) + 100 * σ.1 22 p.toInt.toNat) := by
    unfold fX5_centreAt_47
    rw [q_gd (by decide), q_gd g12, nm_eq, n_toInt, P.1, q_gd g6, nm_eq, q_gd (by decide), q_gd g12, nm_eq, n_toInt, n_toInt]
    show some (σ.1 (56 + 0) _ + _) = _
    rw [D0]
    rfl
  have c1 : fX5_centreAt_47 σ p 1 = some (s.1 28 (38 * 1 + (32 + (s.1 16 (12 + p.toInt.toNat)).toInt.toNat)) + 100 * σ.1 23 p.toInt.toNat) := by
    unfold fX5_centreAt_47
    rw [q_gd (by decide), q_gd g12, nm_eq, n_toInt, P.1, q_gd g6, nm_eq, q_gd (by decide), q_gd g12, nm_eq, n_toInt, n_toInt]
    show some (σ.1 (56 + 1) _ + _) = _
    rw [D1]
    rfl
  unfold bX5_squares_47_41
  rw [q_gd (by decide), nm_eq, e7, if_neg (q_nle (by omega)), q_gd (by decide), q_gd g12, nm_eq, q_bd c0, nm_eq, q_gd (by decide), q_gd g12, nm_eq, q_bd c1, nm_eq, q_gd g12, nm_eq, nm_eq, nm_eq, n_toInt, P.2.2.1]
  by_cases z : s.1 18 (12 + p.toInt.toNat) = 0
  · have e0 : (s.1 18 (12 + p.toInt.toNat)).toInt64 = 0 := by rw [z]; rfl
    unfold fc
    rw [e0, Int64.zero_mul, Int64.zero_mul, Int64.zero_mul, Int64.zero_mul, Int64.zero_mul]
    rfl
  · obtain ⟨w1, w2⟩ := P.2.2.2.2.2.2 z
    rw [show σ.1 50 p.toInt.toNat = s.1 28 (38 * 0 + p.toInt.toNat) from B0, show σ.1 51 p.toInt.toNat = s.1 28 (38 * 1 + p.toInt.toNat) from B1, w1, w2, alg2, ← Int32.sub_sub, ← Int32.sub_sub]
    rfl
theorem sum_2 {σ s : gS} (h : GT σ s) : Re (fX5_squares_47 σ) (fX10_sum s) (fun a b => a = b) := by
  obtain ⟨b9, b8, b7, b6⟩ := gt_n h
  have z0' := z0
  have e3 : σ.1 3 ((3 : Int32).toNatClampNeg) = s.1 15 9 := (tr_n h.2.2.1).1
  have e7 : σ.1 3 ((1 : Int32).toNatClampNeg) = s.1 15 7 := (tr_n h.2.2.1).2.2.1
  unfold fX5_squares_47 fX10_sum
  rw [nm_eq, nm_eq, nm_eq, nm_eq]
  refine re_lpc (I := fun (n : Nat) (x y : Int64 × Int32) => n = ((s.1 15 9).toInt - y.2.toInt).toNat ∧ 0 ≤ y.2.toInt ∧ y.2.toInt ≤ (s.1 15 9).toInt ∧ x = y) (fun f g n x y hs hrec => ?_) K9 K9 (s.1 15 9).toInt.toNat (0, 0) (0, 0) ⟨by dsimp only; omega, by dsimp only; omega, by dsimp only; omega, rfl⟩ (by unfold K9; omega) (by unfold K9; omega)
  obtain ⟨A, r⟩ := y
  obtain ⟨hn, r0, r1, ex⟩ := hs
  subst ex
  dsimp only at hn r0 r1 ⊢
  unfold bX5_squares_47_4 bX10_sum_4
  rw [q_gd (by decide), nm_eq, e3, q_bd (m_rows s)]
  by_cases hk : s.1 15 9 ≤ r
  · rw [if_pos hk, if_pos hk, nm_eq, nm_eq]
    clear hrec hn
    refine re_lpc (I := fun (n : Nat) (x y : Int64 × Int32) => n = ((s.1 15 7).toInt - y.2.toInt).toNat ∧ 0 ≤ y.2.toInt ∧ y.2.toInt ≤ (s.1 15 7).toInt ∧ x = y) (fun f g n x y hs hrec => ?_) K9 K9 (s.1 15 7).toInt.toNat (A, 0) (A, 0) ⟨by dsimp only; omega, by dsimp only; omega, by dsimp only; omega, rfl⟩ (by unfold K9; omega) (by unfold K9; omega)
    obtain ⟨B, p⟩ := y
    obtain ⟨hn, p0, p1, ex⟩ := hs
    subst ex
    dsimp only at hn p0 p1 ⊢
    by_cases hk : s.1 15 7 ≤ p
    · unfold bX5_squares_47_41 bX10_sum_37
      rw [q_gd (by decide), nm_eq, e7, q_bd (m_pictures s), if_pos hk, if_pos hk]
      exact ⟨_, _, rfl, rfl, rfl⟩
    have hlt := q_gt hk
    have ei := i_inc (a := p) (c := 60) (by omega) (by omega) (by decide)
    rw [k_sumc h p0 hlt]
    unfold bX10_sum_37
    rw [q_bd (m_pictures s), if_neg hk, nm_eq, m_sumc h p0 hlt]
    exact hrec ((s.1 15 7).toInt - (p + 1).toInt).toNat _ _ (by omega) ⟨rfl, by dsimp only; omega, by dsimp only; omega, rfl⟩
  have hlt := q_gt hk
  have ei := i_inc (a := r) (c := 60) (by omega) (by omega) (by decide)
  have D := h.2.2.2.2.2.2.2.2.2.1 r.toInt.toNat (by omega)
  obtain ⟨d1, d2⟩ := db_gt h r0 hlt
  have go : ∀ A1 : Int64, Re (f (A1, r + 1)) (g (A1, r + 1)) (fun a b => a = b) := fun A1 => hrec ((s.1 15 9).toInt - (r + 1).toInt).toNat _ _ (by omega) ⟨rfl, by dsimp only; omega, by dsimp only; omega, rfl⟩
  rw [if_neg hk, if_neg hk, q_bd (c_usesK σ r0 (by omega)), D.1, q_gd (gb_of r0 (by omega)), n_toInt]
  simp only [nm_eq]
  by_cases u : s.1 26 r.toInt.toNat = 0
  · rw [if_pos u, if_neg one_ne, if_pos u, q_bd d1, q_bd d2]; exact go _
  · rw [if_neg u, if_pos rfl, if_neg u]; exact go A
theorem a_12 {σC σM : gS} (h : IG σC σM) : ∃ (oc : Int64) (om : Int64), fX9_sum σC = some oc ∧ fX10_sum σM = some om ∧ oc = om ∧ IG σC σM := by
  obtain ⟨a, b, ea, eb, e⟩ := sum_2 (gt_ig h)
  unfold fX9_sum
  rw [q_bd ea]
  exact ⟨a, b, rfl, eb, e, h⟩
end P12ZU
