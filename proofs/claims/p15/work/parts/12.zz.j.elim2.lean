/-! WHOLE, 3: a column eliminated, on both sides; all of them -/
section P12ZZJ
theorem pr_b {x y : Int} (x0 : 0 ≤ x) (x1 : x ≤ 1000003) (y0 : 0 ≤ y) (y1 : y ≤ 1000003) : 0 ≤ x * y ∧ x * y ≤ 2000000000000 := by
  refine ⟨Int.mul_nonneg x0 y0, ?_⟩
  have h : x * y ≤ 1000003 * 1000003 := Int.mul_le_mul x1 y1 y0 (by decide)
  exact Int.le_trans h (by decide)
theorem mul_b {x y : Int64} {a : Int} (ha : x.toInt * y.toInt = a) (h : 0 ≤ a ∧ a ≤ 2000000000000) : (x * y).toInt = a := by
  rw [lmul_toInt (by rw [ha]; omega) (by rw [ha]; omega), ha]
theorem subm_i {v f w : Int} : (v + (1000003 - f) * w) % 1000003 = (v - f * w) % 1000003 := by
  have d : v + (1000003 - f) * w = (v - f * w) + w * 1000003 := by
    rw [Int.sub_mul]
    omega
  rw [d, Int.add_mul_emod_self_right]
theorem sub_9 {v f w : Int64} {p : Int} (v0 : 0 ≤ v.toInt) (v1 : v.toInt < 1000003) (hp : (f * w).toInt = p) (hb : 0 ≤ p ∧ p ≤ 2000000000000) : (sub9 v f w).toInt = (v.toInt - p) % 1000003 := by
  have e9 : (v - f * w).toInt = v.toInt - p := by rw [lsub_toInt (by rw [hp]; omega) (by rw [hp]; omega), hp]
  obtain ⟨y, hy, y1⟩ := m_mod s0M (x := v - f * w) (by rw [e9]; omega) (by rw [e9]; omega)
  have hy' : sub9 v f w = y := Option.some.inj hy
  rw [hy', y1, e9]
theorem sub_8 {v f w : Int64} {p : Int} (v0 : 0 ≤ v.toInt) (v1 : v.toInt < 1000003) (hp : ((1000003 - f) * w).toInt = p) (hb : 0 ≤ p ∧ p ≤ 2000000000000) : (sub8 v f w).toInt = (v.toInt + p) % 1000003 := by
  have e8 : (v + (1000003 - f) * w).toInt = v.toInt + p := by rw [ladd_toInt (by rw [hp]; omega) (by rw [hp]; omega), hp]
  unfold sub8
  rw [lrm_nn (by rw [e8]; omega) (by decide), e8, lP]
theorem sub_89 {v f w : Int64} (v0 : 0 ≤ v.toInt) (v1 : v.toInt < 1000003) (f0 : 0 ≤ f.toInt) (f1 : f.toInt < 1000003) (w0 : 0 ≤ w.toInt) (w1 : w.toInt < 1000003) : sub8 v f w = sub9 v f w ∧ 0 ≤ (sub9 v f w).toInt ∧ (sub9 v f w).toInt < 1000003 := by
  have p := pr_b f0 (by omega) w0 (by omega)
  have q := pr_b (x := 1000003 - f.toInt) (by omega) (by omega) w0 (by omega)
  have eP : (1000003 - f : Int64).toInt = 1000003 - f.toInt := by rw [lsub_toInt (by rw [lP]; omega) (by rw [lP]; omega), lP]
  have s9 := sub_9 v0 v1 (mul_b rfl p) p
  have s8 := sub_8 (f := f) v0 v1 (mul_b (y := w) (a := (1000003 - f.toInt) * w.toInt) (by rw [eP]) q) q
  rw [subm_i] at s8
  refine ⟨Int64.toInt_inj.mp (by rw [s8, s9]), ?_, ?_⟩
  · rw [s9]; exact Int.emod_nonneg _ (by decide)
  · rw [s9]; exact Int.emod_lt_of_pos _ (by decide)
theorem scale_b {v f : Int64} (v0 : 0 ≤ v.toInt) (v1 : v.toInt < 1000003) (f0 : 0 ≤ f.toInt) (f1 : f.toInt < 1000003) : 0 ≤ (lrm (v * f) 1000003).toInt ∧ (lrm (v * f) 1000003).toInt < 1000003 := by
  have p := pr_b v0 (by omega) f0 (by omega)
  have mf := mul_b (x := v) (y := f) rfl p
  rw [lrm_nn (by rw [mf]; exact p.1) (by decide), mf, lP]
  exact ⟨Int.emod_nonneg _ (by decide), Int.emod_lt_of_pos _ (by decide)⟩
theorem inv_b (s : gS) {v : Int64} (v0 : 0 ≤ v.toInt) (v1 : v.toInt < 1000003) : Ok (fX10_inverse s v) (fun f => 0 ≤ f.toInt ∧ f.toInt < 1000003) := by
  have l0 : (0 : Int64).toInt = 0 := by decide
  have l2 : (2 : Int64).toInt = 2 := by decide
  unfold fX10_inverse
  rw [nm_eq, nm_eq, nm_eq]
  refine ok_lpc (I := fun (n : Nat) (y : Int64 × Int64 × Int64) => n = y.2.2.toInt.toNat ∧ 0 ≤ y.2.2.toInt ∧ y.2.2.toInt ≤ 1000001 ∧ (0 ≤ y.1.toInt ∧ y.1.toInt < 1000003) ∧ 0 ≤ y.2.1.toInt ∧ y.2.1.toInt < 1000003) (fun rec n y hs hrec => ?_) K9 1000001 (1, v, 1000001) ⟨by dsimp only; decide, by dsimp only; decide, by dsimp only; decide, by dsimp only; decide, by dsimp only; exact v0, by dsimp only; exact v1⟩ (by unfold K9; omega)
  obtain ⟨a, b, e⟩ := y
  obtain ⟨hn, e0, e1, ⟨a0, a1⟩, b0, b1⟩ := hs
  dsimp only at hn e0 e1 a0 a1 b0 b1 ⊢
  unfold bX10_inverse_10
  refine ok_ite.mpr ⟨fun z => ok_some.mpr ⟨a0, a1⟩, fun z => ?_⟩
  have z' := q_lgt z
  rw [l0] at z'
  have hd := ldiv_nn e0 (show 0 < (2 : Int64).toInt by decide)
  rw [l2] at hd
  have go : ∀ c : Int64, 0 ≤ c.toInt → c.toInt < 1000003 → Ok (jX10_inverse_37 s (fun a2 a4 a6 => rec (a2, a4, a6)) c b e) (fun f => 0 ≤ f.toInt ∧ f.toInt < 1000003) := fun c c0 c1 => by
    have sb := scale_b b0 b1 b0 b1
    unfold jX10_inverse_37
    simp only [nm_eq]
    exact hrec (e / 2).toInt.toNat _ (by rw [hd]; omega) ⟨rfl, by dsimp only; rw [hd]; omega, by dsimp only; rw [hd]; omega, ⟨c0, c1⟩, sb.1, sb.2⟩
  refine ok_ite.mpr ⟨fun _ => ?_, fun _ => go a a0 a1⟩
  have sb := scale_b a0 a1 b0 b1
  exact ok_nm.mpr (go _ sb.1 sb.2)
def cm9 (n ax j : Nat) : Nat := if j < n then j else 38 + ax
theorem cm9_lt {n ax j : Nat} (h : n ≤ 38) (hx : ax < 2) : cm9 n ax j < 40 := by
  unfold cm9
  split <;> omega
def EQ9 (n ax c : Nat) (σ s : gS) : Prop := (σ.1 96 4).toInt = n ∧ (s.1 0 43).toInt = n ∧ n ≤ 38 ∧ ax < 2 ∧ (∀ i j : Nat, i < n → j < 40 → 0 ≤ (mC9 s i j).toInt ∧ (mC9 s i j).toInt < 1000003) ∧ ∀ i j : Nat, i < n → c ≤ j → j ≤ n → kC9 σ i j = mC9 s i (cm9 n ax j)
/-- all the other rows, less this one -/
theorem rows_2 {σ s : gS} {n ax : Nat} {a : Int32} {rec6 : Int32 → gS → Option (Int32 × gS)} (a0 : 0 ≤ a.toInt) (an : a.toInt < n) (h : EQ9 n ax a.toInt.toNat σ s) : ∃ u : gS × gS, (EQ9 n ax a.toInt.toNat u.1 u.2 ∧ u.1.1 = σ.1 ∧ u.2.1 = s.1) ∧ lpc (S := Int32 × gS) K9 (fun rec v => bX4_eliminate_107 σ a (fun a5 σ1 => rec (a5, σ1)) v.1 v.2) (0, σ) = some (1, u.1) ∧ lpc (S := Int32 × gS) K9 (fun rec v => bX10_isSolved_126 s a rec6 (fun a5 σ1 => rec (a5, σ1)) v.1 v.2) (0, s) = rec6 (a + 1) u.2 := by
  have z0' := z0
  have n38 := h.2.2.1
  refine lpc_ex2 (F := fun u : gS × gS => some ((1 : Int32), u.1)) (G := fun u : gS × gS => rec6 (a + 1) u.2) (I := fun (m : Nat) (x y : Int32 × gS) => m = (n - x.1.toInt).toNat ∧ 0 ≤ x.1.toInt ∧ x.1.toInt ≤ n ∧ y.1 = x.1 ∧ EQ9 n ax a.toInt.toNat x.2 y.2 ∧ x.2.1 = σ.1 ∧ y.2.1 = s.1) (fun f g m x y hs => ?_) K9 K9 n (0, σ) (0, s) ⟨by dsimp only; omega, by dsimp only; omega, by dsimp only; omega, rfl, h, rfl, rfl⟩ (by unfold K9; omega) (by unfold K9; omega)
  obtain ⟨r, τ⟩ := x
  obtain ⟨r', t⟩ := y
  obtain ⟨hm, r0, r1, hr, hE, hC, hM⟩ := hs
  dsimp only at hm r0 r1 hr hE hC hM ⊢
  subst hr
  obtain ⟨e1, e2, -, hx, hb, he⟩ := hE
  unfold bX4_eliminate_107 bX10_isSolved_126
  by_cases c : τ.1 96 4 ≤ r'
  · have c' := Int32.le_iff_toInt_le.mp c
    rw [if_pos c, if_pos (q_le (by omega)), nm_eq]
    exact .inl ⟨(τ, t), ⟨⟨e1, e2, n38, hx, hb, he⟩, hC, hM⟩, rfl, rfl⟩
  · have c' := q_gt c
    have ei := i_inc (a := r') (c := 60) (by omega) (by omega) (by decide)
    obtain ⟨ga, ea⟩ := ix_40 (a := r') (b := a) r0 (by omega) a0 (by omega)
    by_cases hra : r' = a
    · rw [if_neg c, if_pos hra, nm_eq, if_neg (q_nle (by omega)), q_gd ga, nm_eq, nm_eq, if_pos hra, nm_eq]
      exact .inr ⟨(r' + 1, τ), (r' + 1, t), rfl, rfl, (n - (r' + 1).toInt).toNat, by omega, ⟨rfl, by dsimp only; omega, by dsimp only; omega, rfl, ⟨e1, e2, n38, hx, hb, he⟩, hC, hM⟩⟩
    · rw [if_neg c, if_neg hra, q_gd (gb_of r0 (by omega)), q_gd (gb_of a0 (by omega)), nm_eq, n_toInt, n_toInt, if_neg (q_nle (by omega)), q_gd ga, nm_eq, nm_eq, nm_eq, if_neg hra, ea]
      have ev : τ.2 (99 + r'.toInt.toNat) a.toInt.toNat = t.2 31 (40 * r'.toInt.toNat + a.toInt.toNat) := by
        have := he r'.toInt.toNat a.toInt.toNat (by omega) (Nat.le_refl _) (by omega)
        unfold cm9 at this
        rw [if_pos (by omega)] at this
        exact this
      rw [ev]
      by_cases hz : t.2 31 (40 * r'.toInt.toNat + a.toInt.toNat) = 0
      · rw [if_pos hz, if_pos hz, nm_eq]
        exact .inr ⟨(r' + 1, τ), (r' + 1, t), rfl, rfl, (n - (r' + 1).toInt).toNat, by omega, ⟨rfl, by dsimp only; omega, by dsimp only; omega, rfl, ⟨e1, e2, n38, hx, hb, he⟩, hC, hM⟩⟩
      · rw [if_neg hz, if_neg hz, nm_eq]
        obtain ⟨τ2, ⟨c1, c2⟩, c3⟩ := k_sub (σ := τ) (a := a) (r := r') a0 an r0 (by omega) hra e1 n38
        obtain ⟨t2, ⟨d1, d2⟩, d3⟩ := m_sub (s0 := t) (s := t) (a := a) (r := r') (f := t.2 31 (40 * r'.toInt.toNat + a.toInt.toNat)) (rec6 := rec6) (rec126 := fun a5 σ1 => g (a5, σ1)) a0 (by omega) r0 (by omega) hra
        rw [q_bd c3, nm_eq, d3]
        refine .inr ⟨(r' + 1, τ2), (r' + 1, t2), rfl, rfl, (n - (r' + 1).toInt).toNat, by omega, ⟨rfl, by dsimp only; omega, by dsimp only; omega, rfl, ⟨by dsimp only; rw [c1]; exact e1, by dsimp only; rw [d1]; exact e2, n38, hx, fun i j hi hj => ?_, fun i j hi ha hj => ?_⟩, c1.trans hC, d1.trans hM⟩⟩
        · dsimp only
          have b1 := hb i j hi hj
          have b2 := hb r'.toInt.toNat a.toInt.toNat (by omega) (by omega)
          have b3 := hb a.toInt.toNat j (by omega) hj
          rw [d2 i j hj]
          split
          · exact (sub_89 b1.1 b1.2 b2.1 b2.2 b3.1 b3.2).2
          · exact b1
        · dsimp only
          have l := cm9_lt (j := j) n38 hx
          have b1 := hb i (cm9 n ax j) hi l
          have b2 := hb r'.toInt.toNat a.toInt.toNat (by omega) (by omega)
          have b3 := hb a.toInt.toNat (cm9 n ax j) (by omega) l
          have ev' : kC9 τ r'.toInt.toNat a.toInt.toNat = mC9 t r'.toInt.toNat a.toInt.toNat := ev
          rw [c2 i j hj ha, d2 i _ l, he i j hi ha hj, he a.toInt.toNat j (by omega) ha hj, ev']
          split
          · exact (sub_89 b1.1 b1.2 b2.1 b2.2 b3.1 b3.2).1
          · rfl
theorem EQ9_up {n ax c d : Nat} {σ s : gS} (h : EQ9 n ax c σ s) (hd : c ≤ d) : EQ9 n ax d σ s := ⟨h.1, h.2.1, h.2.2.1, h.2.2.2.1, h.2.2.2.2.1, fun i j hi hj hn => h.2.2.2.2.2 i j hi (by omega) hn⟩
theorem piv_2 {σ s : gS} {n ax : Nat} {a : Int32} {rec6 : Int32 → gS → Option (Int32 × gS)} (a0 : 0 ≤ a.toInt) (an : a.toInt < n) (h : EQ9 n ax a.toInt.toNat σ s) : ∃ u : gS × gS, (EQ9 n ax (a.toInt.toNat + 1) u.1 u.2 ∧ u.1.1 = σ.1 ∧ u.2.1 = s.1) ∧ jX4_eliminate_50 σ a = some (1, u.1) ∧ (gd (gb (40 * a + a) 1520) <| nm (s.2 31 (40 * a + a).toNatClampNeg) fun v10 => bd (fX10_inverse s v10) fun r12 => nm (r12 : Int64) fun x13 => nm (0 : Int32) fun x14 => lpc (S := Int32 × gS) K9 (fun rec v => bX10_isSolved_80 s a x13 rec6 (fun a5 σ1 => rec (a5, σ1)) v.1 v.2) (x14, s)) = rec6 (a + 1) u.2 := by
  obtain ⟨e1, e2, n38, hx, hb, he⟩ := h
  obtain ⟨ga, ea⟩ := ix_40 (a := a) (b := a) a0 (by omega) a0 (by omega)
  have bp := hb a.toInt.toNat a.toInt.toNat (by omega) (by omega)
  have ev : σ.2 (99 + a.toInt.toNat) a.toInt.toNat = mC9 s a.toInt.toNat a.toInt.toNat := by
    have := he a.toInt.toNat a.toInt.toNat (by omega) (Nat.le_refl _) (by omega)
    unfold cm9 at this
    rw [if_pos (by omega)] at this
    exact this
  have em : s.2 31 (40 * a.toInt.toNat + a.toInt.toNat) = mC9 s a.toInt.toNat a.toInt.toNat := rfl
  obtain ⟨f, f', i1, i2, i3⟩ := inv_2 σ s (mC9 s a.toInt.toNat a.toInt.toNat)
  subst i3
  obtain ⟨g, i4, g0, g1⟩ := inv_b s bp.1 bp.2
  rw [i2] at i4
  cases i4
  unfold jX4_eliminate_50
  rw [q_gd (gb_of a0 (by omega)), q_gd (gb_of a0 (by omega)), nm_eq, n_toInt, ev, q_bd i1, nm_eq, nm_eq, q_gd ga, nm_eq, ea, em, q_bd i2, nm_eq, nm_eq]
  obtain ⟨τ, ⟨c1, c2⟩, c3⟩ := k_scale (σ0 := σ) (σ := σ) (a := a) (f := f) a0 an e1 n38
  obtain ⟨t, ⟨d1, d2⟩, d3⟩ := m_scale (s0 := s) (s := s) (a := a) (f := f) (rec6 := rec6) a0 (by omega)
  rw [c3, d3]
  have hE : EQ9 n ax a.toInt.toNat τ t := by
    refine ⟨by rw [c1]; exact e1, by rw [d1]; exact e2, n38, hx, fun i j hi hj => ?_, fun i j hi ha hj => ?_⟩
    · rw [d2 i j hj]
      split
      · exact scale_b (hb i j hi hj).1 (hb i j hi hj).2 g0 g1
      · exact hb i j hi hj
    · have l := cm9_lt (j := j) n38 hx
      rw [c2 i j hj ha, d2 i _ l, he i j hi ha hj]
  obtain ⟨u, ⟨u1, u2, u3⟩, u4, u5⟩ := rows_2 (rec6 := rec6) a0 an hE
  exact ⟨u, ⟨EQ9_up u1 (by omega), u2.trans c1, u3.trans d1⟩, u4, u5⟩
/-- a column, on both sides: neither has a row for it, or it's eliminated -/
theorem el_2 {σ s : gS} {n ax : Nat} {a : Int32} {rec6 : Int32 → gS → Option (Int32 × gS)} (a0 : 0 ≤ a.toInt) (an : a.toInt < n) (h : EQ9 n ax a.toInt.toNat σ s) : (fX4_eliminate σ a = some (0, σ) ∧ lpc (S := Int32) K9 (fun rec u => bX10_isSolved_16 s a rec6 (fun a2 => rec (a2)) u) a = some (0, s)) ∨ ∃ u : gS × gS, (EQ9 n ax (a.toInt.toNat + 1) u.1 u.2 ∧ u.1.1 = σ.1 ∧ u.2.1 = s.1) ∧ fX4_eliminate σ a = some (1, u.1) ∧ lpc (S := Int32) K9 (fun rec u => bX10_isSolved_16 s a rec6 (fun a2 => rec (a2)) u) a = rec6 (a + 1) u.2 := by
  have z0' := z0
  have h' := h
  obtain ⟨e1, e2, n38, hx, hb, he⟩ := h'
  obtain ⟨b, ⟨b0, b1⟩, q1, q2⟩ : ∃ b : Int32, (a.toInt ≤ b.toInt ∧ b.toInt ≤ n) ∧ lpc (S := Int32) K9 (fun rec u => bX4_eliminate_2 σ a (fun a2 => rec (a2)) u) a = jX4_eliminate_29 σ a b ∧ lpc (S := Int32) K9 (fun rec u => bX10_isSolved_16 s a rec6 (fun a2 => rec (a2)) u) a = jX10_isSolved_46 s rec6 a b := by
    refine lpc_ex2 (F := fun b => jX4_eliminate_29 σ a b) (G := fun b => jX10_isSolved_46 s rec6 a b) (I := fun (m : Nat) (x y : Int32) => m = (n - x.toInt).toNat ∧ a.toInt ≤ x.toInt ∧ x.toInt ≤ n ∧ x = y) (fun f g m x y hs => ?_) K9 K9 (n - a.toInt).toNat a a ⟨rfl, Int.le_refl _, by omega, rfl⟩ (by unfold K9; omega) (by unfold K9; omega)
    obtain ⟨hm, x0, x1, rfl⟩ := hs
    unfold bX4_eliminate_2 bX10_isSolved_16
    by_cases c : σ.1 96 4 ≤ x
    · have c' := Int32.le_iff_toInt_le.mp c
      rw [if_pos c, if_pos (q_le (by omega))]
      exact .inl ⟨x, ⟨x0, x1⟩, rfl, rfl⟩
    · have c' := q_gt c
      have ei := i_inc (a := x) (c := 60) (by omega) (by omega) (by decide)
      obtain ⟨ga, ea⟩ := ix_40 (a := x) (b := a) (by omega) (by omega) a0 (by omega)
      have ev : σ.2 (99 + x.toInt.toNat) a.toInt.toNat = s.2 31 (40 * x.toInt.toNat + a.toInt.toNat) := by
        have := he x.toInt.toNat a.toInt.toNat (by omega) (Nat.le_refl _) (by omega)
        unfold cm9 at this
        rw [if_pos (by omega)] at this
        exact this
      rw [if_neg c, if_neg (q_nle (by omega)), q_gd (gb_of (by omega) (by omega)), q_gd (gb_of a0 (by omega)), nm_eq, q_gd ga, nm_eq, nm_eq, ea, n_toInt, n_toInt, ev]
      by_cases hz : s.2 31 (40 * x.toInt.toNat + a.toInt.toNat) = 0
      · rw [if_pos hz, if_pos hz, nm_eq]
        exact .inr ⟨x + 1, x + 1, rfl, rfl, (n - (x + 1).toInt).toNat, by omega, ⟨rfl, by omega, by omega, rfl⟩⟩
      · rw [if_neg hz, if_neg hz]
        exact .inl ⟨x, ⟨x0, x1⟩, rfl, rfl⟩
  rw [q2]
  unfold fX4_eliminate
  rw [nm_eq, q1]
  unfold jX4_eliminate_29 jX10_isSolved_46
  by_cases c : b.toInt = n
  · rw [if_neg (fun z => by have := Int32.lt_iff_toInt_lt.mp z; omega), if_pos (Int32.toInt_inj.mp (by omega))]
    exact .inl ⟨rfl, rfl⟩
  · rw [if_pos (Int32.lt_iff_toInt_lt.mpr (by omega)), if_neg (show ¬ b = s.1 0 43 from fun z => c (by rw [z]; exact e2))]
    obtain ⟨t, ⟨d1, d2⟩, d3⟩ := m_swaps (s := s) (a := a) (b := b) a0 (by omega) (by omega) (by omega)
    rw [q_bd d3]
    by_cases hba : b = a
    · subst hba
      have hE : EQ9 n ax b.toInt.toNat σ t := by
        have d4 : ∀ i j : Nat, j < 40 → mC9 t i j = mC9 s i j := fun i j hj => by
          rw [d2 i j hj]
          split
          · rename_i z; rw [z]
          · rfl
        exact ⟨e1, by rw [d1]; exact e2, n38, hx, fun i j hi hj => by rw [d4 i j hj]; exact hb i j hi hj, fun i j hi ha hj => by rw [d4 i _ (cm9_lt n38 hx)]; exact he i j hi ha hj⟩
      obtain ⟨u, ⟨u1, u2, u3⟩, u4, u5⟩ := piv_2 (rec6 := rec6) a0 an hE
      rw [if_pos rfl]
      exact .inr ⟨u, ⟨u1, u2, u3.trans d1⟩, u4, u5⟩
    · obtain ⟨τ, ⟨c1, c2⟩, c3⟩ := k_swap (σ := σ) (a := b) (b := a) (by omega) (by omega) a0 (by omega) e1 n38
      have hne : a.toInt.toNat ≠ b.toInt.toNat := fun z => hba (Int32.toInt_inj.mp (by omega))
      have hE : EQ9 n ax a.toInt.toNat τ t := by
        refine ⟨by rw [c1]; exact e1, by rw [d1]; exact e2, n38, hx, fun i j hi hj => ?_, fun i j hi ha hj => ?_⟩
        · rw [d2 i j hj]
          split
          · exact hb b.toInt.toNat j (by omega) hj
          · split
            · exact hb a.toInt.toNat j (by omega) hj
            · exact hb i j hi hj
        · have l := cm9_lt (j := j) n38 hx
          rw [c2 i j hj, d2 i _ l, he i j hi ha hj, he a.toInt.toNat j (by omega) ha hj, he b.toInt.toNat j (by omega) ha hj]
          by_cases zb : i = b.toInt.toNat
          · rw [if_pos zb, if_neg (fun z => hne (z.symm.trans zb)), if_pos zb]
          · rw [if_neg zb, if_neg zb]
      obtain ⟨u, ⟨u1, u2, u3⟩, u4, u5⟩ := piv_2 (rec6 := rec6) a0 an hE
      rw [if_neg hba, q_bd c3]
      exact .inr ⟨u, ⟨u1, u2.trans c1, u3.trans d1⟩, u4, u5⟩
theorem gauss_2 {σ0 σ s : gS} {n ax : Nat} {w : Int32} (w0 : 0 ≤ w.toInt) (wn : w.toInt < n) (h : EQ9 n ax 0 σ s) : Re (lpc (S := Int32 × gS) K9 (fun rec u => bX4_solveFor_26 σ0 w (fun a4 σ1 => rec (a4, σ1)) u.1 u.2) (0, σ)) (lpc (S := Int32 × gS) K9 (fun rec u => bX10_isSolved_6 s (fun a1 σ1 => rec (a1, σ1)) u.1 u.2) (0, s)) (fun oc om => om.2.1 = s.1 ∧ ((om.1 = 0 ∧ oc.1 = -1) ∨ (om.1 = 1 ∧ oc.1 = (mC9 om.2 w.toInt.toNat (38 + ax)).toInt32))) := by
  have z0' := z0
  have n38 := h.2.2.1
  refine re_lpc (I := fun (m : Nat) (x y : Int32 × gS) => m = (n - x.1.toInt).toNat ∧ 0 ≤ x.1.toInt ∧ x.1.toInt ≤ n ∧ y.1 = x.1 ∧ EQ9 n ax x.1.toInt.toNat x.2 y.2 ∧ y.2.1 = s.1) (fun f g m x y hs hrec => ?_) K9 K9 n (0, σ) (0, s) ⟨by dsimp only; omega, by dsimp only; omega, by dsimp only; omega, rfl, h, rfl⟩ (by unfold K9; omega) (by unfold K9; omega)
  obtain ⟨a, τ⟩ := x
  obtain ⟨a', t⟩ := y
  obtain ⟨hm, a0, a1, ha, hE, hM⟩ := hs
  dsimp only at hm a0 a1 ha hE hM ⊢
  subst ha
  have hE' := hE
  obtain ⟨e1, e2, -, hx, hb, he⟩ := hE'
  unfold bX4_solveFor_26 bX10_isSolved_6
  by_cases c : τ.1 96 4 ≤ a'
  · have c' := Int32.le_iff_toInt_le.mp c
    rw [if_pos c, if_pos (q_le (by omega)), q_gd (gb_of w0 (by omega)), q_gd (gb_of (by omega) (by omega)), nm_eq]
    refine ⟨_, _, rfl, rfl, hM, .inr ⟨rfl, ?_⟩⟩
    have ev := he w.toInt.toNat n (by omega) (by omega) (Nat.le_refl _)
    unfold cm9 at ev
    rw [if_neg (by omega)] at ev
    have nn : (τ.1 96 4).toNatClampNeg = n := by rw [n_toInt]; omega
    show (τ.2 (99 + w.toNatClampNeg) (τ.1 96 4).toNatClampNeg).toInt32 = _
    rw [nn, ← ev]
    rfl
  · have c' := q_gt c
    have ei := i_inc (a := a') (c := 60) (by omega) (by omega) (by decide)
    rw [if_neg c, if_neg (q_nle (by omega)), nm_eq]
    rcases el_2 (rec6 := fun a1 σ1 => g (a1, σ1)) a0 (by omega) hE with ⟨k1, k2⟩ | ⟨u, ⟨u1, u2, u3⟩, k1, k2⟩
    · rw [q_bd2 k1, k2, if_pos rfl]
      exact ⟨_, _, rfl, rfl, hM, .inl ⟨rfl, rfl⟩⟩
    · rw [q_bd2 k1, k2, if_neg one_ne, nm_eq]
      exact hrec (n - (a' + 1).toInt).toNat (a' + 1, u.1) (a' + 1, u.2) (by omega) ⟨rfl, by dsimp only; omega, by dsimp only; omega, rfl, by dsimp only; rw [show (a' + 1).toInt.toNat = a'.toInt.toNat + 1 by omega]; exact u1, u3.trans hM⟩
end P12ZZJ
