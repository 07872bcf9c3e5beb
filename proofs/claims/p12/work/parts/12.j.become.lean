/-! THE GEOMETRY: each becomes the whole number nearest to its mean, on both sides -/
section P12J
theorem i64_of {x : Int32} : x.toInt64.toInt = x.toInt := Int32.toInt_toInt64 _
theorem BE_pos {W s old : Int} (h : W < 2 * (s % W)) : BE W s old = s / W + 1 := if_pos (.inl h)
theorem BE_tie {W s old : Int} (h : 2 * (s % W) = W) (h2 : old = s / W + 1) : BE W s old = s / W + 1 := if_pos (.inr ⟨h, h2⟩)
theorem BE_no {W s old : Int} (h : ¬ W < 2 * (s % W)) (h2 : ¬ (2 * (s % W) = W ∧ old = s / W + 1)) : BE W s old = s / W := if_neg (fun z => z.elim h h2)
theorem m_become {σ : gS} {i : Int32} {W s : Int} (i0 : 0 ≤ i.toInt) (i1 : i.toInt < 76) (hW : (σ.1 0 41).toInt = W) (w0 : 0 < W) (w1 : W ≤ 1000) (hs : (σ.2 0 40).toInt = s) (h0 : -2147483648 * W ≤ s) (h1 : s ≤ 2147483647 * W) : ∃ v : Int32, v.toInt = BE W s (σ.1 28 i.toInt.toNat).toInt ∧ fX10_becomes σ i = some (if σ.1 28 i.toInt.toNat = v then 0 else 1, gsI σ 28 i.toInt.toNat v) := by
  have l0 : (0 : Int64).toInt = 0 := by decide
  have l1 : (1 : Int64).toInt = 1 := by decide
  have l2 : (2 : Int64).toInt = 2 := by decide
  have z0' := z0
  have g := gb_of (i := i) (n := 76) (by omega) (by omega)
  have f1 := Int.mul_ediv_add_emod s W
  have f2 := Int.emod_nonneg s (Int.ne_of_gt w0)
  have f3 := Int.emod_lt_of_pos s w0
  have bi := be_in (old := (σ.1 28 i.toInt.toNat).toInt) w0 h0 h1
  obtain ⟨fl, fh, fe⟩ := be_f w0 h0 h1
  have W64 : (σ.1 0 41).toInt64.toInt = W := by rw [i64_of, hW]
  have fin : ∀ a2 : Int64, a2.toInt = BE W s (σ.1 28 i.toInt.toNat).toInt → ∃ v : Int32, v.toInt = BE W s (σ.1 28 i.toInt.toNat).toInt ∧ jX10_becomes_105 σ i a2 (σ.1 28 i.toInt.toNat) = some (if σ.1 28 i.toInt.toNat = v then 0 else 1, gsI σ 28 i.toInt.toNat v) := fun a2 e => by
    refine ⟨a2.toInt32, by rw [l_toInt32 (by omega) (by omega), e], ?_⟩
    unfold jX10_becomes_105
    rw [q_gd g, nm_eq, q_gd g, nm_eq, n_toInt, gsI_at, if_pos rfl]
    by_cases z : σ.1 28 i.toInt.toNat = a2.toInt32
    · rw [if_pos z, if_pos z]
    · rw [if_neg z, if_neg z]
  have j : ∀ a2 a4 : Int64, a2.toInt = s / W → a4.toInt = s % W → ∃ v : Int32, v.toInt = BE W s (σ.1 28 i.toInt.toNat).toInt ∧ jX10_becomes_53 σ i a2 a4 = some (if σ.1 28 i.toInt.toNat = v then 0 else 1, gsI σ 28 i.toInt.toNat v) := fun a2 a4 e2 e4 => by
    have t2 : (2 * a4).toInt = 2 * (s % W) := by rw [lmul_toInt (by rw [l2, e4]; omega) (by rw [l2, e4]; omega), l2, e4]
    have t1 : (a2 + 1).toInt = s / W + 1 := by rw [ladd_toInt (by rw [l1, e2]; omega) (by rw [l1, e2]; omega), l1, e2]
    unfold jX10_becomes_53
    rw [q_gd g, nm_eq, nm_eq, n_toInt]
    by_cases z : W < 2 * (s % W)
    · rw [if_pos (Int64.lt_iff_toInt_lt.mpr (by rw [W64, t2]; exact z)), nm_eq]
      exact fin _ (by rw [t1, BE_pos z])
    · rw [if_neg (fun y => z (by have := Int64.lt_iff_toInt_lt.mp y; rw [W64, t2] at this; exact this))]
      by_cases y : 2 * (s % W) = W
      · rw [if_pos (Int64.toInt_inj.mp (by rw [t2, W64]; exact y))]
        by_cases x : (σ.1 28 i.toInt.toNat).toInt = s / W + 1
        · rw [if_pos (Int64.toInt_inj.mp (by rw [i64_of, t1]; exact x)), nm_eq]
          exact fin _ (by rw [t1, BE_tie y x])
        · rw [if_neg (fun u => x (by have := congrArg Int64.toInt u; rw [i64_of, t1] at this; exact this))]
          exact fin _ (by rw [e2, BE_no z (fun u => x u.2)])
      · rw [if_neg (fun u => y (by have := congrArg Int64.toInt u; rw [t2, W64] at this; exact this))]
        exact fin _ (by rw [e2, BE_no z (fun u => y u.1)])
  have n1 : ¬ σ.1 0 41 = 0 := fun z => by rw [z] at hW; omega
  have n2 : ¬ (σ.1 0 41).toInt64 = 0 := fun z => by have := congrArg Int64.toInt z; omega
  have c0 : 0 < (σ.1 0 41).toInt64.toInt := by omega
  have d := ld_gen (x := σ.2 0 40) c0
  have r := lr_gen (x := σ.2 0 40) (M := 2147483648) c0 (by rw [hs, W64]; omega) (by rw [hs, W64]; omega) (by decide) (by rw [W64]; omega)
  rw [hs, W64] at d r
  unfold fX10_becomes
  rw [if_neg n1, q_gd (decide_eq_true n2), nm_eq, q_gd (decide_eq_true n2), nm_eq]
  by_cases z : 0 ≤ s ∨ W ∣ s
  · rw [td_pos w0 z] at d r
    have r' : (lrm (σ.2 0 40) (σ.1 0 41).toInt64).toInt = s % W := by rw [r, Int.mul_comm]; omega
    rw [if_pos (Int64.le_iff_toInt_le.mpr (by omega))]
    exact j _ _ d r'
  · have ne : s % W ≠ 0 := fun y => z (.inr (td_dvd.mpr y))
    rw [td_neg w0 z] at d r
    have r' : (lrm (σ.2 0 40) (σ.1 0 41).toInt64).toInt = s % W - W := by rw [r, Int.add_mul, Int.one_mul, Int.mul_comm]; omega
    rw [if_neg (fun y => by have := Int64.le_iff_toInt_le.mp y; omega), nm_eq, nm_eq]
    exact j _ _ (by rw [lsub_toInt (by omega) (by omega), d, l1]; omega) (by rw [ladd_toInt (by omega) (by omega), r', W64]; omega)
/-- one of a row, on the class's side -/
theorem c_become {σ σ1 : gS} {c : Nat} {n a3 a4 : Int32} {rec : Int32 → Int32 → gS → Option (Int32 × gS)} {W s : Int} (a0 : 0 ≤ a4.toInt) (hn : a4.toInt < n.toInt) (hz : n.toInt ≤ gsz zC.1 0 0 c) (hn2 : n.toInt ≤ 20) (hW : (σ1.2 91 a4.toInt.toNat).toInt = W) (w0 : 0 < W) (w1 : W ≤ 1000) (hs : (σ1.2 92 a4.toInt.toNat).toInt = s) (h0 : -2147483648 * W ≤ s) (h1 : s ≤ 2147483647 * W) : ∃ v : Int32, v.toInt = BE W s (σ1.1 c a4.toInt.toNat).toInt ∧ bX1_moveEach_5 σ c n rec a3 a4 σ1 = if σ1.1 c a4.toInt.toNat = v then rec a3 (a4 + 1) σ1 else rec 1 (a4 + 1) (gsI σ1 c a4.toInt.toNat v) := by
  have l0 : (0 : Int64).toInt = 0 := by decide
  have l1 : (1 : Int64).toInt = 1 := by decide
  have l2 : (2 : Int64).toInt = 2 := by decide
  have g := gb_of (i := a4) (n := 20) (by omega) (by omega)
  have gc := gb_of (i := a4) (n := gsz zC.1 0 0 c) (by omega) (by omega)
  have f1 := Int.mul_ediv_add_emod s W
  have f2 := Int.emod_nonneg s (Int.ne_of_gt w0)
  have f3 := Int.emod_lt_of_pos s w0
  have bi := be_in (old := (σ1.1 c a4.toInt.toNat).toInt) w0 h0 h1
  obtain ⟨fl, fh, fe⟩ := be_f w0 h0 h1
  have fin : ∀ a7 : Int64, a7.toInt = BE W s (σ1.1 c a4.toInt.toNat).toInt → ∃ v : Int32, v.toInt = BE W s (σ1.1 c a4.toInt.toNat).toInt ∧ jX1_moveEach_98 σ1 c n rec a3 a4 a7 = if σ1.1 c a4.toInt.toNat = v then rec a3 (a4 + 1) σ1 else rec 1 (a4 + 1) (gsI σ1 c a4.toInt.toNat v) := fun a7 e => by
    have e7 : a7.toInt32.toInt = a7.toInt := l_toInt32 (by omega) (by omega)
    refine ⟨a7.toInt32, by rw [e7, e], ?_⟩
    unfold jX1_moveEach_98
    rw [q_gd gc, nm_eq, n_toInt]
    by_cases z : σ1.1 c a4.toInt.toNat = a7.toInt32
    · rw [if_pos z, if_pos (Int64.toInt_inj.mp (by rw [i64_of, z, e7])), nm_eq]
    · rw [if_neg z, if_neg (fun y => z (Int32.toInt_inj.mp (by have := congrArg Int64.toInt y; rw [i64_of] at this; rw [e7, this]))), q_gd gc, nm_eq, nm_eq, nm_eq]
  obtain ⟨f, ef, hf⟩ := r_floor σ1 (x := σ1.2 92 a4.toInt.toNat) (c := σ1.2 91 a4.toInt.toNat) (M := 2147483648) (by omega) (by rw [hs, hW]; omega) (by rw [hs, hW]; omega) (by decide) (by rw [hW]; omega)
  rw [hs, hW] at hf
  have fW : (f * σ1.2 91 a4.toInt.toNat).toInt = s - s % W := by
    have : f.toInt * W = s - s % W := by rw [hf, Int.mul_comm]; omega
    rw [lmul_toInt (by rw [hW, this]; omega) (by rw [hW, this]; omega), hW, this]
  have fd : (σ1.2 92 a4.toInt.toNat - f * σ1.2 91 a4.toInt.toNat).toInt = s % W := by rw [lsub_toInt (by rw [hs, fW]; omega) (by rw [hs, fW]; omega), hs, fW]; omega
  have t2 : (2 * (σ1.2 92 a4.toInt.toNat - f * σ1.2 91 a4.toInt.toNat)).toInt = 2 * (s % W) := by rw [lmul_toInt (by rw [l2, fd]; omega) (by rw [l2, fd]; omega), l2, fd]
  have t1 : (f + 1).toInt = s / W + 1 := by rw [ladd_toInt (by rw [l1, hf]; omega) (by rw [l1, hf]; omega), l1, hf]
  unfold bX1_moveEach_5
  rw [if_neg (q_nle (by omega)), q_gd g, nm_eq, nm_eq, n_toInt, if_pos (Int64.lt_iff_toInt_lt.mpr (by omega)), q_gd g, nm_eq, q_bd ef, nm_eq, q_gd g, nm_eq, nm_eq]
  by_cases z : W < 2 * (s % W)
  · rw [if_pos (Int64.lt_iff_toInt_lt.mpr (by rw [hW, t2]; exact z)), nm_eq]
    exact fin _ (by rw [t1, BE_pos z])
  · rw [if_neg (fun y => z (by have := Int64.lt_iff_toInt_lt.mp y; rw [hW, t2] at this; exact this))]
    by_cases y : 2 * (s % W) = W
    · rw [if_pos (Int64.toInt_inj.mp (by rw [t2, hW]; exact y)), q_gd gc, nm_eq]
      by_cases x : (σ1.1 c a4.toInt.toNat).toInt = s / W + 1
      · rw [if_pos (Int64.toInt_inj.mp (by rw [i64_of, t1]; exact x)), nm_eq]
        exact fin _ (by rw [t1, BE_tie y x])
      · rw [if_neg (fun u => x (by have := congrArg Int64.toInt u; rw [i64_of, t1] at this; exact this))]
        exact fin _ (by rw [hf, BE_no z (fun u => x u.2)])
    · rw [if_neg (fun u => y (by have := congrArg Int64.toInt u; rw [t2, hW] at this; exact this))]
      exact fin _ (by rw [hf, BE_no z (fun u => y u.1)])
theorem c_stays {σ σ1 : gS} {c : Nat} {n a3 a4 : Int32} {rec : Int32 → Int32 → gS → Option (Int32 × gS)} (a0 : 0 ≤ a4.toInt) (hn : a4.toInt < n.toInt) (hn2 : n.toInt ≤ 20) (hW : (σ1.2 91 a4.toInt.toNat).toInt ≤ 0) : bX1_moveEach_5 σ c n rec a3 a4 σ1 = rec a3 (a4 + 1) σ1 := by
  have l0 : (0 : Int64).toInt = 0 := by decide
  have g := gb_of (i := a4) (n := 20) (by omega) (by omega)
  unfold bX1_moveEach_5
  rw [if_neg (q_nle (by omega)), q_gd g, nm_eq, nm_eq, n_toInt, if_neg (fun y => by have := Int64.lt_iff_toInt_lt.mp y; omega), nm_eq]
end P12J
