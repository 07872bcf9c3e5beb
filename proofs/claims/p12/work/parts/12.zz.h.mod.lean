/-! WHOLE, 1: numbers modulo the prime, on both sides -/
section P12ZZH
theorem lP : (1000003 : Int64).toInt = 1000003 := by decide
theorem tm_em {x : Int} : (x - x.tdiv 1000003 * 1000003 + 1000003) % 1000003 = x % 1000003 := by
  rw [show x - x.tdiv 1000003 * 1000003 + 1000003 = x + (1 - x.tdiv 1000003) * 1000003 by omega, Int.add_mul_emod_self_right]
theorem tm_in (x : Int) : -1000003 < x - x.tdiv 1000003 * 1000003 ∧ x - x.tdiv 1000003 * 1000003 < 1000003 := by
  have e : x - x.tdiv 1000003 * 1000003 = x.tmod 1000003 := by
    have := Int.mul_tdiv_add_tmod x 1000003
    omega
  rw [e]
  have h1 := Int.tmod_lt_of_pos x (show (0 : Int) < 1000003 by decide)
  have h2 := Int.lt_tmod_of_pos x (show (0 : Int) < 1000003 by decide)
  omega
/-- the reference's -/
theorem m_mod (s : gS) {x : Int64} (h0 : -9000000000000000000 ≤ x.toInt) (h1 : x.toInt ≤ 9000000000000000000) : ∃ v : Int64, fX10_modulo s x = some v ∧ v.toInt = x.toInt % 1000003 := by
  have l := lr_gen (x := x) (c := 1000003) (M := 9000000000000) (by decide) (by rw [lP]; omega) (by rw [lP]; omega) (by decide) (by decide)
  rw [lP] at l
  have t := tm_in x.toInt
  refine ⟨_, rfl, ?_⟩
  have e : (lrm x 1000003 + 1000003).toInt = x.toInt - x.toInt.tdiv 1000003 * 1000003 + 1000003 := by rw [ladd_toInt (by rw [l, lP]; omega) (by rw [l, lP]; omega), l, lP]
  rw [lrm_nn (by rw [e]; omega) (by decide), e, lP, tm_em]
/-- the class's -/
theorem k_mod (σ : gS) {x : Int64} (h0 : -9000000000000000000 ≤ x.toInt) (h1 : x.toInt ≤ 9000000000000000000) : ∃ v : Int64, fJ9_floorMod_f86c9 σ x 1000003 = some v ∧ v.toInt = x.toInt % 1000003 := by
  have l := lr_gen (x := x) (c := 1000003) (M := 9000000000000) (by decide) (by rw [lP]; omega) (by rw [lP]; omega) (by decide) (by decide)
  rw [lP] at l
  have t := tm_in x.toInt
  have e := tm_em (x := x.toInt)
  have l0 : (0 : Int64).toInt = 0 := by decide
  unfold fJ9_floorMod_f86c9
  rw [q_gd (by decide), nm_eq]
  by_cases y : 0 ≤ x.toInt
  · rw [if_pos ((fl_xor (x := x) (c := 1000003) (by decide)).mpr y)]
    exact ⟨_, rfl, by rw [lrm_nn y (by decide), lP]⟩
  · rw [if_neg (fun z => y ((fl_xor (x := x) (c := 1000003) (by decide)).mp z))]
    have neg : x.toInt - x.toInt.tdiv 1000003 * 1000003 ≤ 0 := by
      have e2 : x.toInt - x.toInt.tdiv 1000003 * 1000003 = x.toInt.tmod 1000003 := by
        have := Int.mul_tdiv_add_tmod x.toInt 1000003
        omega
      rw [e2, show x.toInt = -(-x.toInt) by omega, Int.neg_tmod]
      have := Int.tmod_nonneg 1000003 (show 0 ≤ -x.toInt by omega)
      omega
    by_cases z : lrm x 1000003 = 0
    · rw [if_pos z]
      refine ⟨_, rfl, ?_⟩
      have := congrArg Int64.toInt z
      rw [l, l0] at this
      rw [l, this, ← e, this]
      decide
    · rw [if_neg z]
      refine ⟨_, rfl, ?_⟩
      have nz : x.toInt - x.toInt.tdiv 1000003 * 1000003 ≠ 0 := fun w => z (Int64.toInt_inj.mp (by rw [l, l0, w]))
      rw [ladd_toInt (by rw [l, lP]; omega) (by rw [l, lP]; omega), l, lP, ← e]
      exact (Int.emod_eq_of_lt (by omega) (by omega)).symm
theorem and_1 {v : Int64} (h0 : 0 ≤ v.toInt) : (v &&& 1).toInt = v.toInt % 2 := by
  obtain ⟨b⟩ := v
  obtain ⟨b⟩ := b
  have hb : (0 : Int) ≤ b.toInt := h0
  show (b &&& 1#64).toInt = b.toInt % 2
  have lt := b.isLt
  have e1 : b.toInt = b.toNat := by
    rw [BitVec.toInt_eq_toNat_cond] at hb ⊢
    split at hb
    · rw [if_pos (by assumption)]
    · omega
  have e2 : (b &&& 1#64).toNat = b.toNat % 2 := by
    rw [BitVec.toNat_and]
    exact Nat.and_two_pow_sub_one_eq_mod b.toNat 1
  have e3 : (b &&& 1#64).toInt = (b &&& 1#64).toNat := by
    rw [BitVec.toInt_eq_toNat_cond, if_pos (by rw [e2]; omega)]
  rw [e3, e2, e1]
  omega
theorem sh_1 {v : Int64} (h0 : 0 ≤ v.toInt) : v >>> ((1 : Int32).toInt64 &&& 63) = v / 2 := by
  apply Int64.toInt_inj.mp
  rw [ldiv_nn h0 (by decide), show (2 : Int64).toInt = 2 by decide]
  show (v.toBitVec.sshiftRight 1).toInt = _
  rw [BitVec.toInt_sshiftRight, Int.shiftRight_eq_div_pow]
  rfl
theorem inv_2 (σ s : gS) (v : Int64) : Re (fX4_inverse σ v) (fX10_inverse s v) (fun a b => a = b) := by
  have l0 : (0 : Int64).toInt = 0 := by decide
  have l1 : (1 : Int64).toInt = 1 := by decide
  have l2 : (2 : Int64).toInt = 2 := by decide
  unfold fX4_inverse fX10_inverse
  rw [nm_eq, nm_eq, nm_eq, nm_eq, nm_eq, nm_eq]
  refine re_lpc (I := fun (n : Nat) (x y : Int64 × Int64 × Int64) => n = y.2.2.toInt.toNat ∧ 0 ≤ y.2.2.toInt ∧ y.2.2.toInt ≤ 1000001 ∧ x.1 = y.2.1 ∧ x.2.1 = y.1 ∧ x.2.2 = y.2.2) (fun f g n x y hs hrec => ?_) K9 K9 1000001 (v, 1, 1000001) (1, v, 1000001) ⟨by dsimp only; decide, by dsimp only; decide, by dsimp only; decide, rfl, rfl, rfl⟩ (by unfold K9; omega) (by unfold K9; omega)
  obtain ⟨b, a, e⟩ := x
  obtain ⟨a', b', e'⟩ := y
  obtain ⟨hn, e0, e1, q1, q2, q3⟩ := hs
  dsimp only at hn e0 e1 q1 q2 q3 ⊢
  subst q1 q2 q3
  unfold bX4_inverse_10 bX10_inverse_10
  by_cases z : e ≤ 0
  · rw [if_pos z, if_pos z]
    exact ⟨_, _, rfl, rfl, rfl⟩
  have z' := q_lgt z
  rw [if_neg z, if_neg z]
  have odd : (e &&& 1) = 1 ↔ lrm e 2 = 1 := by
    have x1 := and_1 e0
    have x2 := lrm_nn e0 (show 0 < (2 : Int64).toInt by decide)
    rw [l2] at x2
    exact ⟨fun y => Int64.toInt_inj.mp (by rw [x2, ← x1, y]), fun y => Int64.toInt_inj.mp (by rw [x1, ← x2, y])⟩
  have hd := ldiv_nn e0 (show 0 < (2 : Int64).toInt by decide)
  rw [l2] at hd
  have go : ∀ a1 : Int64, Re (jX4_inverse_36 σ (fun a2 a4 a6 => f (a2, a4, a6)) b a1 e) (jX10_inverse_37 s (fun a2 a4 a6 => g (a2, a4, a6)) a1 b e) (fun a b => a = b) := fun a1 => by
    unfold jX4_inverse_36 jX10_inverse_37
    simp only [nm_eq]
    rw [sh_1 e0]
    exact hrec (e / 2).toInt.toNat _ _ (by rw [hd]; omega) ⟨rfl, by dsimp only; rw [hd]; omega, by dsimp only; rw [hd]; omega, rfl, rfl, rfl⟩
  by_cases y : (e &&& 1) = 1
  · rw [if_pos y, if_pos (odd.mp y), nm_eq, nm_eq]
    exact go _
  · rw [if_neg y, if_neg (fun w => y (odd.mpr w))]
    exact go _
end P12ZZH
