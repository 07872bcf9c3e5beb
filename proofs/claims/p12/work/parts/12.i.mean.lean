/-! THE GEOMETRY: the whole number nearest to a mean -/
section P12I
noncomputable def BE (W s old : Int) : Int := if W < 2 * (s % W) ∨ (2 * (s % W) = W ∧ old = s / W + 1) then s / W + 1 else s / W
theorem be_f {s W : Int} (hW : 0 < W) (h0 : -2147483648 * W ≤ s) (h1 : s ≤ 2147483647 * W) : -2147483648 ≤ s / W ∧ s / W ≤ 2147483647 ∧ (s / W = 2147483647 → s % W = 0) := by
  have a := Int.le_ediv_of_mul_le hW h0
  have b := Int.ediv_le_of_le_mul hW h1
  refine ⟨a, b, fun z => ?_⟩
  have c := Int.mul_ediv_add_emod s W
  have d := Int.emod_nonneg s (Int.ne_of_gt hW)
  rw [z, Int.mul_comm] at c
  omega
theorem be_in {s W old : Int} (hW : 0 < W) (h0 : -2147483648 * W ≤ s) (h1 : s ≤ 2147483647 * W) : -2147483648 ≤ BE W s old ∧ BE W s old ≤ 2147483647 := by
  obtain ⟨a, b, c⟩ := be_f hW h0 h1
  unfold BE
  by_cases z : W < 2 * (s % W) ∨ (2 * (s % W) = W ∧ old = s / W + 1)
  · rw [if_pos z]
    have : s / W ≠ 2147483647 := fun y => by
      have := c y
      omega
    omega
  · rw [if_neg z]
    omega
theorem td_pos {s W : Int} (hW : 0 < W) (hs : 0 ≤ s ∨ W ∣ s) : s.tdiv W = s / W := by
  rw [Int.tdiv_eq_ediv, if_pos hs]
  omega
theorem td_neg {s W : Int} (hW : 0 < W) (hs : ¬ (0 ≤ s ∨ W ∣ s)) : s.tdiv W = s / W + 1 := by
  rw [Int.tdiv_eq_ediv, if_neg hs, Int.sign_eq_one_of_pos hW]
theorem td_dvd {s W : Int} : W ∣ s ↔ s % W = 0 := Int.dvd_iff_emod_eq_zero
theorem ld_gen {x c : Int64} (hc : 0 < c.toInt) : (x / c).toInt = x.toInt.tdiv c.toInt := by
  rw [Int64.toInt_div, Int.bmod_eq_of_le]
  · have l := Int64.le_toInt x
    have h := i64_hi x
    have : -(x.toInt.natAbs : Int) ≤ x.toInt.tdiv c.toInt ∧ x.toInt.tdiv c.toInt ≤ x.toInt.natAbs := by
      have := Int.natAbs_tdiv_le_natAbs x.toInt c.toInt
      omega
    omega
  · have l := Int64.le_toInt x
    have h := i64_hi x
    by_cases z : 0 ≤ x.toInt
    · have := Int.natAbs_tdiv_le_natAbs x.toInt c.toInt
      omega
    · have n : x.toInt / c.toInt < 0 := Int.ediv_neg_of_neg_of_pos (by omega) hc
      by_cases y : 0 ≤ x.toInt ∨ c.toInt ∣ x.toInt
      · rw [td_pos hc y]; omega
      · rw [td_neg hc y]; omega
/-- the remainder, and the quotient, with a divisor above 0 -/
theorem lr_gen {x c : Int64} {M : Int} (hc : 0 < c.toInt) (h0 : -M * c.toInt ≤ x.toInt) (h1 : x.toInt ≤ M * c.toInt) (hM : 0 ≤ M) (hm : (M + 1) * c.toInt ≤ 9223372036854775807) : (lrm x c).toInt = x.toInt - x.toInt.tdiv c.toInt * c.toInt := by
  have d := ld_gen (x := x) hc
  have e : (x / c * c).toInt = x.toInt.tdiv c.toInt * c.toInt := by
    have : -9223372036854775808 ≤ x.toInt.tdiv c.toInt * c.toInt ∧ x.toInt.tdiv c.toInt * c.toInt ≤ 9223372036854775807 := by
      have f1 := Int.mul_ediv_add_emod x.toInt c.toInt
      have f2 := Int.emod_nonneg x.toInt (Int.ne_of_gt hc)
      have f3 := Int.emod_lt_of_pos x.toInt hc
      have e1 : (M + 1) * c.toInt = M * c.toInt + c.toInt := by rw [Int.add_mul, Int.one_mul]
      have e2 : -M * c.toInt = -(M * c.toInt) := Int.neg_mul _ _
      by_cases z : 0 ≤ x.toInt ∨ c.toInt ∣ x.toInt
      · rw [td_pos hc z, Int.mul_comm]
        omega
      · rw [td_neg hc z, Int.add_mul, Int.one_mul, Int.mul_comm]
        omega
    rw [lmul_toInt (by rw [d]; exact this.1) (by rw [d]; exact this.2), d]
  unfold lrm
  have f1 := Int.mul_ediv_add_emod x.toInt c.toInt
  have f2 := Int.emod_nonneg x.toInt (Int.ne_of_gt hc)
  have f3 := Int.emod_lt_of_pos x.toInt hc
  have e1 : (M + 1) * c.toInt = M * c.toInt + c.toInt := by rw [Int.add_mul, Int.one_mul]
  have : -c.toInt ≤ x.toInt - x.toInt.tdiv c.toInt * c.toInt ∧ x.toInt - x.toInt.tdiv c.toInt * c.toInt ≤ c.toInt := by
    by_cases z : 0 ≤ x.toInt ∨ c.toInt ∣ x.toInt
    · rw [td_pos hc z, Int.mul_comm]
      omega
    · rw [td_neg hc z, Int.add_mul, Int.one_mul, Int.mul_comm]
      omega
  have m0 : 0 ≤ M * c.toInt := Int.mul_nonneg hM (Int.le_of_lt hc)
  rw [lsub_toInt (by rw [e]; omega) (by rw [e]; omega), e]
theorem fl_xor {x c : Int64} (hc : 0 < c.toInt) : (0 ≤ x ^^^ c) ↔ 0 ≤ x.toInt := by
  have mc : c.toBitVec.msb = false := by
    rw [BitVec.msb_eq_toInt]
    exact decide_eq_false (by show ¬ c.toInt < 0; omega)
  rw [Int64.le_iff_toInt_le]
  have e : (x ^^^ c).toBitVec.msb = x.toBitVec.msb := by
    rw [Int64.toBitVec_xor, BitVec.msb_xor, mc, Bool.xor_false]
  rw [BitVec.msb_eq_toInt, BitVec.msb_eq_toInt] at e
  have e2 := decide_eq_decide.mp e
  have l0 : (0 : Int64).toInt = 0 := by decide
  have a1 : (x ^^^ c).toBitVec.toInt = (x ^^^ c).toInt := rfl
  have a2 : x.toBitVec.toInt = x.toInt := rfl
  rw [a1, a2] at e2
  rw [l0]
  omega
/-- Math.floorDiv -/
theorem r_floor (σ : gS) {x c : Int64} {M : Int} (hc : 0 < c.toInt) (h0 : -M * c.toInt ≤ x.toInt) (h1 : x.toInt ≤ M * c.toInt) (hM : 0 ≤ M) (hm : (M + 1) * c.toInt ≤ 9223372036854775807) : ∃ f : Int64, fJ9_floorDiv_f86c9 σ x c = some f ∧ f.toInt = x.toInt / c.toInt := by
  have l0 : (0 : Int64).toInt = 0 := by decide
  have l1 : (1 : Int64).toInt = 1 := by decide
  have hn : ¬ c = 0 := fun z => by rw [z] at hc; omega
  have d := ld_gen (x := x) hc
  have e1 : (M + 1) * c.toInt = M * c.toInt + c.toInt := by rw [Int.add_mul, Int.one_mul]
  have e2 : -M * c.toInt = -(M * c.toInt) := Int.neg_mul _ _
  have f1 := Int.mul_ediv_add_emod x.toInt c.toInt
  have f2 := Int.emod_nonneg x.toInt (Int.ne_of_gt hc)
  have f3 := Int.emod_lt_of_pos x.toInt hc
  have e : (x / c * c).toInt = x.toInt.tdiv c.toInt * c.toInt := by
    have : -9223372036854775808 ≤ x.toInt.tdiv c.toInt * c.toInt ∧ x.toInt.tdiv c.toInt * c.toInt ≤ 9223372036854775807 := by
      by_cases z : 0 ≤ x.toInt ∨ c.toInt ∣ x.toInt
      · rw [td_pos hc z, Int.mul_comm]
        omega
      · rw [td_neg hc z, Int.add_mul, Int.one_mul, Int.mul_comm]
        omega
    rw [lmul_toInt (by rw [d]; exact this.1) (by rw [d]; exact this.2), d]
  unfold fJ9_floorDiv_f86c9
  rw [q_gd (decide_eq_true hn), nm_eq]
  by_cases y : 0 ≤ x.toInt
  · rw [if_pos ((fl_xor hc).mpr y)]
    exact ⟨_, rfl, by rw [d, td_pos hc (.inl y)]⟩
  · rw [if_neg (fun z => y ((fl_xor hc).mp z))]
    by_cases z : c.toInt ∣ x.toInt
    · rw [if_pos (Int64.toInt_inj.mp (by rw [e, td_pos hc (.inr z), Int.mul_comm]; have := td_dvd.mp z; omega))]
      exact ⟨_, rfl, by rw [d, td_pos hc (.inr z)]⟩
    · have zz : ¬ (0 ≤ x.toInt ∨ c.toInt ∣ x.toInt) := fun w => w.elim y z
      have t := td_neg hc zz
      rw [if_neg (fun w => by
        have w := congrArg Int64.toInt w
        rw [e] at w
        exact z (td_dvd.mpr (by
          have : x.toInt.tdiv c.toInt * c.toInt = c.toInt * (x.toInt / c.toInt) + c.toInt := by rw [t, Int.add_mul, Int.one_mul, Int.mul_comm]
          omega)))]
      have lo : -9223372036854775808 ≤ x.toInt / c.toInt := by
        have := Int.le_ediv_of_mul_le hc h0
        have : M + 1 ≤ 9223372036854775807 := by
          have := Int.mul_le_mul_of_nonneg_left (show (1 : Int) ≤ c.toInt by omega) (show 0 ≤ M + 1 by omega)
          omega
        omega
      have hi := i64_hi (x / c)
      have li := Int64.le_toInt (x / c)
      exact ⟨_, rfl, by rw [lsub_toInt (by rw [d, t, l1]; omega) (by rw [l1]; omega), d, t, l1]; omega⟩
end P12I
