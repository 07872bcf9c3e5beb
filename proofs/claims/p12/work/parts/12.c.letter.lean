/-! ANSWERS ALIKE: letter -/
section P12C
noncomputable def dv : Int → Nat → Int
  | x, 0 => x
  | x, j + 1 => dv (x / 27) j
theorem dv_mul : ∀ (a j : Nat) (x : Int), dv (x * 27 ^ a) (a + j) = dv x j
  | 0, j, x => by rw [Int.pow_zero, Int.mul_one, Nat.zero_add]
  | a + 1, j, x => by
    have e : a + 1 + j = (a + j) + 1 := by omega
    rw [e]
    show dv (x * 27 ^ (a + 1) / 27) (a + j) = _
    have e2 : x * 27 ^ (a + 1) / 27 = x * 27 ^ a := by
      rw [Int.pow_succ, ← Int.mul_assoc]
      exact Int.mul_ediv_cancel _ (by decide)
    rw [e2]
    exact dv_mul a j x
theorem dv_few : ∀ (b a : Nat) (x : Int), dv (x * 27 ^ (a + b)) b = x * 27 ^ a
  | 0, a, x => rfl
  | b + 1, a, x => by
    show dv (x * 27 ^ (a + (b + 1)) / 27) b = _
    have e2 : x * 27 ^ (a + (b + 1)) / 27 = x * 27 ^ (a + b) := by
      have e : a + (b + 1) = (a + b) + 1 := by omega
      rw [e, Int.pow_succ, ← Int.mul_assoc]
      exact Int.mul_ediv_cancel _ (by decide)
    rw [e2]
    exact dv_few b a x
theorem c_dig (σ : gS) (k : Int32) : ∀ (j K : Nat) (c a : Int32), j < K → a.toInt - k.toInt = j → 0 ≤ k.toInt → a.toInt ≤ 5 → 0 ≤ c.toInt → ∃ w : Int32, lpc (S := Int32 × Int32) K (fun rec s => bX9_letter_51 σ k (fun a4 a5 => rec (a4, a5)) s.1 s.2) (c, a) = some w ∧ w.toInt = dv c.toInt j % 27 := by
  intro j
  induction j with
  | zero =>
    intro K c a hK hj h0 h5 hc
    rw [lpc_pos hK]
    show ∃ w, bX9_letter_51 σ k _ c a = some w ∧ _
    unfold bX9_letter_51
    rw [if_pos (q_le (by omega))]
    exact ⟨_, rfl, irm_toInt hc (by decide)⟩
  | succ j ih =>
    intro K c a hK hj h0 h5 hc
    rw [lpc_pos (by omega)]
    show ∃ w, bX9_letter_51 σ k _ c a = some w ∧ _
    unfold bX9_letter_51
    have l1 : (-1 : Int32).toInt = -1 := by decide
    have e1 : (a + (-1)).toInt = a.toInt - 1 := by rw [iadd_toInt] <;> omega
    have e2 : (c / 27).toInt = c.toInt / 27 := idiv_toInt hc (by decide)
    rw [if_neg (q_nle (by omega)), nm_eq, nm_eq]
    obtain ⟨w, h1, h2⟩ := ih (K - 1) (c / 27) (a + (-1)) (by omega) (by omega) h0 (by omega) (by omega)
    refine ⟨w, h1, ?_⟩
    rw [h2, e2]
    rfl
theorem m_dig (σ : gS) (k : Int32) : ∀ (j K : Nat) (c : Int64) (a : Int32), j < K → a.toInt - k.toInt = j → 0 ≤ k.toInt → a.toInt ≤ 5 → 0 ≤ c.toInt → ∃ w : Int32, lpc (S := Int64 × Int32) K (fun rec s => bX10_letter_105 σ k (fun a4 a7 => rec (a4, a7)) s.1 s.2) (c, a) = some w ∧ w.toInt = dv c.toInt j % 27 := by
  intro j
  have l27 : (27 : Int64).toInt = 27 := by decide
  induction j with
  | zero =>
    intro K c a hK hj h0 h5 hc
    rw [lpc_pos hK]
    show ∃ w, bX10_letter_105 σ k _ c a = some w ∧ _
    unfold bX10_letter_105
    rw [if_pos (q_le (by omega))]
    have e : (lrm c 27).toInt = c.toInt % 27 := by rw [lrm_nn hc (by decide), l27]
    refine ⟨_, rfl, ?_⟩
    rw [l_toInt32 (by omega) (by omega), e]
    rfl
  | succ j ih =>
    intro K c a hK hj h0 h5 hc
    rw [lpc_pos (by omega)]
    show ∃ w, bX10_letter_105 σ k _ c a = some w ∧ _
    unfold bX10_letter_105
    have l1 : (-1 : Int32).toInt = -1 := by decide
    have e1 : (a + (-1)).toInt = a.toInt - 1 := by rw [iadd_toInt] <;> omega
    have e2 : (c / 27).toInt = c.toInt / 27 := by rw [ldiv_nn hc (by decide), l27]
    rw [if_neg (q_nle (by omega)), nm_eq, nm_eq]
    obtain ⟨w, h1, h2⟩ := ih (K - 1) (c / 27) (a + (-1)) (by omega) (by omega) h0 (by omega) (by omega)
    refine ⟨w, h1, ?_⟩
    rw [h2, e2]
    rfl
/-- a number of n digits -/
theorem m_cnt (σ : gS) (k : Int32) (v : Int64) (hk : 0 ≤ k.toInt ∧ k.toInt ≤ 5) (hv : 0 ≤ v.toInt) : ∀ (n K : Nat) (a : Int32) (z : Int64), n < K → 0 ≤ a.toInt → a.toInt + n ≤ 6 → 0 ≤ z.toInt → z.toInt < 27 ^ n → (∀ i : Nat, n = i + 1 → 27 ^ i ≤ z.toInt) → ∃ w : Int32, lpc (S := Int32 × Int64) K (fun rec s => bX10_letter_70 σ k v (fun a6 a7 => rec (a6, a7)) s.1 s.2) (a, z) = some w ∧ w.toInt = if k.toInt < a.toInt + n then dv v.toInt (a.toInt + n - 1 - k.toInt).toNat % 27 else 0 := by
  intro n
  have l0 : (0 : Int64).toInt = 0 := by decide
  have l27 : (27 : Int64).toInt = 27 := by decide
  have l1 : (1 : Int32).toInt = 1 := by decide
  induction n with
  | zero =>
    intro K a z hK h0 h6 hz hz1 hz2
    rw [lpc_pos hK]
    show ∃ w, bX10_letter_70 σ k v _ a z = some w ∧ _
    unfold bX10_letter_70
    have zz : z.toInt = 0 := by
      have : z.toInt < 1 := hz1
      omega
    rw [if_pos (q_lle (by omega))]
    rcases lt_or k a with ⟨c, c'⟩ | ⟨c, c'⟩
    · rw [if_pos c, nm_eq]
      have e1 : (a - 1).toInt = a.toInt - 1 := by rw [isub_toInt] <;> omega
      obtain ⟨w, h1, h2⟩ := m_dig σ k (a.toInt - 1 - k.toInt).toNat K9 v (a - 1) (by unfold K9; omega) (by omega) hk.1 (by omega) hv
      refine ⟨w, h1, ?_⟩
      rw [h2, if_pos (by omega)]
      congr 2
      omega
    · rw [if_neg c]
      exact ⟨0, rfl, by rw [if_neg (by omega)]; decide⟩
  | succ n ih =>
    intro K a z hK h0 h6 hz hz1 hz2
    rw [lpc_pos (by omega)]
    show ∃ w, bX10_letter_70 σ k v _ a z = some w ∧ _
    unfold bX10_letter_70
    have hz3 := hz2 n rfl
    have hp : (0 : Int) < 27 ^ n := Int.pow_pos (by decide)
    have e3 : (27 : Int) ^ (n + 1) = 27 ^ n * 27 := Int.pow_succ _ _
    rw [e3] at hz1
    have ng : ¬ z ≤ 0 := fun y => by
      have := Int64.le_iff_toInt_le.mp y
      omega
    have e1 := i_inc (a := a) (c := 6) (by omega) (by omega) (by decide)
    have e2 : (z / 27).toInt = z.toInt / 27 := by rw [ldiv_nn hz (by decide), l27]
    rw [if_neg ng, nm_eq, nm_eq]
    obtain ⟨w, h1, h2⟩ := ih (K - 1) (a + 1) (z / 27) (by omega) (by omega) (by omega) (by omega) (by omega) (fun i hi => by
      subst hi
      have e4 : (27 : Int) ^ (i + 1) = 27 ^ i * 27 := Int.pow_succ _ _
      rw [e4] at hz3
      omega)
    refine ⟨w, h1, ?_⟩
    rw [h2, e1]
    have e5 : a.toInt + 1 + (n : Int) = a.toInt + ((n + 1 : Nat) : Int) := by omega
    rw [e5]
/-- the letter of a name, on both sides -/
theorem let_alike {σC σM : gS} {c : Int32} {m : Int64} (h : NR c m) {k : Int32} (hk : 0 ≤ k.toInt ∧ k.toInt ≤ 5) : ∃ w, lpc (S := Int32 × Int32) K9 (fun rec s => bX9_letter_51 σC k (fun a4 a5 => rec (a4, a5)) s.1 s.2) (c, 5) = some w ∧ lpc (S := Int32 × Int64) K9 (fun rec s => bX10_letter_70 σM k m (fun a6 a7 => rec (a6, a7)) s.1 s.2) (0, m) = some w := by
  obtain ⟨n, a1, a2, a3, a4, a5, a6⟩ := h
  have l5 : (5 : Int32).toInt = 5 := by decide
  have z0' := z0
  have hp : (0 : Int) < 27 ^ (n - 1) := Int.pow_pos (by decide)
  have hc : 0 ≤ c.toInt := by
    rw [a6]
    exact Int.mul_nonneg (by omega) (Int.le_of_lt (Int.pow_pos (by decide)))
  obtain ⟨w, h1, h2⟩ := c_dig σC k (5 - k.toInt).toNat K9 c 5 (by unfold K9; omega) (by omega) hk.1 (by omega) hc
  obtain ⟨u, g1, g2⟩ := m_cnt σM k m hk (by omega) n K9 0 m (by unfold K9; omega) (by decide) (by omega) (by omega) a4 (fun i hi => by subst hi; exact a3)
  refine ⟨w, h1, ?_⟩
  rw [g1]
  congr 1
  refine Int32.toInt_inj.mp ?_
  rw [g2, h2, a6, z0]
  by_cases y : k.toInt < 0 + (n : Int)
  · rw [if_pos y]
    have e : (5 - k.toInt).toNat = (6 - n) + (0 + (n : Int) - 1 - k.toInt).toNat := by omega
    rw [e, dv_mul]
  · rw [if_neg y]
    obtain ⟨d, hd⟩ : ∃ d, 6 - n = (d + 1) + (5 - k.toInt).toNat := ⟨6 - n - 1 - (5 - k.toInt).toNat, by omega⟩
    rw [hd, dv_few, Int.pow_succ, ← Int.mul_assoc]
    exact (Int.mul_emod_left _ _).symm
theorem c_5 {σC σM : gS} (h : IV σC σM) (x1 x2 x3 : Int32) : ∃ (oc : Int32) (om : Int32), fX9_letter σC x1 x2 x3 = some oc ∧ fX10_letter σM x1 x2 x3 = some om ∧ oc = om ∧ IV σC σM := by
  have h' := h
  obtain ⟨i1, i2, i3, i4, i5, i6, i7, t1, t2, t3⟩ := h
  have z0' := z0
  have l2 : (2 : Int32).toInt = 2 := by decide
  have l5 : (5 : Int32).toInt = 5 := by decide
  have l6 : (6 : Int32).toInt = 6 := by decide
  have l1 : (1 : Int32).toInt = 1 := by decide
  unfold fX9_letter fX10_letter
  rcases in_32 σM x1 0 2 with ⟨a, a1, a2⟩ | ⟨a, a1⟩
  · rw [q_bd (show fX10_isIn σM x1.toInt64 0 2 = some 1 from a), if_neg one_ne]
    rw [if_neg (fun z => by have := Int32.lt_iff_toInt_lt.mp z; omega), if_neg (fun z => by have := Int32.lt_iff_toInt_lt.mp z; omega)]
    obtain ⟨K, hK⟩ : ∃ K : Nat, x1.toInt = K := ⟨x1.toInt.toNat, by omega⟩
    have ek : x1.toNatClampNeg = K := by rw [n_toInt]; omega
    have e6 : (6 + x1).toInt = 6 + x1.toInt := by rw [iadd_toInt] <;> omega
    have en6 : (6 + x1).toNatClampNeg = 6 + K := by rw [n_toInt]; omega
    rw [q_gd (show gb (6 + x1) 12 = true from gb_of (by omega) (by omega)), en6, show ∀ f : Int32 → Option Int32, nm (σM.1 15 (6 + K)) f = f (σM.1 15 (6 + K)) from fun f => nm_eq]
    have ec := t1 K (by omega)
    have hn : 0 ≤ (σM.1 15 (6 + K)).toInt ∧ (σM.1 15 (6 + K)).toInt ≤ 20 := by
      have b6 := (JM_n i2)
      have hj : K = 0 ∨ K = 1 ∨ K = 2 := by omega
      rcases hj with rfl | rfl | rfl
      · have : 0 ≤ (σM.1 15 6).toInt ∧ (σM.1 15 6).toInt ≤ 6 := i2 15 6
        exact ⟨this.1, Int.le_trans this.2 (by decide)⟩
      · have : 0 ≤ (σM.1 15 7).toInt ∧ (σM.1 15 7).toInt ≤ 12 := i2 15 7
        exact ⟨this.1, Int.le_trans this.2 (by decide)⟩
      · exact i2 15 8
    have em : (σM.1 15 (6 + K) - 1).toInt = (σM.1 15 (6 + K)).toInt - 1 := by rw [isub_toInt] <;> omega
    rcases ex_2 σC x2 hK (by omega) with ⟨b, b1, b2⟩ | ⟨b, b1⟩
    · rw [ec] at b2
      rw [q_bd b, if_neg one_ne]
      rcases in_32 σM x2 0 (σM.1 15 (6 + K) - 1) with ⟨c, c1, c2⟩ | ⟨c, c1⟩
      · rw [q_bd (show fX10_isIn σM x2.toInt64 0 (σM.1 15 (6 + K) - 1).toInt64 = some 1 from c), if_neg one_ne]
        rcases in_32 σM x3 0 5 with ⟨d, d1, d2⟩ | ⟨d, d1⟩
        · rw [q_bd (show fX10_isIn σM x3.toInt64 0 5 = some 1 from d), if_neg one_ne]
          rw [if_neg (fun z => by have := Int32.lt_iff_toInt_lt.mp z; omega), if_pos (Int32.lt_iff_toInt_lt.mpr (by omega))]
          have f1 : (20 * x1).toInt = 20 * x1.toInt := imulc (by decide) (by omega) (by omega)
          have l60 : (60 : Int32).toInt = 60 := by decide
          have f2 : (60 + 20 * x1).toInt = 60 + (20 * x1).toInt := by rw [iadd_toInt] <;> omega
          have f3 : (60 + 20 * x1 + x2).toInt = (60 + 20 * x1).toInt + x2.toInt := by rw [iadd_toInt] <;> omega
          have f4 : (60 + 20 * x1 + x2).toNatClampNeg = 60 + (20 * K + x2.toInt.toNat) := by rw [n_toInt]; omega
          rw [q_gd (gb_of (by omega) (by omega)), q_gd (gb_of (by omega) (by omega)), nm_eq, nm_eq, nm_eq, q_gd (gb_of (by omega) (by omega)), nm_eq, nm_eq, nm_eq, nm_eq, f4, ek, n_toInt]
          obtain ⟨w, w1, w2⟩ := let_alike (σC := σC) (σM := σM) (t2 K x2.toInt.toNat (by omega) (by omega)) (k := x3) ⟨by omega, by omega⟩
          exact ⟨w, w, w1, w2, rfl, h'⟩
        · rw [q_bd (show fX10_isIn σM x3.toInt64 0 5 = some 0 from d), if_pos rfl]
          rcases lt_or x3 0 with ⟨g, g'⟩ | ⟨g, g'⟩
          · rw [if_pos g]
            exact ⟨_, _, rfl, rfl, rfl, h'⟩
          · rw [if_neg g, if_neg (fun z => by have := Int32.lt_iff_toInt_lt.mp z; omega)]
            exact ⟨_, _, rfl, rfl, rfl, h'⟩
      · omega
    · rw [ec] at b1
      rw [q_bd b, if_pos rfl]
      rcases in_32 σM x2 0 (σM.1 15 (6 + K) - 1) with ⟨c, c1, c2⟩ | ⟨c, c1⟩
      · omega
      · rw [q_bd (show fX10_isIn σM x2.toInt64 0 (σM.1 15 (6 + K) - 1).toInt64 = some 0 from c), if_pos rfl]
        exact ⟨_, _, rfl, rfl, rfl, h'⟩
  · rw [q_bd (show fX10_isIn σM x1.toInt64 0 2 = some 0 from a), if_pos rfl]
    rcases lt_or x1 0 with ⟨g, g'⟩ | ⟨g, g'⟩
    · rw [if_pos g]
      exact ⟨_, _, rfl, rfl, rfl, h'⟩
    · rw [if_neg g, if_pos (Int32.lt_iff_toInt_lt.mpr (by omega))]
      exact ⟨_, _, rfl, rfl, rfl, h'⟩
end P12C
