/-! ANSWERS ALIKE: on, the class's side -/
section P12F
theorem bv_and0 {A B : BitVec 32} (h : ∀ i, A.getLsbD i = false ∨ B.getLsbD i = false) : A &&& B = 0#32 := by
  apply BitVec.eq_of_getLsbD_eq
  intro i hi
  rw [BitVec.getLsbD_and]
  rcases h i with h | h <;> rw [h] <;> simp
theorem bv_sh {b : BitVec 32} (hb : ∀ j, 8 ≤ j → b.getLsbD j = false) (n i : Nat) (h : i < n ∨ n + 8 ≤ i) : (b <<< n).getLsbD i = false := by
  rw [BitVec.getLsbD_shiftLeft]
  rcases h with h | h
  · simp [h]
  · rw [hb (i - n) (by omega)]
    simp
theorem bv_four {b0 b1 b2 b3 : BitVec 32} (h0 : ∀ j, 8 ≤ j → b0.getLsbD j = false) (h1 : ∀ j, 8 ≤ j → b1.getLsbD j = false) (h2 : ∀ j, 8 ≤ j → b2.getLsbD j = false) (h3 : ∀ j, 8 ≤ j → b3.getLsbD j = false) : (((((((0#32 <<< 8) ||| b0) <<< 8) ||| b1) <<< 8) ||| b2) <<< 8) ||| b3 = (((b0 <<< 24) + (b1 <<< 16)) + (b2 <<< 8)) + b3 := by
  have a1 : (b0 <<< 24) &&& (b1 <<< 16) = 0#32 := bv_and0 (fun i => by
    by_cases h : i < 24
    · exact .inl (bv_sh h0 24 i (.inl h))
    · exact .inr (bv_sh h1 16 i (.inr (by omega))))
  rw [BitVec.add_eq_or_of_and_eq_zero _ _ a1]
  have a2 : ((b0 <<< 24) ||| (b1 <<< 16)) &&& (b2 <<< 8) = 0#32 := bv_and0 (fun i => by
    by_cases h : i < 16
    · exact .inl (by rw [BitVec.getLsbD_or, bv_sh h0 24 i (.inl (by omega)), bv_sh h1 16 i (.inl h)]; rfl)
    · exact .inr (bv_sh h2 8 i (.inr (by omega))))
  rw [BitVec.add_eq_or_of_and_eq_zero _ _ a2]
  have a3 : (((b0 <<< 24) ||| (b1 <<< 16)) ||| (b2 <<< 8)) &&& b3 = 0#32 := bv_and0 (fun i => by
    by_cases h : i < 8
    · exact .inl (by rw [BitVec.getLsbD_or, BitVec.getLsbD_or, bv_sh h0 24 i (.inl (by omega)), bv_sh h1 16 i (.inl (by omega)), bv_sh h2 8 i (.inl h)]; rfl)
    · exact .inr (h3 i (by omega)))
  rw [BitVec.add_eq_or_of_and_eq_zero _ _ a3]
  have z : (0#32 <<< 8) ||| b0 = b0 := by
    apply BitVec.eq_of_getLsbD_eq
    intro i hi
    rw [BitVec.getLsbD_or, BitVec.getLsbD_shiftLeft]
    simp
  rw [z]
  simp only [BitVec.shiftLeft_or_distrib, ← BitVec.shiftLeft_add]
theorem byte_hi {x : Int32} (h0 : 0 ≤ x.toInt) (h1 : x.toInt ≤ 255) : ∀ j, 8 ≤ j → x.toBitVec.getLsbD j = false := fun j hj => by
  have e : x.toBitVec.toNat < 256 := by
    have e2 : x.toInt = x.toBitVec.toInt := rfl
    rw [e2, BitVec.toInt_eq_toNat_cond] at h0 h1
    have := x.toBitVec.isLt
    split at h0 <;> split at h1 <;> omega
  rw [BitVec.getLsbD]
  exact Nat.testBit_lt_two_pow (Nat.lt_of_lt_of_le (show x.toBitVec.toNat < 2 ^ 8 from e) (Nat.pow_le_pow_right (by decide) hj))
/-- four bytes as the class takes them -/
noncomputable def VV (T : Nat → Int32) (A : Nat) : Nat → Int32
  | 0 => 0
  | k + 1 => (VV T A k <<< (8 &&& 31)) ||| T (A + k)
theorem VV_4 {T : Nat → Int32} (hT : ∀ i, 0 ≤ (T i).toInt ∧ (T i).toInt ≤ 255) (A : Nat) : VV T A 4 = W4 T A := by
  apply Int32.toBitVec_inj.mp
  exact bv_four (byte_hi (hT A).1 (hT A).2) (byte_hi (hT (A + 1)).1 (hT (A + 1)).2) (byte_hi (hT (A + 2)).1 (hT (A + 2)).2) (byte_hi (hT (A + 3)).1 (hT (A + 3)).2)
theorem pr_in79 {σ : gS} {p a4 : Int32} {rec3 : Int32 → gS → Option gS} {A : Nat} (hp0 : 0 ≤ p.toInt) (hp1 : p.toInt < 6) (h0 : 0 ≤ a4.toInt) (h1 : a4.toInt ≤ 1) (hA : (σ.1 197 3).toInt = A) (hA2 : A ≤ 1596) : lpc (S := Int32 × Int32) K9 (fun rec s => bX0_takePair_79_15 σ 1 p a4 rec3 (fun a5 a6 => rec (a5, a6)) s.1 s.2) (0, 0) = rec3 (a4 + 1) (gsI (gsI σ (80 + a4.toInt.toNat) p.toInt.toNat (VV (σ.1 1) A 4)) 197 3 (σ.1 197 3 + 4)) := by
  have st : ∀ (K k : Nat) (a6 b6 : Int32), 0 < K → a6.toInt = k → k < 4 → b6 = a6 + 1 → lpc (S := Int32 × Int32) K (fun rec s => bX0_takePair_79_15 σ 1 p a4 rec3 (fun a5 a6 => rec (a5, a6)) s.1 s.2) (VV (σ.1 1) A k, a6) = lpc (S := Int32 × Int32) (K - 1) (fun rec s => bX0_takePair_79_15 σ 1 p a4 rec3 (fun a5 a6 => rec (a5, a6)) s.1 s.2) (VV (σ.1 1) A (k + 1), b6) := by
    intro K k a6 b6 hK ha hk hb
    have l4 : (4 : Int32).toInt = 4 := by decide
    have gz : gsz zC.1 0 0 1 = 1600 := by decide
    have e : (σ.1 197 3 + a6).toInt = (σ.1 197 3).toInt + a6.toInt := by rw [iadd_toInt] <;> omega
    have en : (σ.1 197 3 + a6).toNatClampNeg = A + k := by rw [n_toInt]; omega
    rw [lpc_pos hK]
    show bX0_takePair_79_15 σ 1 p a4 rec3 _ (VV (σ.1 1) A k) a6 = _
    unfold bX0_takePair_79_15
    rw [if_neg (q_nle (by omega)), gz, q_gd (gb_of (by omega) (by omega)), nm_eq, nm_eq, nm_eq, en, hb]
    rfl
  have hK9 : K9 = 1048576 := rfl
  have v0 : (0 : Int32) = VV (σ.1 1) A 0 := rfl
  have s0 := st K9 0 0 1 (by omega) (by decide) (by decide) (by decide)
  have s1 := st (K9 - 1) 1 1 2 (by omega) (by decide) (by decide) (by decide)
  have s2 := st (K9 - 1 - 1) 2 2 3 (by omega) (by decide) (by decide) (by decide)
  have s3 := st (K9 - 1 - 1 - 1) 3 3 4 (by omega) (by decide) (by decide) (by decide)
  refine (s0.trans (s1.trans (s2.trans (s3.trans ?_))))
  rw [lpc_pos (by omega)]
  show bX0_takePair_79_15 σ 1 p a4 rec3 _ (VV (σ.1 1) A 4) 4 = _
  unfold bX0_takePair_79_15
  have l : (4 : Int32) ≤ 4 := by decide
  rw [if_pos l, q_gd (gb_of h0 (by omega)), q_gd (gb_of hp0 (by omega)), nm_eq, nm_eq, nm_eq, gsI_row (by rw [n_toInt]; omega), n_toInt, n_toInt]
theorem pr_eq79 {σ : gS} {p : Int32} {A : Nat} (hp0 : 0 ≤ p.toInt) (hp1 : p.toInt < 6) (hA : (σ.1 197 3).toInt = A) (hA2 : A ≤ 1592) : ∃ τ, fX0_takePair_79 σ 1 p = some τ ∧ (τ.1 197 3).toInt = ((A + 8 : Nat) : Int) ∧ (∀ i, τ.1 80 i = if i = p.toInt.toNat then VV (σ.1 1) A 4 else σ.1 80 i) ∧ (∀ i, τ.1 81 i = if i = p.toInt.toNat then VV (σ.1 1) (A + 4) 4 else σ.1 81 i) ∧ ∀ k, k ≠ 80 → k ≠ 81 → k ≠ 197 → τ.1 k = σ.1 k := by
  have l4 : (4 : Int32).toInt = 4 := by decide
  have hK9 : K9 = 1048576 := rfl
  obtain ⟨s1, hs1⟩ : ∃ s, s = gsI (gsI σ 80 p.toInt.toNat (VV (σ.1 1) A 4)) 197 3 (σ.1 197 3 + 4) := ⟨_, rfl⟩
  have a1 : s1.1 197 3 = σ.1 197 3 + 4 := by rw [hs1, gs_len]
  have a1' : (s1.1 197 3).toInt = ((A + 4 : Nat) : Int) := by rw [a1, iadd_toInt] <;> omega
  have t1 : s1.1 1 = σ.1 1 := by rw [hs1, gsI_row (by decide), gsI_row (by decide)]
  obtain ⟨s2, hs2⟩ : ∃ s, s = gsI (gsI s1 81 p.toInt.toNat (VV (s1.1 1) (A + 4) 4)) 197 3 (s1.1 197 3 + 4) := ⟨_, rfl⟩
  have a2 : s2.1 197 3 = s1.1 197 3 + 4 := by rw [hs2, gs_len]
  have a2' : (s2.1 197 3).toInt = ((A + 8 : Nat) : Int) := by rw [a2, iadd_toInt] <;> omega
  refine ⟨s2, ?_, a2', fun i => ?_, fun i => ?_, fun k h1 h2 h3 => ?_⟩
  · unfold fX0_takePair_79
    rw [nm_eq, lpc_pos (by omega)]
    show bX0_takePair_79_3 σ 1 p _ 0 σ = _
    unfold bX0_takePair_79_3
    rw [if_neg (by decide), nm_eq, nm_eq]
    refine (pr_in79 hp0 hp1 (by decide) (by decide) hA (by omega)).trans ?_
    have x0 : 80 + (0 : Int32).toInt.toNat = 80 := by rw [z0]; rfl
    rw [x0, ← hs1, lpc_pos (by omega)]
    show bX0_takePair_79_3 σ 1 p _ (0 + 1) s1 = _
    unfold bX0_takePair_79_3
    rw [if_neg (by decide), nm_eq, nm_eq]
    refine (pr_in79 hp0 hp1 (by decide) (by decide) a1' (by omega)).trans ?_
    have x1 : 80 + (0 + 1 : Int32).toInt.toNat = 81 := by decide
    rw [x1, ← hs2, lpc_pos (by omega)]
    show bX0_takePair_79_3 σ 1 p _ (0 + 1 + 1) s2 = _
    unfold bX0_takePair_79_3
    exact if_pos (by decide)
  · rw [hs2, gsI_row (by decide), gsI_row (by decide), hs1, gsI_row (by decide), gsI_at]
  · rw [hs2, gsI_row (by decide), gsI_at, t1, hs1, gsI_row (by decide), gsI_row (by decide)]
  · rw [hs2, gsI_row h3, gsI_row h2, hs1, gsI_row h3, gsI_row h1]
theorem pr_in76 {σ : gS} {p a4 : Int32} {rec3 : Int32 → gS → Option gS} {A : Nat} (hp0 : 0 ≤ p.toInt) (hp1 : p.toInt < 20) (h0 : 0 ≤ a4.toInt) (h1 : a4.toInt ≤ 1) (hA : (σ.1 197 3).toInt = A) (hA2 : A ≤ 1596) : lpc (S := Int32 × Int32) K9 (fun rec s => bX0_takePair_76_15 σ 1 p a4 rec3 (fun a5 a6 => rec (a5, a6)) s.1 s.2) (0, 0) = rec3 (a4 + 1) (gsI (gsI σ (77 + a4.toInt.toNat) p.toInt.toNat (VV (σ.1 1) A 4)) 197 3 (σ.1 197 3 + 4)) := by
  have st : ∀ (K k : Nat) (a6 b6 : Int32), 0 < K → a6.toInt = k → k < 4 → b6 = a6 + 1 → lpc (S := Int32 × Int32) K (fun rec s => bX0_takePair_76_15 σ 1 p a4 rec3 (fun a5 a6 => rec (a5, a6)) s.1 s.2) (VV (σ.1 1) A k, a6) = lpc (S := Int32 × Int32) (K - 1) (fun rec s => bX0_takePair_76_15 σ 1 p a4 rec3 (fun a5 a6 => rec (a5, a6)) s.1 s.2) (VV (σ.1 1) A (k + 1), b6) := by
    intro K k a6 b6 hK ha hk hb
    have l4 : (4 : Int32).toInt = 4 := by decide
    have gz : gsz zC.1 0 0 1 = 1600 := by decide
    have e : (σ.1 197 3 + a6).toInt = (σ.1 197 3).toInt + a6.toInt := by rw [iadd_toInt] <;> omega
    have en : (σ.1 197 3 + a6).toNatClampNeg = A + k := by rw [n_toInt]; omega
    rw [lpc_pos hK]
    show bX0_takePair_76_15 σ 1 p a4 rec3 _ (VV (σ.1 1) A k) a6 = _
    unfold bX0_takePair_76_15
    rw [if_neg (q_nle (by omega)), gz, q_gd (gb_of (by omega) (by omega)), nm_eq, nm_eq, nm_eq, en, hb]
    rfl
  have hK9 : K9 = 1048576 := rfl
  have v0 : (0 : Int32) = VV (σ.1 1) A 0 := rfl
  have s0 := st K9 0 0 1 (by omega) (by decide) (by decide) (by decide)
  have s1 := st (K9 - 1) 1 1 2 (by omega) (by decide) (by decide) (by decide)
  have s2 := st (K9 - 1 - 1) 2 2 3 (by omega) (by decide) (by decide) (by decide)
  have s3 := st (K9 - 1 - 1 - 1) 3 3 4 (by omega) (by decide) (by decide) (by decide)
  refine (s0.trans (s1.trans (s2.trans (s3.trans ?_))))
  rw [lpc_pos (by omega)]
  show bX0_takePair_76_15 σ 1 p a4 rec3 _ (VV (σ.1 1) A 4) 4 = _
  unfold bX0_takePair_76_15
  have l : (4 : Int32) ≤ 4 := by decide
  rw [if_pos l, q_gd (gb_of h0 (by omega)), q_gd (gb_of hp0 (by omega)), nm_eq, nm_eq, nm_eq, gsI_row (by rw [n_toInt]; omega), n_toInt, n_toInt]
theorem pr_eq76 {σ : gS} {p : Int32} {A : Nat} (hp0 : 0 ≤ p.toInt) (hp1 : p.toInt < 20) (hA : (σ.1 197 3).toInt = A) (hA2 : A ≤ 1592) : ∃ τ, fX0_takePair_76 σ 1 p = some τ ∧ (τ.1 197 3).toInt = ((A + 8 : Nat) : Int) ∧ (∀ i, τ.1 77 i = if i = p.toInt.toNat then VV (σ.1 1) A 4 else σ.1 77 i) ∧ (∀ i, τ.1 78 i = if i = p.toInt.toNat then VV (σ.1 1) (A + 4) 4 else σ.1 78 i) ∧ ∀ k, k ≠ 77 → k ≠ 78 → k ≠ 197 → τ.1 k = σ.1 k := by
  have l4 : (4 : Int32).toInt = 4 := by decide
  have hK9 : K9 = 1048576 := rfl
  obtain ⟨s1, hs1⟩ : ∃ s, s = gsI (gsI σ 77 p.toInt.toNat (VV (σ.1 1) A 4)) 197 3 (σ.1 197 3 + 4) := ⟨_, rfl⟩
  have a1 : s1.1 197 3 = σ.1 197 3 + 4 := by rw [hs1, gs_len]
  have a1' : (s1.1 197 3).toInt = ((A + 4 : Nat) : Int) := by rw [a1, iadd_toInt] <;> omega
  have t1 : s1.1 1 = σ.1 1 := by rw [hs1, gsI_row (by decide), gsI_row (by decide)]
  obtain ⟨s2, hs2⟩ : ∃ s, s = gsI (gsI s1 78 p.toInt.toNat (VV (s1.1 1) (A + 4) 4)) 197 3 (s1.1 197 3 + 4) := ⟨_, rfl⟩
  have a2 : s2.1 197 3 = s1.1 197 3 + 4 := by rw [hs2, gs_len]
  have a2' : (s2.1 197 3).toInt = ((A + 8 : Nat) : Int) := by rw [a2, iadd_toInt] <;> omega
  refine ⟨s2, ?_, a2', fun i => ?_, fun i => ?_, fun k h1 h2 h3 => ?_⟩
  · unfold fX0_takePair_76
    rw [nm_eq, lpc_pos (by omega)]
    show bX0_takePair_76_3 σ 1 p _ 0 σ = _
    unfold bX0_takePair_76_3
    rw [if_neg (by decide), nm_eq, nm_eq]
    refine (pr_in76 hp0 hp1 (by decide) (by decide) hA (by omega)).trans ?_
    have x0 : 77 + (0 : Int32).toInt.toNat = 77 := by rw [z0]; rfl
    rw [x0, ← hs1, lpc_pos (by omega)]
    show bX0_takePair_76_3 σ 1 p _ (0 + 1) s1 = _
    unfold bX0_takePair_76_3
    rw [if_neg (by decide), nm_eq, nm_eq]
    refine (pr_in76 hp0 hp1 (by decide) (by decide) a1' (by omega)).trans ?_
    have x1 : 77 + (0 + 1 : Int32).toInt.toNat = 78 := by decide
    rw [x1, ← hs2, lpc_pos (by omega)]
    show bX0_takePair_76_3 σ 1 p _ (0 + 1 + 1) s2 = _
    unfold bX0_takePair_76_3
    exact if_pos (by decide)
  · rw [hs2, gsI_row (by decide), gsI_row (by decide), hs1, gsI_row (by decide), gsI_at]
  · rw [hs2, gsI_row (by decide), gsI_at, t1, hs1, gsI_row (by decide), gsI_row (by decide)]
  · rw [hs2, gsI_row h3, gsI_row h2, hs1, gsI_row h3, gsI_row h1]
theorem pr_in73 {σ : gS} {p a4 : Int32} {rec3 : Int32 → gS → Option gS} {A : Nat} (hp0 : 0 ≤ p.toInt) (hp1 : p.toInt < 12) (h0 : 0 ≤ a4.toInt) (h1 : a4.toInt ≤ 1) (hA : (σ.1 197 3).toInt = A) (hA2 : A ≤ 1596) : lpc (S := Int32 × Int32) K9 (fun rec s => bX0_takePair_73_15 σ 1 p a4 rec3 (fun a5 a6 => rec (a5, a6)) s.1 s.2) (0, 0) = rec3 (a4 + 1) (gsI (gsI σ (74 + a4.toInt.toNat) p.toInt.toNat (VV (σ.1 1) A 4)) 197 3 (σ.1 197 3 + 4)) := by
  have st : ∀ (K k : Nat) (a6 b6 : Int32), 0 < K → a6.toInt = k → k < 4 → b6 = a6 + 1 → lpc (S := Int32 × Int32) K (fun rec s => bX0_takePair_73_15 σ 1 p a4 rec3 (fun a5 a6 => rec (a5, a6)) s.1 s.2) (VV (σ.1 1) A k, a6) = lpc (S := Int32 × Int32) (K - 1) (fun rec s => bX0_takePair_73_15 σ 1 p a4 rec3 (fun a5 a6 => rec (a5, a6)) s.1 s.2) (VV (σ.1 1) A (k + 1), b6) := by
    intro K k a6 b6 hK ha hk hb
    have l4 : (4 : Int32).toInt = 4 := by decide
    have gz : gsz zC.1 0 0 1 = 1600 := by decide
    have e : (σ.1 197 3 + a6).toInt = (σ.1 197 3).toInt + a6.toInt := by rw [iadd_toInt] <;> omega
    have en : (σ.1 197 3 + a6).toNatClampNeg = A + k := by rw [n_toInt]; omega
    rw [lpc_pos hK]
    show bX0_takePair_73_15 σ 1 p a4 rec3 _ (VV (σ.1 1) A k) a6 = _
    unfold bX0_takePair_73_15
    rw [if_neg (q_nle (by omega)), gz, q_gd (gb_of (by omega) (by omega)), nm_eq, nm_eq, nm_eq, en, hb]
    rfl
  have hK9 : K9 = 1048576 := rfl
  have v0 : (0 : Int32) = VV (σ.1 1) A 0 := rfl
  have s0 := st K9 0 0 1 (by omega) (by decide) (by decide) (by decide)
  have s1 := st (K9 - 1) 1 1 2 (by omega) (by decide) (by decide) (by decide)
  have s2 := st (K9 - 1 - 1) 2 2 3 (by omega) (by decide) (by decide) (by decide)
  have s3 := st (K9 - 1 - 1 - 1) 3 3 4 (by omega) (by decide) (by decide) (by decide)
  refine (s0.trans (s1.trans (s2.trans (s3.trans ?_))))
  rw [lpc_pos (by omega)]
  show bX0_takePair_73_15 σ 1 p a4 rec3 _ (VV (σ.1 1) A 4) 4 = _
  unfold bX0_takePair_73_15
  have l : (4 : Int32) ≤ 4 := by decide
  rw [if_pos l, q_gd (gb_of h0 (by omega)), q_gd (gb_of hp0 (by omega)), nm_eq, nm_eq, nm_eq, gsI_row (by rw [n_toInt]; omega), n_toInt, n_toInt]
theorem pr_eq73 {σ : gS} {p : Int32} {A : Nat} (hp0 : 0 ≤ p.toInt) (hp1 : p.toInt < 12) (hA : (σ.1 197 3).toInt = A) (hA2 : A ≤ 1592) : ∃ τ, fX0_takePair_73 σ 1 p = some τ ∧ (τ.1 197 3).toInt = ((A + 8 : Nat) : Int) ∧ (∀ i, τ.1 74 i = if i = p.toInt.toNat then VV (σ.1 1) A 4 else σ.1 74 i) ∧ (∀ i, τ.1 75 i = if i = p.toInt.toNat then VV (σ.1 1) (A + 4) 4 else σ.1 75 i) ∧ ∀ k, k ≠ 74 → k ≠ 75 → k ≠ 197 → τ.1 k = σ.1 k := by
  have l4 : (4 : Int32).toInt = 4 := by decide
  have hK9 : K9 = 1048576 := rfl
  obtain ⟨s1, hs1⟩ : ∃ s, s = gsI (gsI σ 74 p.toInt.toNat (VV (σ.1 1) A 4)) 197 3 (σ.1 197 3 + 4) := ⟨_, rfl⟩
  have a1 : s1.1 197 3 = σ.1 197 3 + 4 := by rw [hs1, gs_len]
  have a1' : (s1.1 197 3).toInt = ((A + 4 : Nat) : Int) := by rw [a1, iadd_toInt] <;> omega
  have t1 : s1.1 1 = σ.1 1 := by rw [hs1, gsI_row (by decide), gsI_row (by decide)]
  obtain ⟨s2, hs2⟩ : ∃ s, s = gsI (gsI s1 75 p.toInt.toNat (VV (s1.1 1) (A + 4) 4)) 197 3 (s1.1 197 3 + 4) := ⟨_, rfl⟩
  have a2 : s2.1 197 3 = s1.1 197 3 + 4 := by rw [hs2, gs_len]
  have a2' : (s2.1 197 3).toInt = ((A + 8 : Nat) : Int) := by rw [a2, iadd_toInt] <;> omega
  refine ⟨s2, ?_, a2', fun i => ?_, fun i => ?_, fun k h1 h2 h3 => ?_⟩
  · unfold fX0_takePair_73
    rw [nm_eq, lpc_pos (by omega)]
    show bX0_takePair_73_3 σ 1 p _ 0 σ = _
    unfold bX0_takePair_73_3
    rw [if_neg (by decide), nm_eq, nm_eq]
    refine (pr_in73 hp0 hp1 (by decide) (by decide) hA (by omega)).trans ?_
    have x0 : 74 + (0 : Int32).toInt.toNat = 74 := by rw [z0]; rfl
    rw [x0, ← hs1, lpc_pos (by omega)]
    show bX0_takePair_73_3 σ 1 p _ (0 + 1) s1 = _
    unfold bX0_takePair_73_3
    rw [if_neg (by decide), nm_eq, nm_eq]
    refine (pr_in73 hp0 hp1 (by decide) (by decide) a1' (by omega)).trans ?_
    have x1 : 74 + (0 + 1 : Int32).toInt.toNat = 75 := by decide
    rw [x1, ← hs2, lpc_pos (by omega)]
    show bX0_takePair_73_3 σ 1 p _ (0 + 1 + 1) s2 = _
    unfold bX0_takePair_73_3
    exact if_pos (by decide)
  · rw [hs2, gsI_row (by decide), gsI_row (by decide), hs1, gsI_row (by decide), gsI_at]
  · rw [hs2, gsI_row (by decide), gsI_at, t1, hs1, gsI_row (by decide), gsI_row (by decide)]
  · rw [hs2, gsI_row h3, gsI_row h2, hs1, gsI_row h3, gsI_row h1]
theorem tk_129 {σ ρ s o : gS} (b0 : 0 ≤ (σ.1 3 0).toInt ∧ (σ.1 3 0).toInt ≤ 6) (b1 : 0 ≤ (σ.1 3 1).toInt ∧ (σ.1 3 1).toInt ≤ 12) (b2 : 0 ≤ (σ.1 3 2).toInt ∧ (σ.1 3 2).toInt ≤ 20) (b3 : 0 ≤ (σ.1 3 3).toInt ∧ (σ.1 3 3).toInt ≤ 60) (hr : s.1 3 = σ.1 3) (ht : s.1 1 = σ.1 1) (hl : (s.1 197 3).toInt = ((1 + 9 * (σ.1 3 1).toInt.toNat + 8 * (σ.1 3 2).toInt.toNat + 8 * (σ.1 3 0).toInt.toNat : Nat) : Int)) (h : lpc (S := Int32 × gS) K9 (fun rec s => bX0_take_71_129 ρ 1 (fun a3 σ1 => rec (a3, σ1)) s.1 s.2) (0, s) = some o) : (∀ j, j ≠ 82 → j ≠ 197 → o.1 j = s.1 j) ∧ (∀ i : Nat, (i : Int) < (σ.1 3 3).toInt → o.1 82 i = σ.1 1 (1 + 9 * (σ.1 3 1).toInt.toNat + 8 * (σ.1 3 2).toInt.toNat + 8 * (σ.1 3 0).toInt.toNat + i)) := by
  refine lpc_part (I := fun t : Int32 × gS => 0 ≤ t.1.toInt ∧ t.1.toInt ≤ (σ.1 3 3).toInt ∧ (t.2.1 197 3).toInt = ((1 + 9 * (σ.1 3 1).toInt.toNat + 8 * (σ.1 3 2).toInt.toNat + 8 * (σ.1 3 0).toInt.toNat : Nat) : Int) + 1 * t.1.toInt ∧ (∀ j, j ≠ 82 → j ≠ 197 → t.2.1 j = s.1 j) ∧ (∀ i : Nat, (i : Int) < t.1.toInt → t.2.1 82 i = σ.1 1 (1 + 9 * (σ.1 3 1).toInt.toNat + 8 * (σ.1 3 2).toInt.toNat + 8 * (σ.1 3 0).toInt.toNat + i))) (P := fun o : gS => (∀ j, j ≠ 82 → j ≠ 197 → o.1 j = s.1 j) ∧ (∀ i : Nat, (i : Int) < (σ.1 3 3).toInt → o.1 82 i = σ.1 1 (1 + 9 * (σ.1 3 1).toInt.toNat + 8 * (σ.1 3 2).toInt.toNat + 8 * (σ.1 3 0).toInt.toNat + i))) (fun rec t hs hrec o ho => ?_) K9 _ o ⟨by show 0 ≤ (0 : Int32).toInt; decide, by show (0 : Int32).toInt ≤ _; rw [z0]; exact b3.1, by show (s.1 197 3).toInt = _ + _ * (0 : Int32).toInt; rw [z0]; omega, fun _ _ _ => rfl, fun i hi => absurd hi (by have := z0; show ¬ (i : Int) < (0 : Int32).toInt; omega)⟩ h
  obtain ⟨a, t⟩ := t
  obtain ⟨k0, k1, k2, k3, f0⟩ := hs
  dsimp only at ho k0 k1 k2 k3 f0
  have t3 : t.1 3 = σ.1 3 := (k3 3 (by decide) (by decide)).trans hr
  have t1 : t.1 1 = σ.1 1 := (k3 1 (by decide) (by decide)).trans ht
  unfold bX0_take_71_129 at ho
  rw [q_gd (by decide), nm_eq] at ho
  have ec : t.1 3 ((3 : Int32).toNatClampNeg) = σ.1 3 3 := by rw [t3]; rfl
  rw [ec] at ho
  by_cases z : σ.1 3 3 ≤ a
  · have z' := Int32.le_iff_toInt_le.mp z
    rw [if_pos z] at ho
    cases ho
    exact ⟨fun j q82 q197 => k3 j q82 q197, fun i hi => f0 i (by omega)⟩
  · have z' := q_gt z
    rw [if_neg z] at ho
    have e1 := i_inc (a := a) (c := 60) (by omega) (by omega) (by decide)
    obtain ⟨A, hA⟩ : ∃ A : Nat, A = 1 + 9 * (σ.1 3 1).toInt.toNat + 8 * (σ.1 3 2).toInt.toNat + 8 * (σ.1 3 0).toInt.toNat + 1 * a.toInt.toNat := ⟨_, rfl⟩
    have k2' : (t.1 197 3).toInt = A := by rw [k2, hA]; omega
    have gz : gsz zC.1 0 0 1 = 1600 := by decide
    rw [gz, q_gd (gb_of (by omega) (by omega)), nm_eq, q_gd (gb_of k0 (by omega)), nm_eq, nm_eq, nm_eq, n_toInt, n_toInt] at ho
    have ea : (t.1 197 3).toInt.toNat = A := by omega
    have ex : (gsI t 82 a.toInt.toNat (t.1 1 (t.1 197 3).toInt.toNat)).1 197 3 = t.1 197 3 := by rw [gsI_row (by decide)]
    rw [ex, ea, t1] at ho
    obtain ⟨u, hu⟩ : ∃ u, u = gsI (gsI t 82 a.toInt.toNat (σ.1 1 A)) 197 3 (t.1 197 3 + 1) := ⟨_, rfl⟩
    rw [← hu] at ho
    have u3 : (u.1 197 3).toInt = (A : Int) + 1 := by rw [hu, gs_len, i_inc (c := 1600) (by omega) (by omega) (by decide), k2']
    refine hrec (a + 1, u) o ⟨by show 0 ≤ (a + 1).toInt; omega, by show (a + 1).toInt ≤ _; omega, by show (u.1 197 3).toInt = _ + _ * (a + 1).toInt; rw [u3]; omega, fun j q82 q197 => ?_, fun i hi => ?_⟩ ho
    · show u.1 j = s.1 j
      rw [hu, gsI_row q197, gsI_row q82]
      exact k3 j q82 q197
    · have hi : (i : Int) < (a + 1).toInt := hi
      show u.1 82 i = _
      rw [hu, gsI_row (by decide), gsI_at]
      by_cases w : i = a.toInt.toNat
      · rw [if_pos w, hA, w, Nat.one_mul]
      · rw [if_neg w]; exact f0 i (by omega)
theorem tk_98 {σ ρ s o : gS} (b0 : 0 ≤ (σ.1 3 0).toInt ∧ (σ.1 3 0).toInt ≤ 6) (b1 : 0 ≤ (σ.1 3 1).toInt ∧ (σ.1 3 1).toInt ≤ 12) (b2 : 0 ≤ (σ.1 3 2).toInt ∧ (σ.1 3 2).toInt ≤ 20) (b3 : 0 ≤ (σ.1 3 3).toInt ∧ (σ.1 3 3).toInt ≤ 60) (hr : s.1 3 = σ.1 3) (ht : s.1 1 = σ.1 1) (hl : (s.1 197 3).toInt = ((1 + 9 * (σ.1 3 1).toInt.toNat + 8 * (σ.1 3 2).toInt.toNat : Nat) : Int)) (h : lpc (S := Int32 × gS) K9 (fun rec s => bX0_take_71_98 ρ 1 (fun a3 σ1 => rec (a3, σ1)) s.1 s.2) (0, s) = some o) : (∀ j, j ≠ 80 → j ≠ 81 → j ≠ 82 → j ≠ 197 → o.1 j = s.1 j) ∧ (∀ i : Nat, (i : Int) < (σ.1 3 0).toInt → o.1 80 i = VV (σ.1 1) (1 + 9 * (σ.1 3 1).toInt.toNat + 8 * (σ.1 3 2).toInt.toNat + 8 * i) 4) ∧ (∀ i : Nat, (i : Int) < (σ.1 3 0).toInt → o.1 81 i = VV (σ.1 1) (1 + 9 * (σ.1 3 1).toInt.toNat + 8 * (σ.1 3 2).toInt.toNat + 8 * i + 4) 4) ∧ (∀ i : Nat, (i : Int) < (σ.1 3 3).toInt → o.1 82 i = σ.1 1 (1 + 9 * (σ.1 3 1).toInt.toNat + 8 * (σ.1 3 2).toInt.toNat + 8 * (σ.1 3 0).toInt.toNat + i)) := by
  refine lpc_part (I := fun t : Int32 × gS => 0 ≤ t.1.toInt ∧ t.1.toInt ≤ (σ.1 3 0).toInt ∧ (t.2.1 197 3).toInt = ((1 + 9 * (σ.1 3 1).toInt.toNat + 8 * (σ.1 3 2).toInt.toNat : Nat) : Int) + 8 * t.1.toInt ∧ (∀ j, j ≠ 80 → j ≠ 81 → j ≠ 197 → t.2.1 j = s.1 j) ∧ (∀ i : Nat, (i : Int) < t.1.toInt → t.2.1 80 i = VV (σ.1 1) (1 + 9 * (σ.1 3 1).toInt.toNat + 8 * (σ.1 3 2).toInt.toNat + 8 * i) 4) ∧ (∀ i : Nat, (i : Int) < t.1.toInt → t.2.1 81 i = VV (σ.1 1) (1 + 9 * (σ.1 3 1).toInt.toNat + 8 * (σ.1 3 2).toInt.toNat + 8 * i + 4) 4)) (P := fun o : gS => (∀ j, j ≠ 80 → j ≠ 81 → j ≠ 82 → j ≠ 197 → o.1 j = s.1 j) ∧ (∀ i : Nat, (i : Int) < (σ.1 3 0).toInt → o.1 80 i = VV (σ.1 1) (1 + 9 * (σ.1 3 1).toInt.toNat + 8 * (σ.1 3 2).toInt.toNat + 8 * i) 4) ∧ (∀ i : Nat, (i : Int) < (σ.1 3 0).toInt → o.1 81 i = VV (σ.1 1) (1 + 9 * (σ.1 3 1).toInt.toNat + 8 * (σ.1 3 2).toInt.toNat + 8 * i + 4) 4) ∧ (∀ i : Nat, (i : Int) < (σ.1 3 3).toInt → o.1 82 i = σ.1 1 (1 + 9 * (σ.1 3 1).toInt.toNat + 8 * (σ.1 3 2).toInt.toNat + 8 * (σ.1 3 0).toInt.toNat + i))) (fun rec t hs hrec o ho => ?_) K9 _ o ⟨by show 0 ≤ (0 : Int32).toInt; decide, by show (0 : Int32).toInt ≤ _; rw [z0]; exact b0.1, by show (s.1 197 3).toInt = _ + _ * (0 : Int32).toInt; rw [z0]; omega, fun _ _ _ _ => rfl, fun i hi => absurd hi (by have := z0; show ¬ (i : Int) < (0 : Int32).toInt; omega), fun i hi => absurd hi (by have := z0; show ¬ (i : Int) < (0 : Int32).toInt; omega)⟩ h
  obtain ⟨a, t⟩ := t
  obtain ⟨k0, k1, k2, k3, f0, f1⟩ := hs
  dsimp only at ho k0 k1 k2 k3 f0 f1
  have t3 : t.1 3 = σ.1 3 := (k3 3 (by decide) (by decide) (by decide)).trans hr
  have t1 : t.1 1 = σ.1 1 := (k3 1 (by decide) (by decide) (by decide)).trans ht
  unfold bX0_take_71_98 at ho
  rw [q_gd (by decide), nm_eq] at ho
  have ec : t.1 3 ((0 : Int32).toNatClampNeg) = σ.1 3 0 := by rw [t3]; rfl
  rw [ec] at ho
  by_cases z : σ.1 3 0 ≤ a
  · have z' := Int32.le_iff_toInt_le.mp z
    rw [if_pos z] at ho
    rw [nm_eq] at ho
    obtain ⟨g, g0⟩ := tk_129 b0 b1 b2 b3 t3 t1 (by rw [k2]; omega) ho
    refine ⟨fun j q80 q81 q82 q197 => (g j q82 q197).trans (k3 j q80 q81 q197), fun i hi => ?_, fun i hi => ?_, g0⟩
    · rw [g 80 (by decide) (by decide)]; exact f0 i (by omega)
    · rw [g 81 (by decide) (by decide)]; exact f1 i (by omega)
  · have z' := q_gt z
    rw [if_neg z] at ho
    have e1 := i_inc (a := a) (c := 60) (by omega) (by omega) (by decide)
    obtain ⟨A, hA⟩ : ∃ A : Nat, A = 1 + 9 * (σ.1 3 1).toInt.toNat + 8 * (σ.1 3 2).toInt.toNat + 8 * a.toInt.toNat := ⟨_, rfl⟩
    have k2' : (t.1 197 3).toInt = A := by rw [k2, hA]; omega
    have gz : gsz zC.1 0 0 1 = 1600 := by decide
    obtain ⟨u, hu, u3, ua, ub, uo⟩ := pr_eq79 (σ := t) (p := a) k0 (by omega) k2' (by omega)
    rw [q_bd hu, nm_eq] at ho
    refine hrec (a + 1, u) o ⟨by show 0 ≤ (a + 1).toInt; omega, by show (a + 1).toInt ≤ _; omega, by show (u.1 197 3).toInt = _ + _ * (a + 1).toInt; rw [u3]; omega, fun j q80 q81 q197 => (uo j q80 q81 q197).trans (k3 j q80 q81 q197), fun i hi => ?_, fun i hi => ?_⟩ ho
    · have hi : (i : Int) < (a + 1).toInt := hi
      show u.1 80 i = _
      rw [ua, t1]
      by_cases w : i = a.toInt.toNat
      · rw [if_pos w, hA, w]
      · rw [if_neg w]; exact f0 i (by omega)
    · have hi : (i : Int) < (a + 1).toInt := hi
      show u.1 81 i = _
      rw [ub, t1]
      by_cases w : i = a.toInt.toNat
      · rw [if_pos w, hA, w]
      · rw [if_neg w]; exact f1 i (by omega)
theorem tk_67 {σ ρ s o : gS} (b0 : 0 ≤ (σ.1 3 0).toInt ∧ (σ.1 3 0).toInt ≤ 6) (b1 : 0 ≤ (σ.1 3 1).toInt ∧ (σ.1 3 1).toInt ≤ 12) (b2 : 0 ≤ (σ.1 3 2).toInt ∧ (σ.1 3 2).toInt ≤ 20) (b3 : 0 ≤ (σ.1 3 3).toInt ∧ (σ.1 3 3).toInt ≤ 60) (hr : s.1 3 = σ.1 3) (ht : s.1 1 = σ.1 1) (hl : (s.1 197 3).toInt = ((1 + 9 * (σ.1 3 1).toInt.toNat : Nat) : Int)) (h : lpc (S := Int32 × gS) K9 (fun rec s => bX0_take_71_67 ρ 1 (fun a3 σ1 => rec (a3, σ1)) s.1 s.2) (0, s) = some o) : (∀ j, j ≠ 77 → j ≠ 78 → j ≠ 80 → j ≠ 81 → j ≠ 82 → j ≠ 197 → o.1 j = s.1 j) ∧ (∀ i : Nat, (i : Int) < (σ.1 3 2).toInt → o.1 77 i = VV (σ.1 1) (1 + 9 * (σ.1 3 1).toInt.toNat + 8 * i) 4) ∧ (∀ i : Nat, (i : Int) < (σ.1 3 2).toInt → o.1 78 i = VV (σ.1 1) (1 + 9 * (σ.1 3 1).toInt.toNat + 8 * i + 4) 4) ∧ (∀ i : Nat, (i : Int) < (σ.1 3 0).toInt → o.1 80 i = VV (σ.1 1) (1 + 9 * (σ.1 3 1).toInt.toNat + 8 * (σ.1 3 2).toInt.toNat + 8 * i) 4) ∧ (∀ i : Nat, (i : Int) < (σ.1 3 0).toInt → o.1 81 i = VV (σ.1 1) (1 + 9 * (σ.1 3 1).toInt.toNat + 8 * (σ.1 3 2).toInt.toNat + 8 * i + 4) 4) ∧ (∀ i : Nat, (i : Int) < (σ.1 3 3).toInt → o.1 82 i = σ.1 1 (1 + 9 * (σ.1 3 1).toInt.toNat + 8 * (σ.1 3 2).toInt.toNat + 8 * (σ.1 3 0).toInt.toNat + i)) := by
  refine lpc_part (I := fun t : Int32 × gS => 0 ≤ t.1.toInt ∧ t.1.toInt ≤ (σ.1 3 2).toInt ∧ (t.2.1 197 3).toInt = ((1 + 9 * (σ.1 3 1).toInt.toNat : Nat) : Int) + 8 * t.1.toInt ∧ (∀ j, j ≠ 77 → j ≠ 78 → j ≠ 197 → t.2.1 j = s.1 j) ∧ (∀ i : Nat, (i : Int) < t.1.toInt → t.2.1 77 i = VV (σ.1 1) (1 + 9 * (σ.1 3 1).toInt.toNat + 8 * i) 4) ∧ (∀ i : Nat, (i : Int) < t.1.toInt → t.2.1 78 i = VV (σ.1 1) (1 + 9 * (σ.1 3 1).toInt.toNat + 8 * i + 4) 4)) (P := fun o : gS => (∀ j, j ≠ 77 → j ≠ 78 → j ≠ 80 → j ≠ 81 → j ≠ 82 → j ≠ 197 → o.1 j = s.1 j) ∧ (∀ i : Nat, (i : Int) < (σ.1 3 2).toInt → o.1 77 i = VV (σ.1 1) (1 + 9 * (σ.1 3 1).toInt.toNat + 8 * i) 4) ∧ (∀ i : Nat, (i : Int) < (σ.1 3 2).toInt → o.1 78 i = VV (σ.1 1) (1 + 9 * (σ.1 3 1).toInt.toNat + 8 * i + 4) 4) ∧ (∀ i : Nat, (i : Int) < (σ.1 3 0).toInt → o.1 80 i = VV (σ.1 1) (1 + 9 * (σ.1 3 1).toInt.toNat + 8 * (σ.1 3 2).toInt.toNat + 8 * i) 4) ∧ (∀ i : Nat, (i : Int) < (σ.1 3 0).toInt → o.1 81 i = VV (σ.1 1) (1 + 9 * (σ.1 3 1).toInt.toNat + 8 * (σ.1 3 2).toInt.toNat + 8 * i + 4) 4) ∧ (∀ i : Nat, (i : Int) < (σ.1 3 3).toInt → o.1 82 i = σ.1 1 (1 + 9 * (σ.1 3 1).toInt.toNat + 8 * (σ.1 3 2).toInt.toNat + 8 * (σ.1 3 0).toInt.toNat + i))) (fun rec t hs hrec o ho => ?_) K9 _ o ⟨by show 0 ≤ (0 : Int32).toInt; decide, by show (0 : Int32).toInt ≤ _; rw [z0]; exact b2.1, by show (s.1 197 3).toInt = _ + _ * (0 : Int32).toInt; rw [z0]; omega, fun _ _ _ _ => rfl, fun i hi => absurd hi (by have := z0; show ¬ (i : Int) < (0 : Int32).toInt; omega), fun i hi => absurd hi (by have := z0; show ¬ (i : Int) < (0 : Int32).toInt; omega)⟩ h
  obtain ⟨a, t⟩ := t
  obtain ⟨k0, k1, k2, k3, f0, f1⟩ := hs
  dsimp only at ho k0 k1 k2 k3 f0 f1
  have t3 : t.1 3 = σ.1 3 := (k3 3 (by decide) (by decide) (by decide)).trans hr
  have t1 : t.1 1 = σ.1 1 := (k3 1 (by decide) (by decide) (by decide)).trans ht
  unfold bX0_take_71_67 at ho
  rw [q_gd (by decide), nm_eq] at ho
  have ec : t.1 3 ((2 : Int32).toNatClampNeg) = σ.1 3 2 := by rw [t3]; rfl
  rw [ec] at ho
  by_cases z : σ.1 3 2 ≤ a
  · have z' := Int32.le_iff_toInt_le.mp z
    rw [if_pos z] at ho
    rw [nm_eq] at ho
    obtain ⟨g, g0, g1, g2⟩ := tk_98 b0 b1 b2 b3 t3 t1 (by rw [k2]; omega) ho
    refine ⟨fun j q77 q78 q80 q81 q82 q197 => (g j q80 q81 q82 q197).trans (k3 j q77 q78 q197), fun i hi => ?_, fun i hi => ?_, g0, g1, g2⟩
    · rw [g 77 (by decide) (by decide) (by decide) (by decide)]; exact f0 i (by omega)
    · rw [g 78 (by decide) (by decide) (by decide) (by decide)]; exact f1 i (by omega)
  · have z' := q_gt z
    rw [if_neg z] at ho
    have e1 := i_inc (a := a) (c := 60) (by omega) (by omega) (by decide)
    obtain ⟨A, hA⟩ : ∃ A : Nat, A = 1 + 9 * (σ.1 3 1).toInt.toNat + 8 * a.toInt.toNat := ⟨_, rfl⟩
    have k2' : (t.1 197 3).toInt = A := by rw [k2, hA]; omega
    have gz : gsz zC.1 0 0 1 = 1600 := by decide
    obtain ⟨u, hu, u3, ua, ub, uo⟩ := pr_eq76 (σ := t) (p := a) k0 (by omega) k2' (by omega)
    rw [q_bd hu, nm_eq] at ho
    refine hrec (a + 1, u) o ⟨by show 0 ≤ (a + 1).toInt; omega, by show (a + 1).toInt ≤ _; omega, by show (u.1 197 3).toInt = _ + _ * (a + 1).toInt; rw [u3]; omega, fun j q77 q78 q197 => (uo j q77 q78 q197).trans (k3 j q77 q78 q197), fun i hi => ?_, fun i hi => ?_⟩ ho
    · have hi : (i : Int) < (a + 1).toInt := hi
      show u.1 77 i = _
      rw [ua, t1]
      by_cases w : i = a.toInt.toNat
      · rw [if_pos w, hA, w]
      · rw [if_neg w]; exact f0 i (by omega)
    · have hi : (i : Int) < (a + 1).toInt := hi
      show u.1 78 i = _
      rw [ub, t1]
      by_cases w : i = a.toInt.toNat
      · rw [if_pos w, hA, w]
      · rw [if_neg w]; exact f1 i (by omega)
theorem tk_14 {σ ρ s o : gS} (b0 : 0 ≤ (σ.1 3 0).toInt ∧ (σ.1 3 0).toInt ≤ 6) (b1 : 0 ≤ (σ.1 3 1).toInt ∧ (σ.1 3 1).toInt ≤ 12) (b2 : 0 ≤ (σ.1 3 2).toInt ∧ (σ.1 3 2).toInt ≤ 20) (b3 : 0 ≤ (σ.1 3 3).toInt ∧ (σ.1 3 3).toInt ≤ 60) (hr : s.1 3 = σ.1 3) (ht : s.1 1 = σ.1 1) (hl : (s.1 197 3).toInt = ((1 : Nat) : Int)) (h : lpc (S := Int32 × gS) K9 (fun rec s => bX0_take_71_14 ρ 1 (fun a3 σ1 => rec (a3, σ1)) s.1 s.2) (0, s) = some o) : (∀ j, j ≠ 72 → j ≠ 74 → j ≠ 75 → j ≠ 77 → j ≠ 78 → j ≠ 80 → j ≠ 81 → j ≠ 82 → j ≠ 197 → o.1 j = s.1 j) ∧ (∀ i : Nat, (i : Int) < (σ.1 3 1).toInt → o.1 72 i = σ.1 1 (1 + 9 * i)) ∧ (∀ i : Nat, (i : Int) < (σ.1 3 1).toInt → o.1 74 i = VV (σ.1 1) (1 + 9 * i + 1) 4) ∧ (∀ i : Nat, (i : Int) < (σ.1 3 1).toInt → o.1 75 i = VV (σ.1 1) (1 + 9 * i + 1 + 4) 4) ∧ (∀ i : Nat, (i : Int) < (σ.1 3 2).toInt → o.1 77 i = VV (σ.1 1) (1 + 9 * (σ.1 3 1).toInt.toNat + 8 * i) 4) ∧ (∀ i : Nat, (i : Int) < (σ.1 3 2).toInt → o.1 78 i = VV (σ.1 1) (1 + 9 * (σ.1 3 1).toInt.toNat + 8 * i + 4) 4) ∧ (∀ i : Nat, (i : Int) < (σ.1 3 0).toInt → o.1 80 i = VV (σ.1 1) (1 + 9 * (σ.1 3 1).toInt.toNat + 8 * (σ.1 3 2).toInt.toNat + 8 * i) 4) ∧ (∀ i : Nat, (i : Int) < (σ.1 3 0).toInt → o.1 81 i = VV (σ.1 1) (1 + 9 * (σ.1 3 1).toInt.toNat + 8 * (σ.1 3 2).toInt.toNat + 8 * i + 4) 4) ∧ (∀ i : Nat, (i : Int) < (σ.1 3 3).toInt → o.1 82 i = σ.1 1 (1 + 9 * (σ.1 3 1).toInt.toNat + 8 * (σ.1 3 2).toInt.toNat + 8 * (σ.1 3 0).toInt.toNat + i)) := by
  refine lpc_part (I := fun t : Int32 × gS => 0 ≤ t.1.toInt ∧ t.1.toInt ≤ (σ.1 3 1).toInt ∧ (t.2.1 197 3).toInt = ((1 : Nat) : Int) + 9 * t.1.toInt ∧ (∀ j, j ≠ 72 → j ≠ 74 → j ≠ 75 → j ≠ 197 → t.2.1 j = s.1 j) ∧ (∀ i : Nat, (i : Int) < t.1.toInt → t.2.1 72 i = σ.1 1 (1 + 9 * i)) ∧ (∀ i : Nat, (i : Int) < t.1.toInt → t.2.1 74 i = VV (σ.1 1) (1 + 9 * i + 1) 4) ∧ (∀ i : Nat, (i : Int) < t.1.toInt → t.2.1 75 i = VV (σ.1 1) (1 + 9 * i + 1 + 4) 4)) (P := fun o : gS => (∀ j, j ≠ 72 → j ≠ 74 → j ≠ 75 → j ≠ 77 → j ≠ 78 → j ≠ 80 → j ≠ 81 → j ≠ 82 → j ≠ 197 → o.1 j = s.1 j) ∧ (∀ i : Nat, (i : Int) < (σ.1 3 1).toInt → o.1 72 i = σ.1 1 (1 + 9 * i)) ∧ (∀ i : Nat, (i : Int) < (σ.1 3 1).toInt → o.1 74 i = VV (σ.1 1) (1 + 9 * i + 1) 4) ∧ (∀ i : Nat, (i : Int) < (σ.1 3 1).toInt → o.1 75 i = VV (σ.1 1) (1 + 9 * i + 1 + 4) 4) ∧ (∀ i : Nat, (i : Int) < (σ.1 3 2).toInt → o.1 77 i = VV (σ.1 1) (1 + 9 * (σ.1 3 1).toInt.toNat + 8 * i) 4) ∧ (∀ i : Nat, (i : Int) < (σ.1 3 2).toInt → o.1 78 i = VV (σ.1 1) (1 + 9 * (σ.1 3 1).toInt.toNat + 8 * i + 4) 4) ∧ (∀ i : Nat, (i : Int) < (σ.1 3 0).toInt → o.1 80 i = VV (σ.1 1) (1 + 9 * (σ.1 3 1).toInt.toNat + 8 * (σ.1 3 2).toInt.toNat + 8 * i) 4) ∧ (∀ i : Nat, (i : Int) < (σ.1 3 0).toInt → o.1 81 i = VV (σ.1 1) (1 + 9 * (σ.1 3 1).toInt.toNat + 8 * (σ.1 3 2).toInt.toNat + 8 * i + 4) 4) ∧ (∀ i : Nat, (i : Int) < (σ.1 3 3).toInt → o.1 82 i = σ.1 1 (1 + 9 * (σ.1 3 1).toInt.toNat + 8 * (σ.1 3 2).toInt.toNat + 8 * (σ.1 3 0).toInt.toNat + i))) (fun rec t hs hrec o ho => ?_) K9 _ o ⟨by show 0 ≤ (0 : Int32).toInt; decide, by show (0 : Int32).toInt ≤ _; rw [z0]; exact b1.1, by show (s.1 197 3).toInt = _ + _ * (0 : Int32).toInt; rw [z0]; omega, fun _ _ _ _ _ => rfl, fun i hi => absurd hi (by have := z0; show ¬ (i : Int) < (0 : Int32).toInt; omega), fun i hi => absurd hi (by have := z0; show ¬ (i : Int) < (0 : Int32).toInt; omega), fun i hi => absurd hi (by have := z0; show ¬ (i : Int) < (0 : Int32).toInt; omega)⟩ h
  obtain ⟨a, t⟩ := t
  obtain ⟨k0, k1, k2, k3, f0, f1, f2⟩ := hs
  dsimp only at ho k0 k1 k2 k3 f0 f1 f2
  have t3 : t.1 3 = σ.1 3 := (k3 3 (by decide) (by decide) (by decide) (by decide)).trans hr
  have t1 : t.1 1 = σ.1 1 := (k3 1 (by decide) (by decide) (by decide) (by decide)).trans ht
  unfold bX0_take_71_14 at ho
  rw [q_gd (by decide), nm_eq] at ho
  have ec : t.1 3 ((1 : Int32).toNatClampNeg) = σ.1 3 1 := by rw [t3]; rfl
  rw [ec] at ho
  by_cases z : σ.1 3 1 ≤ a
  · have z' := Int32.le_iff_toInt_le.mp z
    rw [if_pos z] at ho
    rw [nm_eq] at ho
    obtain ⟨g, g0, g1, g2, g3, g4⟩ := tk_67 b0 b1 b2 b3 t3 t1 (by rw [k2]; omega) ho
    refine ⟨fun j q72 q74 q75 q77 q78 q80 q81 q82 q197 => (g j q77 q78 q80 q81 q82 q197).trans (k3 j q72 q74 q75 q197), fun i hi => ?_, fun i hi => ?_, fun i hi => ?_, g0, g1, g2, g3, g4⟩
    · rw [g 72 (by decide) (by decide) (by decide) (by decide) (by decide) (by decide)]; exact f0 i (by omega)
    · rw [g 74 (by decide) (by decide) (by decide) (by decide) (by decide) (by decide)]; exact f1 i (by omega)
    · rw [g 75 (by decide) (by decide) (by decide) (by decide) (by decide) (by decide)]; exact f2 i (by omega)
  · have z' := q_gt z
    rw [if_neg z] at ho
    have e1 := i_inc (a := a) (c := 60) (by omega) (by omega) (by decide)
    obtain ⟨A, hA⟩ : ∃ A : Nat, A = 1 + 9 * a.toInt.toNat := ⟨_, rfl⟩
    have k2' : (t.1 197 3).toInt = A := by rw [k2, hA]; omega
    have gz : gsz zC.1 0 0 1 = 1600 := by decide
    rw [gz, q_gd (gb_of (by omega) (by omega)), nm_eq, q_gd (gb_of k0 (by omega)), nm_eq, nm_eq, n_toInt, n_toInt] at ho
    have ea : (t.1 197 3).toInt.toNat = A := by omega
    have ex : (gsI t 72 a.toInt.toNat (t.1 1 (t.1 197 3).toInt.toNat)).1 197 3 = t.1 197 3 := by rw [gsI_row (by decide)]
    rw [ex, ea, t1] at ho
    obtain ⟨v, hv⟩ : ∃ v, v = gsI (gsI t 72 a.toInt.toNat (σ.1 1 A)) 197 3 (t.1 197 3 + 1) := ⟨_, rfl⟩
    rw [← hv] at ho
    have v3 : (v.1 197 3).toInt = ((A + 1 : Nat) : Int) := by rw [hv, gs_len, i_inc (c := 1600) (by omega) (by omega) (by decide), k2']; omega
    have v1 : v.1 1 = σ.1 1 := by rw [hv, gsI_row (by decide), gsI_row (by decide)]; exact t1
    obtain ⟨u, hu, u3, ua, ub, uo⟩ := pr_eq73 (σ := v) (p := a) k0 (by omega) v3 (by omega)
    rw [q_bd hu, nm_eq] at ho
    refine hrec (a + 1, u) o ⟨by show 0 ≤ (a + 1).toInt; omega, by show (a + 1).toInt ≤ _; omega, by show (u.1 197 3).toInt = _ + _ * (a + 1).toInt; rw [u3]; omega, fun j q72 q74 q75 q197 => ?_, fun i hi => ?_, fun i hi => ?_, fun i hi => ?_⟩ ho
    · show u.1 j = s.1 j
      rw [uo j q74 q75 q197, hv, gsI_row q197, gsI_row q72]
      exact k3 j q72 q74 q75 q197
    · have hi : (i : Int) < (a + 1).toInt := hi
      show u.1 72 i = _
      rw [uo 72 (by decide) (by decide) (by decide), hv, gsI_row (by decide), gsI_at]
      by_cases w : i = a.toInt.toNat
      · rw [if_pos w, hA, w]
      · rw [if_neg w]; exact f0 i (by omega)
    · have hi : (i : Int) < (a + 1).toInt := hi
      show u.1 74 i = _
      rw [ua, v1]
      by_cases w : i = a.toInt.toNat
      · rw [if_pos w, hA, w]
      · rw [if_neg w, hv, gsI_row (by decide), gsI_row (by decide)]; exact f1 i (by omega)
    · have hi : (i : Int) < (a + 1).toInt := hi
      show u.1 75 i = _
      rw [ub, v1]
      by_cases w : i = a.toInt.toNat
      · rw [if_pos w, hA, w]
      · rw [if_neg w, hv, gsI_row (by decide), gsI_row (by decide)]; exact f2 i (by omega)
end P12F
