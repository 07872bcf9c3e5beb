/-! THE TWO READERS, 4: names, on both sides -/
section PD
theorem RG_iff {lo hi x : Int32} : RG lo hi x ↔ lo.toInt ≤ x.toInt ∧ x.toInt ≤ hi.toInt := by
  constructor
  · intro h
    have h1 : ¬ x.toInt < lo.toInt := fun z => h.1 (Int32.lt_iff_toInt_lt.mpr z)
    have h2 : ¬ hi.toInt < x.toInt := fun z => h.2 (Int32.lt_iff_toInt_lt.mpr z)
    omega
  · intro h
    exact ⟨fun z => by have := Int32.lt_iff_toInt_lt.mp z; omega, fun z => by have := Int32.lt_iff_toInt_lt.mp z; omega⟩
theorem RG_let {x : Int32} (h : RG 97 122 x) : 97 ≤ x.toInt ∧ x.toInt ≤ 122 := RG_iff.mp h
/-- the number of a name, of its first k letters -/
noncomputable def naF (T : Nat → Int32) (a : Nat) : Nat → Int
  | 0 => 0
  | k + 1 => 27 * naF T a k + (T (a + k)).toInt - 96
/-- as the class counts: six places -/
noncomputable def cF (T : Nat → Int32) (a L : Nat) : Nat → Int
  | 0 => 0
  | k + 1 => if k < L then 27 * cF T a L k + (T (a + k)).toInt - 96 else 27 * cF T a L k
theorem cF_le (T : Nat → Int32) (a L : Nat) : ∀ k, k ≤ L → cF T a L k = naF T a k
  | 0, _ => rfl
  | k + 1, h => by
    show (if k < L then 27 * cF T a L k + (T (a + k)).toInt - 96 else 27 * cF T a L k) = 27 * naF T a k + (T (a + k)).toInt - 96
    rw [if_pos (by omega), cF_le T a L k (by omega)]
theorem cF_gt (T : Nat → Int32) (a L : Nat) : ∀ j, cF T a L (L + j) = naF T a L * 27 ^ j
  | 0 => by rw [Int.pow_zero, Int.mul_one]; exact cF_le T a L L (Nat.le_refl _)
  | j + 1 => by
    show (if L + j < L then 27 * cF T a L (L + j) + (T (a + (L + j))).toInt - 96 else 27 * cF T a L (L + j)) = _
    rw [if_neg (by omega), cF_gt T a L j, Int.pow_succ]
    rw [Int.mul_comm 27, Int.mul_assoc]
theorem naF_b (T : Nat → Int32) (a : Nat) : ∀ k, (∀ i, i < k → 97 ≤ (T (a + i)).toInt ∧ (T (a + i)).toInt ≤ 122) → 0 ≤ naF T a k ∧ naF T a k < 27 ^ k
  | 0, _ => ⟨Int.le_refl _, by show (0 : Int) < 27 ^ 0; decide⟩
  | k + 1, h => by
    have h1 := naF_b T a k (fun i hi => h i (by omega))
    have h2 := h k (by omega)
    have h3 : (27 : Int) ^ (k + 1) = 27 ^ k * 27 := Int.pow_succ _ _
    show 0 ≤ 27 * naF T a k + (T (a + k)).toInt - 96 ∧ 27 * naF T a k + (T (a + k)).toInt - 96 < 27 ^ (k + 1)
    omega
theorem naF_c (T : Nat → Int32) (a k : Nat) (h : ∀ i, i < k + 1 → 97 ≤ (T (a + i)).toInt ∧ (T (a + i)).toInt ≤ 122) : 27 ^ k ≤ naF T a (k + 1) ∧ naF T a (k + 1) % 27 ≠ 0 := by
  induction k with
  | zero =>
    have h2 := h 0 (by omega)
    show (27 : Int) ^ 0 ≤ 27 * naF T a 0 + (T (a + 0)).toInt - 96 ∧ (27 * naF T a 0 + (T (a + 0)).toInt - 96) % 27 ≠ 0
    have h3 : naF T a 0 = 0 := rfl
    rw [h3, Int.pow_zero]
    omega
  | succ k ih =>
    have h1 := ih (fun i hi => h i (by omega))
    have h2 := h (k + 1) (by omega)
    have h3 : (27 : Int) ^ (k + 1) = 27 ^ k * 27 := Int.pow_succ _ _
    show (27 : Int) ^ (k + 1) ≤ 27 * naF T a (k + 1) + (T (a + (k + 1))).toInt - 96 ∧ (27 * naF T a (k + 1) + (T (a + (k + 1))).toInt - 96) % 27 ≠ 0
    generalize naF T a (k + 1) = z at h1 ⊢
    omega
theorem cF_b (T : Nat → Int32) (a L : Nat) (h : ∀ i, i < L → 97 ≤ (T (a + i)).toInt ∧ (T (a + i)).toInt ≤ 122) : ∀ k, 0 ≤ cF T a L k ∧ cF T a L k < 27 ^ k
  | 0 => ⟨Int.le_refl _, by show (0 : Int) < 27 ^ 0; decide⟩
  | k + 1 => by
    have h1 := cF_b T a L h k
    have h3 : (27 : Int) ^ (k + 1) = 27 ^ k * 27 := Int.pow_succ _ _
    show 0 ≤ (if k < L then 27 * cF T a L k + (T (a + k)).toInt - 96 else 27 * cF T a L k) ∧ (if k < L then 27 * cF T a L k + (T (a + k)).toInt - 96 else 27 * cF T a L k) < 27 ^ (k + 1)
    by_cases e : k < L
    · have h2 := h k e
      rw [if_pos e]
      omega
    · rw [if_neg e]
      omega
noncomputable def OWN (T : Nat → Int32) (a e : Int) : Prop := ∃ j, j < 12 ∧ WD T a e (bytC j) (lenC.getD j 0)
/-- what comes of a NAME that is asked, or to be given -/
noncomputable def XO (T : Nat → Int32) (n le a0 : Int) (f : Int32) (p e : Int) (L : Nat) (v : Int) : Prop := ∃ a x, Wh BL T n a0 a ∧ Wh (RG 97 122) T n a x ∧ (((a = x ∨ a = le ∨ OWN T a x) ∧ f = 1 ∧ p = a) ∨ (a ≠ x ∧ a ≠ le ∧ ¬ OWN T a x ∧ 6 < x - a ∧ f = 1 ∧ p = a + 6) ∨ (a ≠ x ∧ a ≠ le ∧ ¬ OWN T a x ∧ x - a ≤ 6 ∧ f = 0 ∧ p = a ∧ e = x ∧ L = (x - a).toNat ∧ v = naF T a.toNat (x - a).toNat))
theorem XO_uniq {T : Nat → Int32} {n le a0 b0 b : Int} {f g : Int32} {p q e d : Int} {L M : Nat} {v w : Int} (hb : Wh BL T n a0 b) (hc : Wh BL T n b0 b) (h : XO T n le a0 f p e L v) (k : XO T n le b0 g q d M w) : f = g ∧ p = q ∧ (f = 0 → e = d ∧ L = M ∧ v = w) := by
  obtain ⟨a, x, w1, w2, h⟩ := h
  obtain ⟨a', x', w1', w2', k⟩ := k
  obtain rfl : a = a' := (Wh_uniq w1 hb).trans (Wh_uniq hc w1')
  obtain rfl := Wh_uniq w2 w2'
  rcases h with ⟨h1, rfl, rfl⟩ | ⟨h1, h2, h3, h4, rfl, rfl⟩ | ⟨h1, h2, h3, h4, rfl, rfl, rfl, rfl, rfl⟩ <;> rcases k with ⟨k1, rfl, rfl⟩ | ⟨k1, k2, k3, k4, rfl, rfl⟩ | ⟨k1, k2, k3, k4, rfl, rfl, rfl, rfl, rfl⟩ <;> first | exact ⟨rfl, rfl, fun z => absurd z (by decide)⟩ | exact ⟨rfl, rfl, fun _ => ⟨rfl, rfl, rfl⟩⟩ | (exfalso; omega) | exact absurd h1 (fun z => z.elim k1 (fun y => y.elim k2 k3)) | exact absurd k1 (fun z => z.elim h1 (fun y => y.elim h2 h3))
/-- a name as the class and as the reference count it -/
noncomputable def NR (c : Int32) (m : Int64) : Prop := ∃ n : Nat, 1 ≤ n ∧ n ≤ 6 ∧ 27 ^ (n - 1) ≤ m.toInt ∧ m.toInt < 27 ^ n ∧ m.toInt % 27 ≠ 0 ∧ c.toInt = m.toInt * 27 ^ (6 - n)
theorem NR_inj {c d : Int32} {m k : Int64} (h : NR c m) (g : NR d k) : c = d ↔ m = k := by
  obtain ⟨n, a1, a2, a3, a4, a5, a6⟩ := h
  obtain ⟨n', b1, b2, b3, b4, b5, b6⟩ := g
  have hn : n = 1 ∨ n = 2 ∨ n = 3 ∨ n = 4 ∨ n = 5 ∨ n = 6 := by omega
  have hn' : n' = 1 ∨ n' = 2 ∨ n' = 3 ∨ n' = 4 ∨ n' = 5 ∨ n' = 6 := by omega
  have key : c.toInt = d.toInt ↔ m.toInt = k.toInt := by
    rcases hn with rfl | rfl | rfl | rfl | rfl | rfl <;> rcases hn' with rfl | rfl | rfl | rfl | rfl | rfl <;> simp at a3 a4 b3 b4 a6 b6 <;> omega
  exact ⟨fun z => Int64.toInt_inj.mp (key.mp (by rw [z])), fun z => Int32.toInt_inj.mp (key.mpr (by rw [z]))⟩
theorem XO_letters {T : Nat → Int32} {n a x : Int} (h : Wh (RG 97 122) T n a x) (h0 : 0 ≤ a) : ∀ i : Nat, i < (x - a).toNat → 97 ≤ (T (a.toNat + i)).toInt ∧ (T (a.toNat + i)).toInt ≤ 122 := fun i hi => by
  have := h.2.1 (a + i) (by omega) (by omega)
  have e : (a + i).toNat = a.toNat + i := by omega
  rw [e] at this
  exact RG_let this
theorem NR_of {T : Nat → Int32} {a L : Nat} (hL : 1 ≤ L) (hL6 : L ≤ 6) (hl : ∀ i : Nat, i < L → 97 ≤ (T (a + i)).toInt ∧ (T (a + i)).toInt ≤ 122) {c : Int32} {m : Int64} (hc : c.toInt = cF T a L 6) (hm : m.toInt = naF T a L) : NR c m := by
  obtain ⟨k, rfl⟩ : ∃ k, L = k + 1 := ⟨L - 1, by omega⟩
  have h1 := naF_b T a (k + 1) hl
  have h2 := naF_c T a k hl
  have h3 := cF_gt T a (k + 1) (6 - (k + 1))
  have e : k + 1 + (6 - (k + 1)) = 6 := by omega
  rw [e] at h3
  exact ⟨k + 1, hL, hL6, by rw [hm]; exact h2.1, by rw [hm]; exact h1.2, by rw [hm]; exact h2.2, by rw [hc, hm]; exact h3⟩
theorem fI_congr {c d : Nat → Bool} : ∀ n k, (∀ j, k ≤ j → j < k + n → c j = d j) → fI c n k = fI d n k
  | 0, _, _ => rfl
  | n + 1, k, h => by
    unfold fI
    rw [h k (Nat.le_refl _) (by omega), fI_congr n (k + 1) (fun j h1 h2 => h j (by omega) (by omega))]
/-- the class's seeker of names -/
noncomputable def FN (σ : gS) (K : Nat) (c : Int32) : Int32 := fI (fun i => decide (σ.1 (27 + K) i = c)) (σ.1 25 K).toInt.toNat 0
theorem jc_many {σ : gS} (h : JC σ) {K : Nat} (hK : K ≤ 2) : 0 ≤ (σ.1 25 K).toInt ∧ (σ.1 25 K).toInt ≤ 20 := by
  have b0 := h 25 0
  have b1 := h 25 1
  have b2 := h 25 2
  have hj : K = 0 ∨ K = 1 ∨ K = 2 := by omega
  rcases hj with rfl | rfl | rfl
  · exact ⟨b0.1, Int.le_trans b0.2 (by decide)⟩
  · exact ⟨b1.1, Int.le_trans b1.2 (by decide)⟩
  · exact ⟨b2.1, b2.2⟩
theorem r_find {σ : gS} (hI : JC σ) {k : Int32} {K : Nat} (hk : k.toInt = K) (hK : K ≤ 2) (c : Int32) : fX8_find_24 σ k c = some (FN σ K c) := by
  have hn := jc_many hI hK
  have ek : k.toNatClampNeg = K := by rw [n_toInt]; omega
  unfold fX8_find_24 FN
  refine (q_nm rfl).trans ?_
  refine fI_lpc (n := σ.1 25 K) (c := fun i => decide (σ.1 (27 + K) i = c)) (fun rec a h2 h3 => ?_) (fun rec a h2 h3 => ?_) _ K9 0 (by have := z0; omega) (by decide) (by unfold K9; omega)
  · unfold bX8_find_24_2
    refine (q_gd (gb_of (by omega) (by omega))).trans ((q_nm rfl).trans ?_)
    rw [ek]
    exact if_pos (q_le h3)
  · unfold bX8_find_24_2
    refine (q_gd (gb_of (by omega) (by omega))).trans ((q_nm rfl).trans ?_)
    rw [ek]
    refine (if_neg (q_nle h3)).trans ((q_gd (gb_of (by omega) (by omega))).trans ((q_gd (gb_of (by omega) (by omega))).trans ((q_nm rfl).trans ?_)))
    rw [n_toInt]
    by_cases c1 : σ.1 (27 + K) a.toInt.toNat = c
    · exact (if_pos c1).trans (if_pos (decide_eq_true c1)).symm
    · exact (if_neg c1).trans (if_neg (fun z => c1 (of_decide_eq_true z))).symm
theorem r_isNamed {σ : gS} (hI : JC σ) (c : Int32) : (fX8_isNamed_24 σ c = some 1 ∧ ¬ (FN σ 0 c = -1 ∧ FN σ 1 c = -1 ∧ FN σ 2 c = -1)) ∨ (fX8_isNamed_24 σ c = some 0 ∧ FN σ 0 c = -1 ∧ FN σ 1 c = -1 ∧ FN σ 2 c = -1) := by
  unfold fX8_isNamed_24
  rw [q_bd (r_find hI (K := 0) (by decide) (by decide) c)]
  by_cases h0 : FN σ 0 c = -1
  · rw [if_pos h0, q_bd (r_find hI (K := 1) (by decide) (by decide) c)]
    by_cases h1 : FN σ 1 c = -1
    · rw [if_pos h1, q_bd (r_find hI (K := 2) (by decide) (by decide) c)]
      by_cases h2 : FN σ 2 c = -1
      · exact .inr ⟨if_pos h2, h0, h1, h2⟩
      · exact .inl ⟨if_neg h2, fun z => h2 z.2.2⟩
    · exact .inl ⟨if_neg h1, fun z => h1 z.2.1⟩
  · exact .inl ⟨if_neg h0, fun z => h0 z.1⟩
theorem r_isOwnWord {σ : gS} (hI : JC σ) : (fX3_isOwnWord σ = some 1 ∧ OWN (σ.1 1) (σ.1 46 6).toInt (σ.1 46 7).toInt) ∨ (fX3_isOwnWord σ = some 0 ∧ ¬ OWN (σ.1 1) (σ.1 46 6).toInt (σ.1 46 7).toInt) := by
  unfold fX3_isOwnWord
  rcases r_word0 hI with ⟨h0, w0⟩ | ⟨h0, w0⟩
  · rw [q_bd h0, if_neg (by decide)]
    exact .inl ⟨rfl, 0, by decide, w0⟩
  rw [q_bd h0, if_pos rfl]
  rcases r_word1 hI with ⟨h1, w1⟩ | ⟨h1, w1⟩
  · rw [q_bd h1, if_neg (by decide)]
    exact .inl ⟨rfl, 1, by decide, w1⟩
  rw [q_bd h1, if_pos rfl]
  rcases r_word6 hI with ⟨h6, w6⟩ | ⟨h6, w6⟩
  · rw [q_bd h6, if_neg (by decide)]
    exact .inl ⟨rfl, 6, by decide, w6⟩
  rw [q_bd h6, if_pos rfl]
  rcases r_word7 hI with ⟨h7, w7⟩ | ⟨h7, w7⟩
  · rw [q_bd h7, if_neg (by decide)]
    exact .inl ⟨rfl, 7, by decide, w7⟩
  rw [q_bd h7, if_pos rfl]
  rcases r_word8 hI with ⟨h8, w8⟩ | ⟨h8, w8⟩
  · rw [q_bd h8, if_neg (by decide)]
    exact .inl ⟨rfl, 8, by decide, w8⟩
  rw [q_bd h8, if_pos rfl]
  rcases r_word2 hI with ⟨h2, w2⟩ | ⟨h2, w2⟩
  · rw [q_bd h2, if_neg (by decide)]
    exact .inl ⟨rfl, 2, by decide, w2⟩
  rw [q_bd h2, if_pos rfl]
  rcases r_word3 hI with ⟨h3, w3⟩ | ⟨h3, w3⟩
  · rw [q_bd h3, if_neg (by decide)]
    exact .inl ⟨rfl, 3, by decide, w3⟩
  rw [q_bd h3, if_pos rfl]
  rcases r_word9 hI with ⟨h9, w9⟩ | ⟨h9, w9⟩
  · rw [q_bd h9, if_neg (by decide)]
    exact .inl ⟨rfl, 9, by decide, w9⟩
  rw [q_bd h9, if_pos rfl]
  rcases r_word10 hI with ⟨h10, w10⟩ | ⟨h10, w10⟩
  · rw [q_bd h10, if_neg (by decide)]
    exact .inl ⟨rfl, 10, by decide, w10⟩
  rw [q_bd h10, if_pos rfl]
  rcases r_word4 hI with ⟨h4, w4⟩ | ⟨h4, w4⟩
  · rw [q_bd h4, if_neg (by decide)]
    exact .inl ⟨rfl, 4, by decide, w4⟩
  rw [q_bd h4, if_pos rfl]
  rcases r_word11 hI with ⟨h11, w11⟩ | ⟨h11, w11⟩
  · rw [q_bd h11, if_neg (by decide)]
    exact .inl ⟨rfl, 11, by decide, w11⟩
  rw [q_bd h11, if_pos rfl]
  rcases r_word5 hI with ⟨h5, w5⟩ | ⟨h5, w5⟩
  · rw [q_bd h5, if_neg (by decide)]
    exact .inl ⟨rfl, 5, by decide, w5⟩
  rw [q_bd h5, if_pos rfl]
  refine .inr ⟨rfl, fun ⟨j, hj, w⟩ => ?_⟩
  have hj' : j = 0 ∨ j = 1 ∨ j = 2 ∨ j = 3 ∨ j = 4 ∨ j = 5 ∨ j = 6 ∨ j = 7 ∨ j = 8 ∨ j = 9 ∨ j = 10 ∨ j = 11 := by omega
  rcases hj' with rfl | rfl | rfl | rfl | rfl | rfl | rfl | rfl | rfl | rfl | rfl | rfl
  · exact w0 w
  · exact w1 w
  · exact w2 w
  · exact w3 w
  · exact w4 w
  · exact w5 w
  · exact w6 w
  · exact w7 w
  · exact w8 w
  · exact w9 w
  · exact w10 w
  · exact w11 w
/-- what the class's readName does; fin: what is found, and whether that is right -/
noncomputable def RNM (k : Int32) (σ : gS) (out : Int32 × gS) : Prop := JC out.2 ∧ Fr fr_fX3_readName σ out.2 ∧ ∃ f p e L v, XO (σ.1 1) (σ.1 46 4).toInt (σ.1 46 8).toInt (σ.1 46 5).toInt f p e L v ∧ ((f ≠ 0 ∧ out.1 = 0 ∧ out.2.1 46 2 = f ∧ (out.2.1 46 3).toInt = p) ∨ (f = 0 ∧ ∃ c : Int32, c.toInt = cF (σ.1 1) p.toNat L 6 ∧ (out.2.1 46 5).toInt = e ∧ out.2.1 46 8 = out.2.1 46 5 ∧ (out.2.1 46 6).toInt = p ∧ out.2.1 46 9 = c ∧ (k = -1 → (FN σ 0 c = -1 ∧ FN σ 1 c = -1 ∧ FN σ 2 c = -1 ∧ out.1 = 1 ∧ out.2.1 46 2 = σ.1 46 2 ∧ out.2.1 46 3 = σ.1 46 3) ∨ (¬ (FN σ 0 c = -1 ∧ FN σ 1 c = -1 ∧ FN σ 2 c = -1) ∧ out.1 = 0 ∧ out.2.1 46 2 = 3 ∧ (out.2.1 46 3).toInt = p)) ∧ ∀ K : Nat, K ≤ 2 → k.toInt = K → out.2.1 46 10 = FN σ K c ∧ ((FN σ K c ≠ -1 ∧ out.1 = 1 ∧ out.2.1 46 2 = σ.1 46 2 ∧ out.2.1 46 3 = σ.1 46 3) ∨ (FN σ K c = -1 ∧ out.1 = 0 ∧ out.2.1 46 2 = 3 ∧ (out.2.1 46 3).toInt = p))))
theorem FN_fr {L : List (Nat × Nat)} {σ τ : gS} (h : Fr L σ τ) (hL : ∀ q ∈ L, q.1 = 46) {K : Nat} (hK : K ≤ 2) (c : Int32) : FN τ K c = FN σ K c := by
  unfold FN
  rw [Fr_row h 25 (fun q hq => by rw [hL q hq]; decide), Fr_row h (27 + K) (fun q hq => by rw [hL q hq]; omega)]
theorem r_readName {σ : gS} (hI : JC σ) {k : Int32} (hk : k = -1 ∨ ∃ K : Nat, K ≤ 2 ∧ k.toInt = K) : Ok (fX3_readName σ k) (RNM k σ) := by
  unfold fX3_readName
  refine ok_bd.mpr ((r_mark hI 97 122).mono (fun ρ hρ => ?_))
  obtain ⟨kI, kF, kB, k6, kW⟩ := hρ
  have kb := jc_tape kI
  have u1 : ρ.1 1 = σ.1 1 := Fr_row kF 1 (by decide)
  have u2 : ρ.1 46 2 = σ.1 46 2 := (kF 46 2 (by decide) (by decide)).1
  have u3 : ρ.1 46 3 = σ.1 46 3 := (kF 46 3 (by decide) (by decide)).1
  have u8 : ρ.1 46 8 = σ.1 46 8 := (kF 46 8 (by decide) (by decide)).1
  have kF' : Fr fr_fX3_readName σ ρ := Fr_c Fr_r kF (by decide)
  have bad : ∀ (q : Int32) (p : Int), q.toInt = p → XO (σ.1 1) (σ.1 46 4).toInt (σ.1 46 8).toInt (σ.1 46 5).toInt 1 p 0 0 0 → Ok (bd2 (fX3_fail ρ 1 q) fun r s => some (vp_nar .boolean r, s)) (RNM k σ) := by
    intro q p hq hX
    rw [r_failC]
    exact ok_some.mpr ⟨JC_f kI, Fr_w (Fr_w kF' (by decide)) (by decide), 1, p, 0, 0, 0, hX, .inl ⟨by decide, nb0, rfl, hq⟩⟩
  rcases r_noRun ρ with ⟨h, hr⟩ | ⟨h, hr1, hr2⟩
  · rw [q_bd h]
    refine ok_ite.mpr ⟨fun z => absurd z (by decide), fun _ => bad _ _ rfl ⟨_, _, kB, kW, .inl ⟨?_, rfl, by rw [k6]⟩⟩⟩
    rcases hr with hr | hr
    · exact .inl (by rw [← hr, k6])
    · exact .inr (.inl (by rw [← u8, ← hr, k6]))
  · rw [q_bd h]
    have n1 : (ρ.1 46 5).toInt ≠ (ρ.1 46 7).toInt := fun z => hr1 (Int32.toInt_inj.mp (by rw [k6]; exact z))
    have n2 : (ρ.1 46 5).toInt ≠ (σ.1 46 8).toInt := fun z => hr2 (Int32.toInt_inj.mp (by rw [k6, u8]; exact z))
    refine ok_ite.mpr ⟨fun _ => ?_, fun z => absurd rfl z⟩
    have hw := r_isOwnWord kI
    rw [k6, u1] at hw
    rcases hw with ⟨h5, hw⟩ | ⟨h5, hw⟩
    · rw [q_bd h5]
      exact ok_ite.mpr ⟨fun z => absurd z (by decide), fun _ => bad _ _ rfl ⟨_, _, kB, kW, .inl ⟨.inr (.inr hw), rfl, by rw [k6]⟩⟩⟩
    rw [q_bd h5]
    have ed : (ρ.1 46 7 - ρ.1 46 6).toInt = (ρ.1 46 7).toInt - (ρ.1 46 5).toInt := by rw [k6, isub_toInt] <;> omega
    have l6 : (6 : Int32).toInt = 6 := by decide
    refine ok_ite.mpr ⟨fun _ => ok_ite.mpr ⟨fun g => ok_nm.mpr (ok_nm.mpr ?_), fun g => ?_⟩, fun z => absurd rfl z⟩
    · have g' := Int32.le_iff_toInt_le.mp g
      rw [ed, l6] at g'
      have a0 := kW.1
      have hl := XO_letters kW (by omega)
      obtain ⟨L, hL⟩ : ∃ L, L = ((ρ.1 46 7).toInt - (ρ.1 46 5).toInt).toNat := ⟨_, rfl⟩
      have cb := cF_b (σ.1 1) (ρ.1 46 5).toInt.toNat L (by rw [hL]; exact hl)
      rw [← hL] at hl
      obtain ⟨ω, hω⟩ : ∃ ω, ω = gsI ρ 46 9 0 := ⟨_, rfl⟩
      rw [← hω]
      have oI : JC ω := by rw [hω]; exact JC_w kI (Int32.le_toInt _) (Int32.toInt_le _)
      have oF : Fr fr_fX3_readName σ ω := by rw [hω]; exact Fr_w kF' (by decide)
      have o : ∀ i, i ≠ 9 → ω.1 46 i = ρ.1 46 i := fun i hi => by rw [hω, gsI_1, if_neg (fun z => hi z.2)]
      have o9 : ω.1 46 9 = 0 := by rw [hω]; rfl
      clear hω
      refine ok_lpc (I := fun (n : Nat) (s : Int32 × gS) => n = (6 - s.1.toInt).toNat ∧ 0 ≤ s.1.toInt ∧ s.1.toInt ≤ 6 ∧ JC s.2 ∧ Fr [(46, 10)] ω s.2 ∧ (s.2.1 46 9).toInt = cF (σ.1 1) (ρ.1 46 5).toInt.toNat L s.1.toInt.toNat) (fun rec n s hs hrec => ?_) K9 6 (0, ω) ⟨show 6 = (6 - (0 : Int32).toInt).toNat by decide, show 0 ≤ (0 : Int32).toInt by decide, show (0 : Int32).toInt ≤ 6 by decide, oI, Fr_r, ?_⟩ (by unfold K9; omega)
      · obtain ⟨a2, s⟩ := s
        obtain ⟨hn, j0, j1, jI, jF, jv⟩ := hs
        dsimp only at hn j0 j1 jI jF jv ⊢
        have t1 : s.1 1 = σ.1 1 := (Fr_row jF 1 (by decide)).trans (Fr_row oF 1 (by decide))
        have t : ∀ i, i ≠ 9 → s.1 46 i = ρ.1 46 i := fun i hi => ((jF 46 i (by decide) (by simp; exact hi)).1).trans (o i hi)
        have tF : Fr fr_fX3_readName σ s := Fr_c oF jF (by decide)
        have sb := jc_tape jI
        unfold bX3_readName_66
        rw [t 7 (by decide), t 6 (by decide), k6]
        refine ok_ite.mpr ⟨fun y => ?_, fun y => ?_⟩
        · have y' := Int32.le_iff_toInt_le.mp y
          have ea : a2.toInt.toNat = 6 := by omega
          rw [ea] at jv
          unfold fX3_passRun
          obtain ⟨κ, hκ⟩ : ∃ κ, κ = gsI (gsI s 46 5 (s.1 46 7)) 46 8 ((gsI s 46 5 (s.1 46 7)).1 46 7) := ⟨_, rfl⟩
          refine ok_bd.mpr (ok_nm.mpr (ok_nm.mpr (ok_some.mpr ?_)))
          rw [← hκ]
          have c5 : κ.1 46 5 = ρ.1 46 7 := by rw [hκ]; exact t 7 (by decide)
          have c8 : κ.1 46 8 = ρ.1 46 7 := by rw [hκ]; exact t 7 (by decide)
          have c6 : κ.1 46 6 = ρ.1 46 5 := by rw [hκ]; exact (t 6 (by decide)).trans k6
          have c9 : (κ.1 46 9).toInt = cF (σ.1 1) (ρ.1 46 5).toInt.toNat L 6 := by rw [hκ]; exact jv
          have c2 : κ.1 46 2 = σ.1 46 2 := by rw [hκ]; exact (t 2 (by decide)).trans u2
          have c3 : κ.1 46 3 = σ.1 46 3 := by rw [hκ]; exact (t 3 (by decide)).trans u3
          have cI : JC κ := by rw [hκ]; exact JC_w (JC_w jI (show 0 ≤ _ from sb.2.2.2.1) (show _ ≤ 1600 from sb.2.2.2.2)) (Int32.le_toInt _) (Int32.toInt_le _)
          have cF' : Fr fr_fX3_readName σ κ := by rw [hκ]; exact Fr_w (Fr_w tF (by decide)) (by decide)
          clear hκ
          have hX : XO (σ.1 1) (σ.1 46 4).toInt (σ.1 46 8).toInt (σ.1 46 5).toInt 0 (ρ.1 46 5).toInt (ρ.1 46 7).toInt L (naF (σ.1 1) (ρ.1 46 5).toInt.toNat L) := ⟨_, _, kB, kW, .inr (.inr ⟨n1, n2, hw, g', rfl, rfl, rfl, hL, by rw [hL]⟩)⟩
          have e149 : ∀ (z : Int32), (z = -1 ∨ (0 ≤ z.toInt ∧ z.toInt ≤ 19)) → ∀ (κ' : gS), κ' = gsI κ 46 10 z → JC κ' ∧ Fr fr_fX3_readName σ κ' := by
            intro z hz κ' he
            have hb : -1 ≤ z.toInt ∧ z.toInt ≤ 19 := by
              have l1 : (-1 : Int32).toInt = -1 := by decide
              rcases hz with rfl | hz <;> omega
            rw [he]
            exact ⟨JC_w cI (show -1 ≤ _ from hb.1) (show _ ≤ 19 from hb.2), Fr_w cF' (by decide)⟩
          rcases hk with rfl | ⟨K, hK, hk⟩
          · rw [if_pos rfl]
            unfold jX3_readName_149
            obtain ⟨μ, hμ⟩ : ∃ μ, μ = gsI κ 46 10 (-1) := ⟨_, rfl⟩
            refine ok_nm.mpr ?_
            rw [← hμ]
            obtain ⟨mI, mF⟩ := e149 _ (.inl rfl) μ hμ
            have m : ∀ i, i ≠ 10 → μ.1 46 i = κ.1 46 i := fun i hi => by rw [hμ, gsI_1, if_neg (fun z => hi z.2)]
            refine ok_ite.mpr ⟨fun _ => ?_, fun z => absurd rfl z⟩
            have ff : ∀ K, K ≤ 2 → FN μ K (μ.1 46 9) = FN σ K (κ.1 46 9) := fun K hK => by rw [FN_fr mF (by decide) hK, m 9 (by decide)]
            rcases r_isNamed mI (μ.1 46 9) with ⟨v1, v2⟩ | ⟨v1, v2⟩
            · rw [q_bd v1]
              rw [ff 0 (by decide), ff 1 (by decide), ff 2 (by decide)] at v2
              refine ok_ite.mpr ⟨fun z => absurd z (by decide), fun _ => ?_⟩
              unfold jX3_readName_192
              refine ok_nm.mpr (ok_ite.mpr ⟨fun _ => ?_, fun z => absurd rfl z⟩)
              rw [r_failC]
              refine ok_some.mpr ⟨JC_f mI, Fr_w (Fr_w mF (by decide)) (by decide), 0, _, _, _, _, hX, .inr ⟨rfl, κ.1 46 9, c9, ?_, ?_, ?_, ?_, fun _ => .inr ⟨v2, nb0, rfl, ?_⟩, fun K hK z => ?_⟩⟩
              · show (μ.1 46 5).toInt = _
                rw [m 5 (by decide), c5]
              · show μ.1 46 8 = μ.1 46 5
                rw [m 5 (by decide), m 8 (by decide), c5, c8]
              · show (μ.1 46 6).toInt = _
                rw [m 6 (by decide), c6]
              · exact m 9 (by decide)
              · show (μ.1 46 6).toInt = _
                rw [m 6 (by decide), c6]
              · have l1 : (-1 : Int32).toInt = -1 := by decide
                omega
            · rw [q_bd v1]
              rw [ff 0 (by decide), ff 1 (by decide), ff 2 (by decide)] at v2
              refine ok_ite.mpr ⟨fun _ => ?_, fun z => absurd rfl z⟩
              unfold jX3_readName_192
              refine ok_nm.mpr (ok_ite.mpr ⟨fun z => absurd z (by decide), fun _ => ok_some.mpr ⟨mI, mF, 0, _, _, _, _, hX, .inr ⟨rfl, κ.1 46 9, c9, ?_, ?_, ?_, ?_, fun _ => .inl ⟨v2.1, v2.2.1, v2.2.2, rfl, ?_, ?_⟩, fun K hK z => ?_⟩⟩⟩)
              · rw [m 5 (by decide), c5]
              · rw [m 5 (by decide), m 8 (by decide), c5, c8]
              · rw [m 6 (by decide), c6]
              · exact m 9 (by decide)
              · exact (m 2 (by decide)).trans c2
              · exact (m 3 (by decide)).trans c3
              · have l1 : (-1 : Int32).toInt = -1 := by decide
                omega
          · have kne : k ≠ -1 := fun z => by
              rw [z] at hk
              have l1 : (-1 : Int32).toInt = -1 := by decide
              omega
            have fe : FN κ K (κ.1 46 9) = FN σ K (κ.1 46 9) := FN_fr cF' (by decide) hK _
            rw [if_neg kne, q_bd (r_find cI hk hK _), fe]
            have fb := fI_lo (fun i => decide (σ.1 (27 + K) i = κ.1 46 9)) (σ.1 25 K).toInt.toNat (by have := jc_many hI hK; omega)
            have fb2 := jc_many hI hK
            unfold jX3_readName_149
            obtain ⟨z, hz⟩ : ∃ z, z = FN σ K (κ.1 46 9) := ⟨_, rfl⟩
            have hz19 : z = -1 ∨ (0 ≤ z.toInt ∧ z.toInt ≤ 19) := by
              rw [hz]
              by_cases y2 : FN σ K (κ.1 46 9) = -1
              · exact .inl y2
              · have : (FN σ K (κ.1 46 9)).toInt ≠ -1 := fun w => y2 (q_of (-1) (w.trans (by decide)))
                unfold FN at this ⊢
                exact .inr (by omega)
            rw [← hz]
            obtain ⟨μ, hμ⟩ : ∃ μ, μ = gsI κ 46 10 z := ⟨_, rfl⟩
            refine ok_nm.mpr ?_
            rw [← hμ]
            obtain ⟨mI, mF⟩ := e149 _ hz19 μ hμ
            have m : ∀ i, i ≠ 10 → μ.1 46 i = κ.1 46 i := fun i hi => by rw [hμ, gsI_1, if_neg (fun z => hi z.2)]
            have m10 : μ.1 46 10 = z := by rw [hμ]; rfl
            have uK : ∀ K' : Nat, K' ≤ 2 → k.toInt = K' → K' = K := fun K' _ z => by omega
            rw [if_neg kne, m10]
            refine ok_ite.mpr ⟨fun y2 => ?_, fun y2 => ?_⟩
            · unfold jX3_readName_192
              refine ok_nm.mpr (ok_ite.mpr ⟨fun _ => ?_, fun z => absurd rfl z⟩)
              rw [r_failC]
              refine ok_some.mpr ⟨JC_f mI, Fr_w (Fr_w mF (by decide)) (by decide), 0, _, _, _, _, hX, .inr ⟨rfl, κ.1 46 9, c9, ?_, ?_, ?_, ?_, fun z => absurd z kne, fun K' hK' w => ?_⟩⟩
              · show (μ.1 46 5).toInt = _
                rw [m 5 (by decide), c5]
              · show μ.1 46 8 = μ.1 46 5
                rw [m 5 (by decide), m 8 (by decide), c5, c8]
              · show (μ.1 46 6).toInt = _
                rw [m 6 (by decide), c6]
              · exact m 9 (by decide)
              · obtain rfl := uK K' hK' w
                refine ⟨m10.trans hz, .inr ⟨hz.symm.trans y2, nb0, rfl, ?_⟩⟩
                show (μ.1 46 6).toInt = _
                rw [m 6 (by decide), c6]
            · unfold jX3_readName_192
              refine ok_nm.mpr (ok_ite.mpr ⟨fun z => absurd z (by decide), fun _ => ok_some.mpr ⟨mI, mF, 0, _, _, _, _, hX, .inr ⟨rfl, κ.1 46 9, c9, ?_, ?_, ?_, ?_, fun z => absurd z kne, fun K' hK' w => ?_⟩⟩⟩)
              · rw [m 5 (by decide), c5]
              · rw [m 5 (by decide), m 8 (by decide), c5, c8]
              · rw [m 6 (by decide), c6]
              · exact m 9 (by decide)
              · obtain rfl := uK K' hK' w
                exact ⟨m10.trans hz, .inl ⟨fun q => y2 (hz.trans q), rfl, (m 2 (by decide)).trans c2, (m 3 (by decide)).trans c3⟩⟩
        · have hlt := q_gt y
          rw [l6] at hlt
          have e1 := i_inc (a := a2) (c := 6) (by omega) j1 (by decide)
          have en : (a2 + 1).toInt.toNat = a2.toInt.toNat + 1 := by omega
          have es : (ρ.1 46 5 + a2).toInt = (ρ.1 46 5).toInt + a2.toInt := by rw [iadd_toInt] <;> omega
          have cbk := cb a2.toInt.toNat
          have cb5 : cF (σ.1 1) (ρ.1 46 5).toInt.toNat L a2.toInt.toNat < 14348907 := by
            have hp : (27 : Int) ^ a2.toInt.toNat ≤ 14348907 := by
              have hj : a2.toInt.toNat = 0 ∨ a2.toInt.toNat = 1 ∨ a2.toInt.toNat = 2 ∨ a2.toInt.toNat = 3 ∨ a2.toInt.toNat = 4 ∨ a2.toInt.toNat = 5 := by omega
              rcases hj with hj | hj | hj | hj | hj | hj <;> rw [hj] <;> decide
            omega
          have m27 : (27 * s.1 46 9).toInt = 27 * (s.1 46 9).toInt := imulc (by decide) (by omega) (by omega)
          have step : ∀ x : Int32, x.toInt = cF (σ.1 1) (ρ.1 46 5).toInt.toNat L (a2.toInt.toNat + 1) → Ok (nm (gsI s 46 9 x) fun σ33 => nm (a2 + 1 : Int32) fun x34 => rec (x34, σ33)) (RNM k σ) := by
            intro x hx
            refine ok_nm.mpr (ok_nm.mpr (hrec (6 - (a2 + 1).toInt).toNat (a2 + 1, _) (by omega) ⟨rfl, show 0 ≤ (a2 + 1).toInt by omega, show (a2 + 1).toInt ≤ 6 by omega, JC_w jI (Int32.le_toInt _) (Int32.toInt_le _), Fr_w jF (by decide), ?_⟩))
            show x.toInt = cF (σ.1 1) (ρ.1 46 5).toInt.toNat L (a2 + 1).toInt.toNat
            rw [en]
            exact hx
          refine ok_ite.mpr ⟨fun w => step _ ?_, fun w => ?_⟩
          · have w' := Int32.le_iff_toInt_le.mp w
            show (27 * s.1 46 9 + 0).toInt = if a2.toInt.toNat < L then _ else 27 * cF (σ.1 1) (ρ.1 46 5).toInt.toNat L a2.toInt.toNat
            rw [if_neg (by omega), iadd_toInt, m27, jv]
            · have := z0; omega
            · have := z0; omega
            · have := z0; omega
          · have w' := q_gt w
            have hlet := hl a2.toInt.toNat (by omega)
            have em : (ρ.1 46 5 + a2).toInt.toNat = (ρ.1 46 5).toInt.toNat + a2.toInt.toNat := by omega
            have b7 := kb.2.2.2
            refine ok_gd.mpr ⟨gb_of (by omega) (by omega), ok_nm.mpr ?_⟩
            rw [t1, n_toInt, em]
            generalize hT : σ.1 1 ((ρ.1 46 5).toInt.toNat + a2.toInt.toNat) = t9 at hlet
            refine step _ ?_
            show (27 * s.1 46 9 + ((t9 - 97) + 1)).toInt = if a2.toInt.toNat < L then 27 * cF (σ.1 1) (ρ.1 46 5).toInt.toNat L a2.toInt.toNat + (σ.1 1 ((ρ.1 46 5).toInt.toNat + a2.toInt.toNat)).toInt - 96 else 27 * cF (σ.1 1) (ρ.1 46 5).toInt.toNat L a2.toInt.toNat
            rw [if_pos (by omega), hT]
            have l97 : (97 : Int32).toInt = 97 := by decide
            have l1 : (1 : Int32).toInt = 1 := by decide
            have d1 : (t9 - 97).toInt = t9.toInt - 97 := by rw [isub_toInt] <;> omega
            have d2 : (t9 - 97 + 1).toInt = t9.toInt - 96 := by rw [iadd_toInt] <;> omega
            rw [iadd_toInt (by omega) (by omega), m27, jv, d2]
            omega
      · show (ω.1 46 9).toInt = cF (σ.1 1) (ρ.1 46 5).toInt.toNat L (0 : Int32).toInt.toNat
        rw [o9]
        rfl
    · have g' := q_gt g
      rw [ed, l6] at g'
      have e6 : (ρ.1 46 6 + 6).toInt = (ρ.1 46 5).toInt + 6 := by rw [k6, iadd_toInt] <;> omega
      exact bad _ _ e6 ⟨_, _, kB, kW, .inr (.inl ⟨n1, n2, hw, g', rfl, rfl⟩)⟩
end PD
