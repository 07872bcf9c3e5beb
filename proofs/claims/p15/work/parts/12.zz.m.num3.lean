/-! WHOLE, 6: the unknowns numbered: the reference; its rows cleared -/
section P12ZZM
/-- numbered: the reference -/
def NM9 (s t : gS) (c : Nat → Bool) : Prop := JM t ∧ (∀ k, k ≠ 0 → k ≠ 30 → t.1 k = s.1 k) ∧ (∀ i, i ≠ 43 → t.1 0 i = s.1 0 i) ∧ (t.1 0 43).toInt = nU9 c 38 ∧ ∀ k : Nat, k < 38 → c k = true → (t.1 30 (nU9 c k)).toInt = k
theorem num9 {c : Nat → Bool} {s t : gS} (h : NM9 s t c) {K : Int32} (k0 : 0 ≤ K.toInt) (k1 : K.toInt ≤ 37) : (c K.toInt.toNat = true → fX10_numberOf t K = some (Int32.ofNat (nU9 c K.toInt.toNat))) ∧ (¬ c K.toInt.toNat = true → fX10_numberOf t K = some (-1)) := by
  obtain ⟨hJ, -, -, hn, h30⟩ := h
  have le := nU9_le c 38
  have sp := fI_spec (fun i => decide (t.1 30 i = K)) (t.1 0 43).toInt.toNat 0 (by omega)
  have hit : ∀ j : Nat, j < nU9 c 38 → (t.1 30 j = K ↔ c K.toInt.toNat = true ∧ nU9 c K.toInt.toNat = j) := fun j hj => by
    obtain ⟨k, hk, ck, nk⟩ := nU9_sur hj
    have e := h30 k hk ck
    rw [nk] at e
    constructor
    · intro y
      rw [y] at e
      have : K.toInt.toNat = k := by omega
      rw [this]
      exact ⟨ck, nk⟩
    · rintro ⟨y1, y2⟩
      have := nU9_inj ck y1 (nk.trans y2.symm)
      exact Int32.toInt_inj.mp (by omega)
  rw [m_numberOf hJ K]
  constructor
  · intro hc
    have lt := nU9_lt hc (show K.toInt.toNat < 38 by omega)
    rcases sp with ⟨-, q⟩ | ⟨j, -, j1, j2, j3, -⟩
    · have := q (nU9 c K.toInt.toNat) (by omega) (by omega)
      rw [decide_eq_true ((hit _ lt).mpr ⟨hc, rfl⟩)] at this
      exact absurd this (by decide)
    · have y := ((hit j (by omega)).mp (of_decide_eq_true j2)).2
      have e : (Int32.ofNat (nU9 c K.toInt.toNat)).toInt = nU9 c K.toInt.toNat := iofNat_toInt (by omega)
      exact congrArg some (Int32.toInt_inj.mp (by omega))
  · intro hc
    rcases sp with ⟨q, -⟩ | ⟨j, -, j1, j2, j3, -⟩
    · rw [q]
    · exact absurd ((hit j (by omega)).mp (of_decide_eq_true j2)).1 hc
set_option maxHeartbeats 2000000 in
theorem m_number9 {s : gS} (hJ : JM s) (w : WF s) : ∃ t : gS, NM9 s t (ub9 s) ∧ fX10_equations s = lpc (S := Int32 × gS) K9 (fun rec u => bX10_equations_134 t (fun a1 σ1 => rec (a1, σ1)) u.1 u.2) (0, t) := by
  have z0' := z0
  have l38 : (38 : Int32).toInt = 38 := by decide
  have l12 : (12 : Int32).toInt = 12 := by decide
  have l32 : (32 : Int32).toInt = 32 := by decide
  obtain ⟨b9, b8, b7, b6⟩ := w.1
  obtain ⟨c, hc⟩ : ∃ c, c = ub9 s := ⟨_, rfl⟩
  have cu : ∀ a : Int32, 0 ≤ a.toInt → (c a.toInt.toNat = true ↔ TH s a ∧ IU s a ≠ 0) := fun a a0 => by
    rw [hc, ub9_t]
    unfold UT9
    rw [i32_of a0]
  rw [← hc]
  unfold fX10_equations
  rw [nm_eq, nm_eq]
  refine lpc_ex (F := fun t => lpc (S := Int32 × gS) K9 (fun rec u => bX10_equations_134 t (fun a1 σ1 => rec (a1, σ1)) u.1 u.2) (0, t)) (I := fun (n : Nat) (u : Int32 × gS) => n = (38 - u.1.toInt).toNat ∧ 0 ≤ u.1.toInt ∧ u.1.toInt ≤ 38 ∧ JM u.2 ∧ (∀ k, k ≠ 0 → k ≠ 30 → u.2.1 k = s.1 k) ∧ (∀ i, i ≠ 43 → u.2.1 0 i = s.1 0 i) ∧ (u.2.1 0 43).toInt = nU9 c u.1.toInt.toNat ∧ ∀ k : Nat, (k : Int) < u.1.toInt → c k = true → (u.2.1 30 (nU9 c k)).toInt = k) (fun rec n u hs => ?_) K9 38 (0, gsI s 0 43 0) ⟨by dsimp only; omega, by dsimp only; omega, by dsimp only; omega, JM_w hJ (show 0 ≤ (0 : Int32).toInt by decide) (show (0 : Int32).toInt ≤ 38 by decide), fun k k1 _ => gsI_row k1, fun i hi => by dsimp only; rw [gsI_at, if_neg hi], by dsimp only; rw [gsI_at, if_pos rfl, n_0]; rfl, fun k hk => absurd hk (by dsimp only; omega)⟩ (by unfold K9; omega)
  obtain ⟨a, τ⟩ := u
  obtain ⟨hn, a0, a1, jI, g1, g2, g3, g4⟩ := hs
  dsimp only at hn a0 a1 jI g1 g2 g3 g4 ⊢
  have e15 := g1 15 (by decide) (by decide)
  have ic : ∀ q, fX10_isControl τ q = fX10_isControl s q := fun q => isC_eq (g1 20 (by decide) (by decide)) (g2 36 (by decide))
  have iu : ∀ k, IU τ k = IU s k := IU_eq e15 (g1 16 (by decide) (by decide)) (g1 18 (by decide) (by decide)) (g1 22 (by decide) (by decide)) (g1 23 (by decide) (by decide)) (g1 26 (by decide) (by decide))
  unfold bX10_equations_7
  by_cases y : 38 ≤ a
  · have y' := Int32.le_iff_toInt_le.mp y
    rw [if_pos y, nm_eq]
    exact .inl ⟨τ, ⟨jI, g1, g2, by rw [g3, show a.toInt.toNat = 38 by omega], fun k hk => g4 k (by omega)⟩, rfl⟩
  · have y' := q_gt y
    have ei := i_inc (a := a) (c := 60) (by omega) (by omega) (by decide)
    have en : (a + 1).toInt.toNat = a.toInt.toNat + 1 := by omega
    have le := nU9_le c a.toInt.toNat
    have skip : ¬ c a.toInt.toNat = true → ∃ s' : Int32 × gS, rec (a + 1, τ) = rec s' ∧ ∃ m : Nat, m < n ∧ m = (38 - s'.1.toInt).toNat ∧ 0 ≤ s'.1.toInt ∧ s'.1.toInt ≤ 38 ∧ JM s'.2 ∧ (∀ k, k ≠ 0 → k ≠ 30 → s'.2.1 k = s.1 k) ∧ (∀ i, i ≠ 43 → s'.2.1 0 i = s.1 0 i) ∧ (s'.2.1 0 43).toInt = nU9 c s'.1.toInt.toNat ∧ ∀ k : Nat, (k : Int) < s'.1.toInt → c k = true → (s'.2.1 30 (nU9 c k)).toInt = k := fun hc => by
      refine ⟨(a + 1, τ), rfl, (38 - (a + 1).toInt).toNat, by omega, rfl, by dsimp only; omega, by dsimp only; omega, jI, g1, g2, by dsimp only; rw [en, nU9_f hc]; exact g3, fun k hk ck => ?_⟩
      dsimp only at hk
      by_cases z : k = a.toInt.toNat
      · rw [z] at ck
        exact absurd ck hc
      · exact g4 k (by omega) ck
    have J0 : ¬ TH s a → ∃ s' : Int32 × gS, jX10_equations_90 τ (fun a1 σ1 => rec (a1, σ1)) a 0 = rec s' ∧ ∃ m : Nat, m < n ∧ m = (38 - s'.1.toInt).toNat ∧ 0 ≤ s'.1.toInt ∧ s'.1.toInt ≤ 38 ∧ JM s'.2 ∧ (∀ k, k ≠ 0 → k ≠ 30 → s'.2.1 k = s.1 k) ∧ (∀ i, i ≠ 43 → s'.2.1 0 i = s.1 0 i) ∧ (s'.2.1 0 43).toInt = nU9 c s'.1.toInt.toNat ∧ ∀ k : Nat, (k : Int) < s'.1.toInt → c k = true → (s'.2.1 30 (nU9 c k)).toInt = k := fun hno => by
      unfold jX10_equations_90
      rw [nm_eq, if_pos rfl, nm_eq]
      exact skip (fun z => hno ((cu a a0).mp z).1)
    have J1 : TH s a → ∃ s' : Int32 × gS, jX10_equations_90 τ (fun a1 σ1 => rec (a1, σ1)) a 1 = rec s' ∧ ∃ m : Nat, m < n ∧ m = (38 - s'.1.toInt).toNat ∧ 0 ≤ s'.1.toInt ∧ s'.1.toInt ≤ 38 ∧ JM s'.2 ∧ (∀ k, k ≠ 0 → k ≠ 30 → s'.2.1 k = s.1 k) ∧ (∀ i, i ≠ 43 → s'.2.1 0 i = s.1 0 i) ∧ (s'.2.1 0 43).toInt = nU9 c s'.1.toInt.toNat ∧ ∀ k : Nat, (k : Int) < s'.1.toInt → c k = true → (s'.2.1 30 (nU9 c k)).toInt = k := fun hth => by
      have us := m_isUsed jI (k := a) a0 (by omega)
      rw [iu] at us
      unfold jX10_equations_90
      rw [nm_eq, if_neg one_ne, q_bd us]
      by_cases z : IU s a = 0
      · rw [if_pos z, nm_eq]
        exact skip (fun v => ((cu a a0).mp v).2 z)
      · have cc : c a.toInt.toNat = true := (cu a a0).mpr ⟨hth, z⟩
        have eu : (τ.1 0 43 + 1).toInt = (τ.1 0 43).toInt + 1 := i_inc (c := 60) (by omega) (by omega) (by decide)
        obtain ⟨N, hN⟩ : ∃ N, N = nU9 c a.toInt.toNat := ⟨_, rfl⟩
        have nN : (τ.1 0 43).toNatClampNeg = N := by rw [n_toInt]; omega
        have e43 : (gsI τ 30 N a).1 0 43 = τ.1 0 43 := by rw [gsI_row (show 0 ≠ 30 by decide)]
        rw [if_neg z, q_gd (gb_of (by omega) (by omega)), nm_eq, nm_eq, nm_eq, nN, e43]
        refine ⟨_, rfl, (38 - (a + 1).toInt).toNat, by omega, rfl, by dsimp only; omega, by dsimp only; omega, ?_, fun k k1 k2 => ?_, fun i hi => ?_, ?_, fun k hk ck => ?_⟩
        · exact JM_w (JM_w jI (Int32.le_toInt _) (Int32.toInt_le _)) (show 0 ≤ (τ.1 0 43 + 1).toInt by omega) (show (τ.1 0 43 + 1).toInt ≤ 38 by omega)
        · dsimp only
          rw [gsI_row k1, gsI_row k2]
          exact g1 k k1 k2
        · dsimp only
          rw [gsI_at, if_neg hi, gsI_row (show 0 ≠ 30 by decide)]
          exact g2 i hi
        · dsimp only
          rw [gsI_at, if_pos rfl, en, nU9_t cc, eu, g3]
          rfl
        · dsimp only at hk ⊢
          rw [gsI_row (show 30 ≠ 0 by decide), gsI_at]
          by_cases v : k = a.toInt.toNat
          · rw [v, if_pos hN.symm]
            omega
          · have lt := nU9_lt ck (show k < a.toInt.toNat by omega)
            rw [if_neg (by omega)]
            exact g4 k (by omega) ck
    rw [if_neg y]
    by_cases c12 : 12 ≤ a
    · have g12 := Int32.le_iff_toInt_le.mp c12
      rw [if_pos c12]
      by_cases c32 : 32 ≤ a
      · have g32 := Int32.le_iff_toInt_le.mp c32
        have e32 : (a - 32).toInt = a.toInt - 32 := by rw [isub_toInt] <;> omega
        have e6 : τ.1 15 ((6 : Int32).toNatClampNeg) = s.1 15 6 := by rw [e15]; rfl
        rw [if_pos c32, q_gd (by decide), nm_eq, e6]
        by_cases z : s.1 15 6 ≤ a - 32
        · have z' := Int32.le_iff_toInt_le.mp z
          rw [if_pos z]
          exact .inr (J0 (fun t => by have := t.2.2 (by omega); omega))
        · have z' := q_gt z
          rw [if_neg z]
          exact .inr (J1 ⟨fun v => absurd v (by omega), fun _ v => absurd v (by omega), fun _ => by omega⟩)
      · have g32 := q_gt c32
        have e12 : (a - 12).toInt = a.toInt - 12 := by rw [isub_toInt] <;> omega
        rw [if_neg c32, q_bd (m_points τ), e15]
        by_cases z : s.1 15 8 ≤ a - 12
        · have z' := Int32.le_iff_toInt_le.mp z
          rw [if_pos z]
          exact .inr (J0 (fun t => by have := (t.2.1 (by omega) (by omega)).1; omega))
        · have z' := q_gt z
          rw [if_neg z, ic]
          rcases m_isControl s (q := a - 12) (by omega) (by omega) with k | k
          · rw [q_bd k, if_pos rfl]
            exact .inr (J1 ⟨fun v => absurd v (by omega), fun _ _ => ⟨by omega, k⟩, fun v => absurd v (by omega)⟩)
          · rw [q_bd k, if_neg one_ne]
            exact .inr (J0 (fun t => by
              have := (t.2.1 (by omega) (by omega)).2
              rw [k] at this
              exact absurd (Option.some.inj this) one_ne))
    · have g12 := q_gt c12
      rw [if_neg c12, q_bd (m_pictures τ), e15]
      by_cases z : s.1 15 7 ≤ a
      · have z' := Int32.le_iff_toInt_le.mp z
        rw [if_pos z]
        exact .inr (J0 (fun t => by have := t.1 (by omega); omega))
      · have z' := q_gt z
        rw [if_neg z]
        exact .inr (J1 ⟨fun _ => by omega, fun v => absurd v (by omega), fun v => absurd v (by omega)⟩)
theorem m_clear9 {t0 t : gS} : ∃ u : gS, (u.1 = t.1 ∧ ∀ i j : Nat, i < 38 → j < 40 → mC9 u i j = 0) ∧ lpc (S := Int32 × gS) K9 (fun rec u => bX10_equations_134 t0 (fun a1 σ1 => rec (a1, σ1)) u.1 u.2) (0, t) = lpc (S := Int32 × gS) K9 (fun rec v => bX10_equations_156 u (fun a1 σ1 => rec (a1, σ1)) v.1 v.2) (0, u) := by
  have z0' := z0
  have l : (1520 : Int32).toInt = 1520 := by decide
  refine lpc_ex (F := fun u => lpc (S := Int32 × gS) K9 (fun rec v => bX10_equations_156 u (fun a1 σ1 => rec (a1, σ1)) v.1 v.2) (0, u)) (I := fun (n : Nat) (u : Int32 × gS) => n = (1520 - u.1.toInt).toNat ∧ 0 ≤ u.1.toInt ∧ u.1.toInt ≤ 1520 ∧ u.2.1 = t.1 ∧ ∀ x : Nat, (x : Int) < u.1.toInt → u.2.2 31 x = 0) (fun rec n u hs => ?_) K9 1520 (0, t) ⟨by dsimp only; omega, by dsimp only; omega, by dsimp only; omega, rfl, fun x hx => absurd hx (by dsimp only; omega)⟩ (by unfold K9; omega)
  obtain ⟨a, τ⟩ := u
  obtain ⟨hn, a0, a1, g1, g2⟩ := hs
  dsimp only at hn a0 a1 g1 g2 ⊢
  unfold bX10_equations_134
  by_cases y : 1520 ≤ a
  · have y' := Int32.le_iff_toInt_le.mp y
    rw [if_pos y, nm_eq]
    exact .inl ⟨τ, ⟨g1, fun i j hi hj => g2 _ (by omega)⟩, rfl⟩
  · have y' := q_gt y
    have ei := i_inc (a := a) (c := 2000) (by omega) (by omega) (by decide)
    rw [if_neg y, q_gd (gb_of a0 (by omega)), nm_eq, nm_eq, n_toInt]
    refine .inr ⟨_, rfl, (1520 - (a + 1).toInt).toNat, by omega, rfl, by dsimp only; omega, by dsimp only; omega, g1, fun x hx => ?_⟩
    dsimp only at hx ⊢
    rw [gsL_2]
    by_cases z : x = a.toInt.toNat
    · rw [if_pos ⟨rfl, z⟩]
    · rw [if_neg (fun v => z v.2)]
      exact g2 x (by omega)
end P12ZZM
