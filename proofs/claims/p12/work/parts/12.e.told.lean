/-! ANSWERS ALIKE: on, the reference's side: what an image must tell -/
section P12E
noncomputable def W4 (T : Nat → Int32) (k : Nat) : Int32 := (((T k <<< 24) + (T (k + 1) <<< 16)) + (T (k + 2) <<< 8)) + T (k + 3)
noncomputable def NEAR (x : Int32) : Prop := -100000000 ≤ x.toInt ∧ x.toInt ≤ 100000000
theorem m_four {σ : gS} {k : Int32} {A : Nat} (hk : k.toInt = A) (hA : A ≤ 1596) : fX10_fourAt σ k = some (W4 (σ.1 1) A) := by
  have l1 : (1 : Int32).toInt = 1 := by decide
  have l2 : (2 : Int32).toInt = 2 := by decide
  have l3 : (3 : Int32).toInt = 3 := by decide
  have e1 : (k + 1).toInt = k.toInt + 1 := by rw [iadd_toInt] <;> omega
  have e2 : (k + 2).toInt = k.toInt + 2 := by rw [iadd_toInt] <;> omega
  have e3 : (k + 3).toInt = k.toInt + 3 := by rw [iadd_toInt] <;> omega
  have n0 : k.toNatClampNeg = A := by rw [n_toInt]; omega
  have n1 : (k + 1).toNatClampNeg = A + 1 := by rw [n_toInt]; omega
  have n2 : (k + 2).toNatClampNeg = A + 2 := by rw [n_toInt]; omega
  have n3 : (k + 3).toNatClampNeg = A + 3 := by rw [n_toInt]; omega
  have s1 : (24 &&& 31 : Int32) = 24 := by decide
  have s2 : (16 &&& 31 : Int32) = 16 := by decide
  have s3 : (8 &&& 31 : Int32) = 8 := by decide
  unfold fX10_fourAt W4
  rw [q_gd (gb_of (by omega) (by omega)), nm_eq, q_gd (gb_of (by omega) (by omega)), nm_eq, q_gd (gb_of (by omega) (by omega)), nm_eq, q_gd (gb_of (by omega) (by omega)), nm_eq, n0, n1, n2, n3, s1, s2, s3]
theorem m_near (σ : gS) (x : Int32) : (fX10_isIn σ x.toInt64 (-100000000) 100000000 = some 1 ∧ NEAR x) ∨ (fX10_isIn σ x.toInt64 (-100000000) 100000000 = some 0 ∧ ¬ NEAR x) := by
  have e1 : x.toInt64.toInt = x.toInt := Int32.toInt_toInt64 _
  have l1 : (-100000000 : Int64).toInt = -100000000 := by decide
  have l2 : (100000000 : Int64).toInt = 100000000 := by decide
  unfold NEAR
  rcases m_isIn σ x.toInt64 (-100000000) 100000000 with ⟨h, h1, h2⟩ | ⟨h, h1⟩
  · exact .inl ⟨h, by omega⟩
  · exact .inr ⟨h, by omega⟩
theorem m_can0 {σ : gS} {k : Int32} {A : Nat} (hk : k.toInt = A) (hA : A ≤ 1592) (x y : Int32) : (fX10_canBe σ k 0 x y = some 1 ∧ NEAR (W4 (σ.1 1) A) ∧ NEAR (W4 (σ.1 1) (A + 4))) ∨ (fX10_canBe σ k 0 x y = some 0 ∧ ¬ (NEAR (W4 (σ.1 1) A) ∧ NEAR (W4 (σ.1 1) (A + 4)))) := by
  have l4 : (4 : Int32).toInt = 4 := by decide
  have e4 : (k + 4).toInt = ((A + 4 : Nat) : Int) := by rw [iadd_toInt] <;> omega
  unfold fX10_canBe
  rw [q_bd (m_four hk (by omega)), nm_eq, q_bd (m_four e4 (by omega)), nm_eq, if_pos rfl]
  rcases m_near σ (W4 (σ.1 1) A) with ⟨h, h1⟩ | ⟨h, h1⟩
  · rw [q_bd h, if_neg one_ne]
    rcases m_near σ (W4 (σ.1 1) (A + 4)) with ⟨g, g1⟩ | ⟨g, g1⟩
    · rw [q_bd g, if_neg one_ne]
      exact .inl ⟨rfl, h1, g1⟩
    · rw [q_bd g, if_pos rfl]
      exact .inr ⟨rfl, fun z => g1 z.2⟩
  · rw [q_bd h, if_pos rfl]
    exact .inr ⟨rfl, fun z => h1 z.1⟩
theorem m_can1 {σ : gS} {k : Int32} {A : Nat} (hk : k.toInt = A) (hA : A ≤ 1592) (x y : Int32) : (fX10_canBe σ k 1 x y = some 1 ∧ W4 (σ.1 1) A = x ∧ W4 (σ.1 1) (A + 4) = y) ∨ (fX10_canBe σ k 1 x y = some 0 ∧ ¬ (W4 (σ.1 1) A = x ∧ W4 (σ.1 1) (A + 4) = y)) := by
  have l4 : (4 : Int32).toInt = 4 := by decide
  have e4 : (k + 4).toInt = ((A + 4 : Nat) : Int) := by rw [iadd_toInt] <;> omega
  unfold fX10_canBe
  rw [q_bd (m_four hk (by omega)), nm_eq, q_bd (m_four e4 (by omega)), nm_eq, if_neg one_ne]
  by_cases h : W4 (σ.1 1) A = x
  · rw [if_pos h]
    by_cases g : W4 (σ.1 1) (A + 4) = y
    · rw [if_pos g]
      exact .inl ⟨rfl, h, g⟩
    · rw [if_neg g]
      exact .inr ⟨rfl, fun z => g z.2⟩
  · rw [if_neg h]
    exact .inr ⟨rfl, fun z => h z.1⟩
/-- a loop that asks something of all -/
theorem all1 {n : Int32} {c : Nat → Prop} {N : Option Int32} {B : (Int32 → Option Int32) → Int32 → Option Int32} (hn : n.toInt ≤ 60) (hE : ∀ rec a, 0 ≤ a.toInt → a.toInt = n.toInt → B rec a = N) (hS : ∀ rec a, 0 ≤ a.toInt → a.toInt < n.toInt → (c a.toInt.toNat ∧ B rec a = rec (a + 1)) ∨ (¬ c a.toInt.toNat ∧ B rec a = some 0)) : ∀ (d K : Nat) (a : Int32), d = (n.toInt - a.toInt).toNat → d < K → 0 ≤ a.toInt → a.toInt ≤ n.toInt → (lpc K B a = N ∧ ∀ i : Nat, a.toInt ≤ (i : Int) → (i : Int) < n.toInt → c i) ∨ (lpc K B a = some 0 ∧ ∃ i : Nat, (i : Int) < n.toInt ∧ ¬ c i) := by
  intro d
  induction d with
  | zero =>
    intro K a hd hK h0 h1
    rw [lpc_pos hK]
    exact .inl ⟨hE _ a h0 (by omega), fun i g1 g2 => by omega⟩
  | succ d ih =>
    intro K a hd hK h0 h1
    rw [lpc_pos (by omega)]
    have e := i_inc (a := a) (c := 60) (by omega) (by omega) (by decide)
    rcases hS (lpc (K - 1) B) a h0 (by omega) with ⟨c1, c2⟩ | ⟨c1, c2⟩
    · rw [c2]
      rcases ih (K - 1) (a + 1) (by omega) (by omega) (by omega) (by omega) with ⟨g1, g2⟩ | ⟨g1, g2⟩
      · refine .inl ⟨g1, fun i k1 k2 => ?_⟩
        by_cases z : (i : Int) = a.toInt
        · have : i = a.toInt.toNat := by omega
          rw [this]; exact c1
        · exact g2 i (by omega) k2
      · exact .inr ⟨g1, g2⟩
    · exact .inr ⟨c2, a.toInt.toNat, by omega, c1⟩
theorem all2 {n : Int32} {c : Nat → Prop} {N : Int32 → Option Int32} {f : Int → Int} {B : (Int32 × Int32 → Option Int32) → Int32 × Int32 → Option Int32} (hn : n.toInt ≤ 60) (hE : ∀ rec x a, 0 ≤ a.toInt → a.toInt = n.toInt → x.toInt = f a.toInt → B rec (x, a) = N x) (hS : ∀ rec x a, 0 ≤ a.toInt → a.toInt < n.toInt → x.toInt = f a.toInt → (c a.toInt.toNat ∧ ∃ y, y.toInt = f (a.toInt + 1) ∧ B rec (x, a) = rec (y, a + 1)) ∨ (¬ c a.toInt.toNat ∧ B rec (x, a) = some 0)) : ∀ (d K : Nat) (x a : Int32), d = (n.toInt - a.toInt).toNat → d < K → 0 ≤ a.toInt → a.toInt ≤ n.toInt → x.toInt = f a.toInt → (∃ y, y.toInt = f n.toInt ∧ lpc K B (x, a) = N y ∧ ∀ i : Nat, a.toInt ≤ (i : Int) → (i : Int) < n.toInt → c i) ∨ (lpc K B (x, a) = some 0 ∧ ∃ i : Nat, (i : Int) < n.toInt ∧ ¬ c i) := by
  intro d
  induction d with
  | zero =>
    intro K x a hd hK h0 h1 hx
    rw [lpc_pos hK]
    have ea : a.toInt = n.toInt := by omega
    exact .inl ⟨x, by rw [hx, ea], hE _ x a h0 ea hx, fun i g1 g2 => by omega⟩
  | succ d ih =>
    intro K x a hd hK h0 h1 hx
    rw [lpc_pos (by omega)]
    have e := i_inc (a := a) (c := 60) (by omega) (by omega) (by decide)
    rcases hS (lpc (K - 1) B) x a h0 (by omega) hx with ⟨c1, y, hy, c2⟩ | ⟨c1, c2⟩
    · rw [c2]
      rcases ih (K - 1) y (a + 1) (by omega) (by omega) (by omega) (by omega) (by rw [hy, e]) with ⟨z, g0, g1, g2⟩ | ⟨g1, g2⟩
      · refine .inl ⟨z, g0, g1, fun i k1 k2 => ?_⟩
        by_cases w : (i : Int) = a.toInt
        · have : i = a.toInt.toNat := by omega
          rw [this]; exact c1
        · exact g2 i (by omega) k2
      · exact .inr ⟨g1, g2⟩
    · exact .inr ⟨c2, a.toInt.toNat, by omega, c1⟩
noncomputable def PicOK (T : Nat → Int32) (σ : gS) (p : Nat) : Prop := (T (1 + 9 * p)).toInt ≤ 3 ∧ (σ.1 17 (12 + p) = 4 ∨ T (1 + 9 * p) = σ.1 17 (12 + p)) ∧ NEAR (W4 T (2 + 9 * p)) ∧ NEAR (W4 T (2 + 9 * p + 4))
noncomputable def MUST (T : Nat → Int32) (σ : gS) (q : Nat) : Prop := ¬ σ.1 20 (20 + q) = 0 ∧ ((T 0 >>> ((σ.1 20 (20 + q) - 1) &&& 31)) &&& 1) = 1
noncomputable def PtOK (T : Nat → Int32) (σ : gS) (b q : Nat) : Prop := (MUST T σ q → W4 T (b + 8 * q) = 100 * σ.1 21 (40 + 2 * q) ∧ W4 T (b + 8 * q + 4) = 100 * σ.1 21 (40 + (2 * q + 1))) ∧ (¬ MUST T σ q → NEAR (W4 T (b + 8 * q)) ∧ NEAR (W4 T (b + 8 * q + 4)))
noncomputable def HD (σ : gS) (s : Nat) : Int32 := eI (fun p => decide (σ.1 16 (12 + p) = Int32.ofNat s ∧ ¬ σ.1 18 (12 + p) ≤ 0)) (σ.1 15 7).toInt.toNat 0
noncomputable def DrOK (T : Nat → Int32) (σ : gS) (b s : Nat) : Prop := (HD σ s = 0 → W4 T (b + 8 * s) = 0 ∧ W4 T (b + 8 * s + 4) = 0) ∧ (¬ HD σ s = 0 → NEAR (W4 T (b + 8 * s)) ∧ NEAR (W4 T (b + 8 * s + 4)))
noncomputable def RwOK (T : Nat → Int32) (b r : Nat) : Prop := (T (b + r)).toInt ≤ 1
noncomputable def due (σ : gS) : Int := 2 + 9 * (σ.1 15 7).toInt + 8 * (σ.1 15 8).toInt + 8 * (σ.1 15 6).toInt + (σ.1 15 9).toInt
noncomputable def TOLD (T : Nat → Int32) (σ : gS) (n ck : Int32) : Prop := n.toInt = due σ ∧ T (n.toInt.toNat - 1) = ck ∧ (T 0).toInt ≤ 3 ∧ (∀ p : Nat, (p : Int) < (σ.1 15 7).toInt → PicOK T σ p) ∧ (∀ q : Nat, (q : Int) < (σ.1 15 8).toInt → PtOK T σ (1 + 9 * (σ.1 15 7).toInt.toNat) q) ∧ (∀ s : Nat, (s : Int) < (σ.1 15 6).toInt → DrOK T σ (1 + 9 * (σ.1 15 7).toInt.toNat + 8 * (σ.1 15 8).toInt.toNat) s) ∧ ∀ r : Nat, (r : Int) < (σ.1 15 9).toInt → RwOK T (1 + 9 * (σ.1 15 7).toInt.toNat + 8 * (σ.1 15 8).toInt.toNat + 8 * (σ.1 15 6).toInt.toNat) r
theorem i32_of {a : Int32} (h : 0 ≤ a.toInt) : Int32.ofNat a.toInt.toNat = a := Int32.toInt_inj.mp (by rw [iofNat_toInt (by have := i32_hi a; omega)]; omega)
theorem lp_pic {σ : gS} (hI : JM σ) (c2 : Int32) : (∃ x : Int32, x.toInt = 1 + 9 * (σ.1 15 7).toInt ∧ lpc (S := Int32 × Int32) K9 (fun rec s => bX10_isTold_77 σ c2 (fun a3 a4 => rec (a3, a4)) s.1 s.2) (1, 0) = lpc (S := Int32 × Int32) K9 (fun rec s => bX10_isTold_152 σ c2 (fun a3 a4 => rec (a3, a4)) s.1 s.2) (x, 0) ∧ ∀ p : Nat, (p : Int) < (σ.1 15 7).toInt → PicOK (σ.1 1) σ p) ∨ (lpc (S := Int32 × Int32) K9 (fun rec s => bX10_isTold_77 σ c2 (fun a3 a4 => rec (a3, a4)) s.1 s.2) (1, 0) = some 0 ∧ ∃ p : Nat, (p : Int) < (σ.1 15 7).toInt ∧ ¬ PicOK (σ.1 1) σ p) := by
  obtain ⟨b9, b8, b7, b6⟩ := JM_n hI
  have z0' := z0
  have l1 : (1 : Int32).toInt = 1 := by decide
  have l9 : (9 : Int32).toInt = 9 := by decide
  have l3 : (3 : Int32).toInt = 3 := by decide
  have l12 : (12 : Int32).toInt = 12 := by decide
  have key := all2 (n := σ.1 15 7) (c := PicOK (σ.1 1) σ) (f := fun a => 1 + 9 * a) (N := fun x => lpc (S := Int32 × Int32) K9 (fun rec s => bX10_isTold_152 σ c2 (fun a3 a4 => rec (a3, a4)) s.1 s.2) (x, 0)) (B := fun rec s => bX10_isTold_77 σ c2 (fun a3 a4 => rec (a3, a4)) s.1 s.2) (by omega) (fun rec x a h0 h1 hx => ?_) (fun rec x a h0 h1 hx => ?_) (σ.1 15 7).toInt.toNat K9 1 0 (by omega) (by unfold K9; omega) (by decide) (by omega) (by rw [z0]; decide)
  · rcases key with ⟨x, h1, h2, h3⟩ | ⟨h1, h2⟩
    · exact .inl ⟨x, h1, h2, fun p hp => h3 p (by omega) hp⟩
    · exact .inr ⟨h1, h2⟩
  · show bX10_isTold_77 σ c2 _ x a = _
    unfold bX10_isTold_77
    rw [q_bd (m_pictures σ), if_pos (q_le (by omega)), nm_eq]
  · show (_ ∧ ∃ y : Int32, y.toInt = 1 + 9 * (a.toInt + 1) ∧ bX10_isTold_77 σ c2 _ x a = _) ∨ (_ ∧ bX10_isTold_77 σ c2 _ x a = _)
    have hx : x.toInt = 1 + 9 * a.toInt := hx
    obtain ⟨i, hi⟩ : ∃ i, i = a.toInt.toNat := ⟨_, rfl⟩
    rw [← hi]
    have nx : x.toNatClampNeg = 1 + 9 * i := by rw [n_toInt]; omega
    have n12 : (12 + a).toNatClampNeg = 12 + i := by rw [n_add (k := 12) (by decide) h0 (by omega), hi]
    have e12 : (12 + a).toInt = 12 + a.toInt := by rw [iadd_toInt] <;> omega
    have e1 : (x + 1).toInt = ((2 + 9 * i : Nat) : Int) := by rw [iadd_toInt] <;> omega
    have e9 : (x + 9).toInt = 1 + 9 * (a.toInt + 1) := by rw [iadd_toInt] <;> omega
    unfold bX10_isTold_77 PicOK
    rw [q_bd (m_pictures σ), if_neg (q_nle (by omega)), q_gd (gb_of (by omega) (by omega)), nm_eq, nm_eq, q_gd (gb_of (by omega) (by omega)), nm_eq, nx, n12]
    rcases lt_or 3 (σ.1 1 (1 + 9 * i)) with ⟨c, c'⟩ | ⟨c, c'⟩
    · rw [if_pos c]
      exact .inr ⟨fun w => by have := w.1; omega, rfl⟩
    rw [if_neg c]
    have j : (NEAR (W4 (σ.1 1) (2 + 9 * i)) ∧ NEAR (W4 (σ.1 1) (2 + 9 * i + 4)) ∧ jX10_isTold_125 σ c2 (fun a3 a4 => rec (a3, a4)) x a = rec (x + 9, a + 1)) ∨ (¬ (NEAR (W4 (σ.1 1) (2 + 9 * i)) ∧ NEAR (W4 (σ.1 1) (2 + 9 * i + 4))) ∧ jX10_isTold_125 σ c2 (fun a3 a4 => rec (a3, a4)) x a = some 0) := by
      unfold jX10_isTold_125
      rcases m_can0 e1 (by omega) 0 0 with ⟨g, g1, g2⟩ | ⟨g, g1⟩
      · rw [q_bd g, if_neg one_ne]
        exact .inl ⟨g1, g2, rfl⟩
      · rw [q_bd g, if_pos rfl]
        exact .inr ⟨g1, rfl⟩
    by_cases d : σ.1 17 (12 + i) = 4
    · rw [if_pos d]
      rcases j with ⟨j1, j2, j3⟩ | ⟨j1, j3⟩
      · exact .inl ⟨⟨by omega, .inl d, j1, j2⟩, x + 9, e9, j3⟩
      · exact .inr ⟨fun w => j1 w.2.2, j3⟩
    · rw [if_neg d, q_gd (gb_of (by omega) (by omega)), nm_eq]
      by_cases g : σ.1 1 (1 + 9 * i) = σ.1 17 (12 + i)
      · rw [if_pos g]
        rcases j with ⟨j1, j2, j3⟩ | ⟨j1, j3⟩
        · exact .inl ⟨⟨by omega, .inr g, j1, j2⟩, x + 9, e9, j3⟩
        · exact .inr ⟨fun w => j1 w.2.2, j3⟩
      · rw [if_neg g]
        exact .inr ⟨fun w => w.2.1.elim d g, rfl⟩
theorem lp_pt {σ : gS} (hI : JM σ) (c2 : Int32) {x : Int32} (hx : x.toInt = 1 + 9 * (σ.1 15 7).toInt) : (∃ y : Int32, y.toInt = 1 + 9 * (σ.1 15 7).toInt + 8 * (σ.1 15 8).toInt ∧ lpc (S := Int32 × Int32) K9 (fun rec s => bX10_isTold_152 σ c2 (fun a3 a4 => rec (a3, a4)) s.1 s.2) (x, 0) = lpc (S := Int32 × Int32) K9 (fun rec s => bX10_isTold_256 σ c2 (fun a3 a4 => rec (a3, a4)) s.1 s.2) (y, 0) ∧ ∀ q : Nat, (q : Int) < (σ.1 15 8).toInt → PtOK (σ.1 1) σ (1 + 9 * (σ.1 15 7).toInt.toNat) q) ∨ (lpc (S := Int32 × Int32) K9 (fun rec s => bX10_isTold_152 σ c2 (fun a3 a4 => rec (a3, a4)) s.1 s.2) (x, 0) = some 0 ∧ ∃ q : Nat, (q : Int) < (σ.1 15 8).toInt ∧ ¬ PtOK (σ.1 1) σ (1 + 9 * (σ.1 15 7).toInt.toNat) q) := by
  obtain ⟨b9, b8, b7, b6⟩ := JM_n hI
  have z0' := z0
  have l1 : (1 : Int32).toInt = 1 := by decide
  have l8 : (8 : Int32).toInt = 8 := by decide
  have l20 : (20 : Int32).toInt = 20 := by decide
  have l40 : (40 : Int32).toInt = 40 := by decide
  have l41 : (41 : Int32).toInt = 41 := by decide
  have key := all2 (n := σ.1 15 8) (c := PtOK (σ.1 1) σ (1 + 9 * (σ.1 15 7).toInt.toNat)) (f := fun a => 1 + 9 * (σ.1 15 7).toInt + 8 * a) (N := fun x => lpc (S := Int32 × Int32) K9 (fun rec s => bX10_isTold_256 σ c2 (fun a3 a4 => rec (a3, a4)) s.1 s.2) (x, 0)) (B := fun rec s => bX10_isTold_152 σ c2 (fun a3 a4 => rec (a3, a4)) s.1 s.2) (by omega) (fun rec x a h0 h1 hx => ?_) (fun rec x a h0 h1 hx => ?_) (σ.1 15 8).toInt.toNat K9 x 0 (by omega) (by unfold K9; omega) (by decide) (by omega) (by show x.toInt = 1 + 9 * (σ.1 15 7).toInt + 8 * (0 : Int32).toInt; omega)
  · rcases key with ⟨x, h1, h2, h3⟩ | ⟨h1, h2⟩
    · exact .inl ⟨x, h1, h2, fun p hp => h3 p (by omega) hp⟩
    · exact .inr ⟨h1, h2⟩
  · show bX10_isTold_152 σ c2 _ x a = _
    unfold bX10_isTold_152
    rw [q_bd (m_points σ), if_pos (q_le (by omega)), nm_eq]
  · show (_ ∧ ∃ y : Int32, y.toInt = 1 + 9 * (σ.1 15 7).toInt + 8 * (a.toInt + 1) ∧ bX10_isTold_152 σ c2 _ x a = _) ∨ (_ ∧ bX10_isTold_152 σ c2 _ x a = _)
    have hx : x.toInt = 1 + 9 * (σ.1 15 7).toInt + 8 * a.toInt := hx
    obtain ⟨i, hi⟩ : ∃ i, i = a.toInt.toNat := ⟨_, rfl⟩
    rw [← hi]
    obtain ⟨b, hb⟩ : ∃ b, b = 1 + 9 * (σ.1 15 7).toInt.toNat := ⟨_, rfl⟩
    rw [← hb]
    have nx : x.toInt = ((b + 8 * i : Nat) : Int) := by omega
    have m2 : (2 * a).toInt = 2 * a.toInt := imulc (by decide) (by omega) (by omega)
    have e40 : (40 + 2 * a).toInt = 40 + 2 * a.toInt := by rw [iadd_toInt] <;> omega
    have e41 : (41 + 2 * a).toInt = 41 + 2 * a.toInt := by rw [iadd_toInt] <;> omega
    have n40 : (40 + 2 * a).toNatClampNeg = 40 + 2 * i := by rw [n_toInt]; omega
    have n41 : (41 + 2 * a).toNatClampNeg = 40 + (2 * i + 1) := by rw [n_toInt]; omega
    have n20 : (20 + a).toNatClampNeg = 20 + i := by rw [n_add (k := 20) (by decide) h0 (by omega), hi]
    have e20 : (20 + a).toInt = 20 + a.toInt := by rw [iadd_toInt] <;> omega
    have e8 : (x + 8).toInt = 1 + 9 * (σ.1 15 7).toInt + 8 * (a.toInt + 1) := by rw [iadd_toInt] <;> omega
    have j0 : (NEAR (W4 (σ.1 1) (b + 8 * i)) ∧ NEAR (W4 (σ.1 1) (b + 8 * i + 4)) ∧ jX10_isTold_200 σ c2 (fun a3 a4 => rec (a3, a4)) x a 0 = rec (x + 8, a + 1)) ∨ (¬ (NEAR (W4 (σ.1 1) (b + 8 * i)) ∧ NEAR (W4 (σ.1 1) (b + 8 * i + 4))) ∧ jX10_isTold_200 σ c2 (fun a3 a4 => rec (a3, a4)) x a 0 = some 0) := by
      unfold jX10_isTold_200
      rw [nm_eq, q_gd (gb_of (by omega) (by omega)), nm_eq, q_gd (gb_of (by omega) (by omega)), nm_eq]
      rcases m_can0 nx (by omega) (100 * σ.1 21 (40 + 2 * a).toNatClampNeg) (100 * σ.1 21 (41 + 2 * a).toNatClampNeg) with ⟨g, g1, g2⟩ | ⟨g, g1⟩
      · rw [q_bd g, if_neg one_ne]
        exact .inl ⟨g1, g2, rfl⟩
      · rw [q_bd g, if_pos rfl]
        exact .inr ⟨g1, rfl⟩
    have j1 : (W4 (σ.1 1) (b + 8 * i) = 100 * σ.1 21 (40 + 2 * i) ∧ W4 (σ.1 1) (b + 8 * i + 4) = 100 * σ.1 21 (40 + (2 * i + 1)) ∧ jX10_isTold_200 σ c2 (fun a3 a4 => rec (a3, a4)) x a 1 = rec (x + 8, a + 1)) ∨ (¬ (W4 (σ.1 1) (b + 8 * i) = 100 * σ.1 21 (40 + 2 * i) ∧ W4 (σ.1 1) (b + 8 * i + 4) = 100 * σ.1 21 (40 + (2 * i + 1))) ∧ jX10_isTold_200 σ c2 (fun a3 a4 => rec (a3, a4)) x a 1 = some 0) := by
      unfold jX10_isTold_200
      rw [nm_eq, q_gd (gb_of (by omega) (by omega)), nm_eq, q_gd (gb_of (by omega) (by omega)), nm_eq, n40, n41]
      rcases m_can1 nx (by omega) (100 * σ.1 21 (40 + 2 * i)) (100 * σ.1 21 (40 + (2 * i + 1))) with ⟨g, g1, g2⟩ | ⟨g, g1⟩
      · rw [q_bd g, if_neg one_ne]
        exact .inl ⟨g1, g2, rfl⟩
      · rw [q_bd g, if_pos rfl]
        exact .inr ⟨g1, rfl⟩
    unfold bX10_isTold_152
    rw [q_bd (m_points σ), if_neg (q_nle (by omega)), q_gd (gb_of (by omega) (by omega)), nm_eq, nm_eq, n20]
    have fin0 : ¬ MUST (σ.1 1) σ i → (PtOK (σ.1 1) σ b i ∧ ∃ y : Int32, y.toInt = 1 + 9 * (σ.1 15 7).toInt + 8 * (a.toInt + 1) ∧ jX10_isTold_200 σ c2 (fun a3 a4 => rec (a3, a4)) x a 0 = rec (y, a + 1)) ∨ (¬ PtOK (σ.1 1) σ b i ∧ jX10_isTold_200 σ c2 (fun a3 a4 => rec (a3, a4)) x a 0 = some 0) := by
      intro hm
      rcases j0 with ⟨k1, k2, k3⟩ | ⟨k1, k3⟩
      · exact .inl ⟨⟨fun w => absurd w hm, fun _ => ⟨k1, k2⟩⟩, x + 8, e8, k3⟩
      · exact .inr ⟨fun w => k1 (w.2 hm), k3⟩
    by_cases d : σ.1 20 (20 + i) = 0
    · rw [if_pos d]
      exact fin0 (fun w => w.1 d)
    · rw [if_neg d, q_gd (by decide), nm_eq]
      have e0 : σ.1 1 ((0 : Int32).toNatClampNeg) = σ.1 1 0 := rfl
      rw [e0]
      by_cases g : ((σ.1 1 0 >>> ((σ.1 20 (20 + i) - 1) &&& 31)) &&& 1) = 1
      · rw [if_pos g]
        have hm : MUST (σ.1 1) σ i := ⟨d, g⟩
        rcases j1 with ⟨k1, k2, k3⟩ | ⟨k1, k3⟩
        · exact .inl ⟨⟨fun _ => ⟨k1, k2⟩, fun w => absurd hm w⟩, x + 8, e8, k3⟩
        · exact .inr ⟨fun w => k1 (w.1 hm), k3⟩
      · rw [if_neg g]
        exact fin0 (fun w => g w.2)
theorem lp_dr {σ : gS} (hI : JM σ) {x : Int32} (hx : x.toInt = 1 + 9 * (σ.1 15 7).toInt + 8 * (σ.1 15 8).toInt) : (∃ y : Int32, y.toInt = 1 + 9 * (σ.1 15 7).toInt + 8 * (σ.1 15 8).toInt + 8 * (σ.1 15 6).toInt ∧ lpc (S := Int32 × Int32) K9 (fun rec s => bX10_isTold_256 σ (σ.1 15 6) (fun a3 a4 => rec (a3, a4)) s.1 s.2) (x, 0) = lpc (S := Int32) K9 (fun rec s => bX10_isTold_300 σ y (fun a4 => rec (a4)) s) 0 ∧ ∀ s : Nat, (s : Int) < (σ.1 15 6).toInt → DrOK (σ.1 1) σ (1 + 9 * (σ.1 15 7).toInt.toNat + 8 * (σ.1 15 8).toInt.toNat) s) ∨ (lpc (S := Int32 × Int32) K9 (fun rec s => bX10_isTold_256 σ (σ.1 15 6) (fun a3 a4 => rec (a3, a4)) s.1 s.2) (x, 0) = some 0 ∧ ∃ s : Nat, (s : Int) < (σ.1 15 6).toInt ∧ ¬ DrOK (σ.1 1) σ (1 + 9 * (σ.1 15 7).toInt.toNat + 8 * (σ.1 15 8).toInt.toNat) s) := by
  obtain ⟨b9, b8, b7, b6⟩ := JM_n hI
  have z0' := z0
  have l8 : (8 : Int32).toInt = 8 := by decide
  have key := all2 (n := σ.1 15 6) (c := DrOK (σ.1 1) σ (1 + 9 * (σ.1 15 7).toInt.toNat + 8 * (σ.1 15 8).toInt.toNat)) (f := fun a => 1 + 9 * (σ.1 15 7).toInt + 8 * (σ.1 15 8).toInt + 8 * a) (N := fun y => lpc (S := Int32) K9 (fun rec s => bX10_isTold_300 σ y (fun a4 => rec (a4)) s) 0) (B := fun rec s => bX10_isTold_256 σ (σ.1 15 6) (fun a3 a4 => rec (a3, a4)) s.1 s.2) (by omega) (fun rec x a h0 h1 hx => ?_) (fun rec x a h0 h1 hx => ?_) (σ.1 15 6).toInt.toNat K9 x 0 (by omega) (by unfold K9; omega) (by decide) (by omega) (by show x.toInt = 1 + 9 * (σ.1 15 7).toInt + 8 * (σ.1 15 8).toInt + 8 * (0 : Int32).toInt; omega)
  · rcases key with ⟨x, h1, h2, h3⟩ | ⟨h1, h2⟩
    · exact .inl ⟨x, h1, h2, fun p hp => h3 p (by omega) hp⟩
    · exact .inr ⟨h1, h2⟩
  · show bX10_isTold_256 σ (σ.1 15 6) _ x a = _
    unfold bX10_isTold_256
    rw [if_pos (q_le (by omega)), nm_eq]
  · show (_ ∧ ∃ y : Int32, y.toInt = 1 + 9 * (σ.1 15 7).toInt + 8 * (σ.1 15 8).toInt + 8 * (a.toInt + 1) ∧ bX10_isTold_256 σ (σ.1 15 6) _ x a = _) ∨ (_ ∧ bX10_isTold_256 σ (σ.1 15 6) _ x a = _)
    have hx : x.toInt = 1 + 9 * (σ.1 15 7).toInt + 8 * (σ.1 15 8).toInt + 8 * a.toInt := hx
    have hd := m_hasDrift hI a
    rw [← i32_of h0] at hd
    obtain ⟨i, hi⟩ : ∃ i, i = a.toInt.toNat := ⟨_, rfl⟩
    rw [← hi] at hd ⊢
    obtain ⟨b, hb⟩ : ∃ b, b = 1 + 9 * (σ.1 15 7).toInt.toNat + 8 * (σ.1 15 8).toInt.toNat := ⟨_, rfl⟩
    rw [← hb]
    have ea : Int32.ofNat i = a := by rw [hi]; exact i32_of h0
    rw [ea] at hd
    have nx : x.toInt = ((b + 8 * i : Nat) : Int) := by omega
    have e8 : (x + 8).toInt = 1 + 9 * (σ.1 15 7).toInt + 8 * (σ.1 15 8).toInt + 8 * (a.toInt + 1) := by rw [iadd_toInt] <;> omega
    have hd : fX10_hasDrift σ a = some (HD σ i) := by unfold HD; rw [ea]; exact hd
    unfold bX10_isTold_256
    rw [if_neg (q_nle (by omega)), q_bd hd]
    by_cases g : HD σ i = 0
    · rw [if_pos g]
      unfold jX10_isTold_278
      rcases m_can1 nx (by omega) 0 0 with ⟨k, k1, k2⟩ | ⟨k, k1⟩
      · rw [q_bd k, if_neg one_ne]
        exact .inl ⟨⟨fun _ => ⟨k1, k2⟩, fun w => absurd g w⟩, x + 8, e8, rfl⟩
      · rw [q_bd k, if_pos rfl]
        exact .inr ⟨fun w => k1 (w.1 g), rfl⟩
    · rw [if_neg g]
      unfold jX10_isTold_278
      rcases m_can0 nx (by omega) 0 0 with ⟨k, k1, k2⟩ | ⟨k, k1⟩
      · rw [q_bd k, if_neg one_ne]
        exact .inl ⟨⟨fun w => absurd w g, fun _ => ⟨k1, k2⟩⟩, x + 8, e8, rfl⟩
      · rw [q_bd k, if_pos rfl]
        exact .inr ⟨fun w => k1 (w.2 g), rfl⟩
theorem lp_rw {σ : gS} (hI : JM σ) {x : Int32} (hx : x.toInt = 1 + 9 * (σ.1 15 7).toInt + 8 * (σ.1 15 8).toInt + 8 * (σ.1 15 6).toInt) : (lpc (S := Int32) K9 (fun rec s => bX10_isTold_300 σ x (fun a4 => rec (a4)) s) 0 = some 1 ∧ ∀ r : Nat, (r : Int) < (σ.1 15 9).toInt → RwOK (σ.1 1) (1 + 9 * (σ.1 15 7).toInt.toNat + 8 * (σ.1 15 8).toInt.toNat + 8 * (σ.1 15 6).toInt.toNat) r) ∨ (lpc (S := Int32) K9 (fun rec s => bX10_isTold_300 σ x (fun a4 => rec (a4)) s) 0 = some 0 ∧ ∃ r : Nat, (r : Int) < (σ.1 15 9).toInt ∧ ¬ RwOK (σ.1 1) (1 + 9 * (σ.1 15 7).toInt.toNat + 8 * (σ.1 15 8).toInt.toNat + 8 * (σ.1 15 6).toInt.toNat) r) := by
  obtain ⟨b9, b8, b7, b6⟩ := JM_n hI
  have z0' := z0
  have l1 : (1 : Int32).toInt = 1 := by decide
  have key := all1 (n := σ.1 15 9) (c := RwOK (σ.1 1) (1 + 9 * (σ.1 15 7).toInt.toNat + 8 * (σ.1 15 8).toInt.toNat + 8 * (σ.1 15 6).toInt.toNat)) (N := some 1) (B := fun rec s => bX10_isTold_300 σ x (fun a4 => rec (a4)) s) (by omega) (fun rec a h0 h1 => ?_) (fun rec a h0 h1 => ?_) (σ.1 15 9).toInt.toNat K9 0 (by omega) (by unfold K9; omega) (by decide) (by omega)
  · rcases key with ⟨h2, h3⟩ | ⟨h1, h2⟩
    · exact .inl ⟨h2, fun p hp => h3 p (by omega) hp⟩
    · exact .inr ⟨h1, h2⟩
  · show bX10_isTold_300 σ x _ a = _
    unfold bX10_isTold_300
    rw [q_bd (m_rows σ), if_pos (q_le (by omega))]
  · show (_ ∧ bX10_isTold_300 σ x _ a = _) ∨ (_ ∧ bX10_isTold_300 σ x _ a = _)
    have e : (x + a).toInt = x.toInt + a.toInt := by rw [iadd_toInt] <;> omega
    have nx : (x + a).toNatClampNeg = 1 + 9 * (σ.1 15 7).toInt.toNat + 8 * (σ.1 15 8).toInt.toNat + 8 * (σ.1 15 6).toInt.toNat + a.toInt.toNat := by rw [n_toInt]; omega
    unfold bX10_isTold_300 RwOK
    rw [q_bd (m_rows σ), if_neg (q_nle (by omega)), q_gd (gb_of (by omega) (by omega)), nm_eq, nx]
    by_cases g : σ.1 1 (1 + 9 * (σ.1 15 7).toInt.toNat + 8 * (σ.1 15 8).toInt.toNat + 8 * (σ.1 15 6).toInt.toNat + a.toInt.toNat) ≤ 1
    · have g' := Int32.le_iff_toInt_le.mp g
      rw [if_pos g]
      exact .inl ⟨by omega, rfl⟩
    · have g' := q_gt g
      rw [if_neg g]
      exact .inr ⟨by omega, rfl⟩
set_option maxHeartbeats 1000000 in
theorem r_isTold {σ : gS} (hI : JM σ) {n ck : Int32} (hn0 : 0 ≤ n.toInt) (hck : n.toInt = due σ → fX10_checked σ 1 (n - 1) = some ck) : (fX10_isTold σ n = some 1 ∧ TOLD (σ.1 1) σ n ck) ∨ (fX10_isTold σ n = some 0 ∧ ¬ TOLD (σ.1 1) σ n ck) := by
  obtain ⟨b9, b8, b7, b6⟩ := JM_n hI
  have l1 : (1 : Int32).toInt = 1 := by decide
  have l2 : (2 : Int32).toInt = 2 := by decide
  have l3 : (3 : Int32).toInt = 3 := by decide
  have l8 : (8 : Int32).toInt = 8 := by decide
  have l9 : (9 : Int32).toInt = 9 := by decide
  have z0' := z0
  have d1 : (9 * σ.1 15 7).toInt = 9 * (σ.1 15 7).toInt := imulc (by decide) (by omega) (by omega)
  have d2 : (8 * σ.1 15 8).toInt = 8 * (σ.1 15 8).toInt := imulc (by decide) (by omega) (by omega)
  have d3 : (8 * σ.1 15 6).toInt = 8 * (σ.1 15 6).toInt := imulc (by decide) (by omega) (by omega)
  have d4 : (2 + 9 * σ.1 15 7).toInt = 2 + 9 * (σ.1 15 7).toInt := by rw [iadd_toInt] <;> omega
  have d5 : (2 + 9 * σ.1 15 7 + 8 * σ.1 15 8).toInt = 2 + 9 * (σ.1 15 7).toInt + 8 * (σ.1 15 8).toInt := by rw [iadd_toInt] <;> omega
  have d6 : (2 + 9 * σ.1 15 7 + 8 * σ.1 15 8 + 8 * σ.1 15 6).toInt = 2 + 9 * (σ.1 15 7).toInt + 8 * (σ.1 15 8).toInt + 8 * (σ.1 15 6).toInt := by rw [iadd_toInt] <;> omega
  have d7 : (2 + 9 * σ.1 15 7 + 8 * σ.1 15 8 + 8 * σ.1 15 6 + σ.1 15 9).toInt = due σ := by unfold due; rw [iadd_toInt] <;> omega
  have x6 : σ.1 15 ((6 : Int32).toNatClampNeg) = σ.1 15 6 := rfl
  unfold fX10_isTold
  rw [q_gd (by decide), nm_eq, nm_eq, x6, q_bd (m_pictures σ), q_bd (m_points σ), q_bd (m_rows σ)]
  have hdue : ∀ z : n.toInt = due σ, n = 2 + 9 * σ.1 15 7 + 8 * σ.1 15 8 + 8 * σ.1 15 6 + σ.1 15 9 := fun z => Int32.toInt_inj.mp (by rw [z, d7])
  by_cases hd : n = 2 + 9 * σ.1 15 7 + 8 * σ.1 15 8 + 8 * σ.1 15 6 + σ.1 15 9
  · have hn : n.toInt = due σ := by rw [hd]; exact d7
    have hn' := hn
    unfold due at hn'
    have em : (n - 1).toInt = n.toInt - 1 := by rw [isub_toInt] <;> omega
    have en : (n - 1).toNatClampNeg = n.toInt.toNat - 1 := by rw [n_toInt]; omega
    rw [if_pos hd, q_gd (gb_of (by omega) (by omega)), nm_eq, q_bd (hck hn), en]
    by_cases h1 : σ.1 1 (n.toInt.toNat - 1) = ck
    · rw [if_pos h1, q_gd (by decide), nm_eq]
      have e0 : σ.1 1 ((0 : Int32).toNatClampNeg) = σ.1 1 0 := rfl
      rw [e0]
      by_cases h2 : σ.1 1 0 ≤ 3
      · have h2' := Int32.le_iff_toInt_le.mp h2
        rw [if_pos h2, nm_eq, nm_eq]
        rcases lp_pic hI (σ.1 15 6) with ⟨x, hx, e, hp⟩ | ⟨e, i, hi, hp⟩
        · rw [e]
          rcases lp_pt hI (σ.1 15 6) hx with ⟨y, hy, e, hq⟩ | ⟨e, i, hi, hq⟩
          · rw [e]
            rcases lp_dr hI hy with ⟨z, hz, e, hs⟩ | ⟨e, i, hi, hs⟩
            · rw [e]
              rcases lp_rw hI hz with ⟨e, hr⟩ | ⟨e, i, hi, hr⟩
              · rw [e]
                exact .inl ⟨rfl, hn, h1, by omega, hp, hq, hs, hr⟩
              · rw [e]
                exact .inr ⟨rfl, fun w => hr (w.2.2.2.2.2.2 i hi)⟩
            · rw [e]
              exact .inr ⟨rfl, fun w => hs (w.2.2.2.2.2.1 i hi)⟩
          · rw [e]
            exact .inr ⟨rfl, fun w => hq (w.2.2.2.2.1 i hi)⟩
        · rw [e]
          exact .inr ⟨rfl, fun w => hp (w.2.2.2.1 i hi)⟩
      · have h2' := q_gt h2
        rw [if_neg h2]
        exact .inr ⟨rfl, fun w => by have := w.2.2.1; omega⟩
    · rw [if_neg h1]
      exact .inr ⟨rfl, fun w => h1 w.2.1⟩
  · rw [if_neg hd]
    exact .inr ⟨rfl, fun w => hd (hdue w.1)⟩
end P12E
