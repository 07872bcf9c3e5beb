/-! THE GEOMETRY: a round, on the class's side: weights and pulls -/
section P12O
theorem gs91 : gsz zC.1 1 2 91 = 20 := by decide
theorem gs92 : gsz zC.1 1 2 92 = 20 := by decide
theorem c_fill {σ : gS} {p : Nat} (hp : p = 91 ∨ p = 92) : Ok (fJ7_fill_d0a16 σ p 0) (fun τ => τ.1 = σ.1 ∧ (∀ k, k ≠ p → τ.2 k = σ.2 k) ∧ ∀ i : Nat, i < 20 → τ.2 p i = 0) := by
  have z0' := z0
  have l20 : (Int32.ofNat 20).toInt = 20 := by decide
  have gi : gis zC.1 1 2 p = true := by rcases hp with rfl | rfl <;> decide
  have gz : gsz zC.1 1 2 p = 20 := by rcases hp with rfl | rfl <;> decide
  unfold fJ7_fill_d0a16
  rw [nm_eq, q_gd gi, nm_eq, gz]
  refine ok_lpc (I := fun (n : Nat) (s : Int32 × gS) => n = (20 - s.1.toInt).toNat ∧ 0 ≤ s.1.toInt ∧ s.1.toInt ≤ 20 ∧ s.2.1 = σ.1 ∧ (∀ k, k ≠ p → s.2.2 k = σ.2 k) ∧ ∀ i : Nat, (i : Int) < s.1.toInt → s.2.2 p i = 0) (fun rec n s hs hrec => ?_) K9 20 (0, σ) ⟨by dsimp only; omega, by dsimp only; omega, by dsimp only; omega, rfl, fun _ _ => rfl, fun i hi => absurd hi (by dsimp only; omega)⟩ (by unfold K9; omega)
  obtain ⟨a, s⟩ := s
  obtain ⟨hn, a0, a1, h1, h2, h3⟩ := hs
  dsimp only at hn a0 a1 h1 h2 h3 ⊢
  unfold bJ7_fill_d0a16_6
  refine ok_ite.mpr ⟨fun hk => ok_some.mpr ⟨h1, h2, fun i hi => h3 i (by have := Int32.le_iff_toInt_le.mp hk; omega)⟩, fun hk => ?_⟩
  have hlt := q_gt hk
  have e1 := i_inc (a := a) (c := 60) (by omega) (by omega) (by decide)
  rw [gz, q_gd (gb_of (by omega) (by omega)), nm_eq, nm_eq]
  refine hrec (20 - (a + 1).toInt).toNat (a + 1, _) (by omega) ⟨rfl, by dsimp only; omega, by dsimp only; omega, h1, fun k hk => ?_, fun i hi => ?_⟩
  · show (gsL s p a.toNatClampNeg 0).2 k = _
    rw [← h2 k hk]
    funext j
    rw [gsL_2, if_neg (fun z => hk z.1)]
  · show (gsL s p a.toNatClampNeg 0).2 p i = 0
    dsimp only at hi
    rw [gsL_2, n_toInt]
    by_cases z : i = a.toInt.toNat
    · rw [if_pos ⟨rfl, z⟩]
    · rw [if_neg (fun y => z y.2)]
      exact h3 i (by omega)
/-- weights and pulls are being gathered -/
noncomputable def GC (σ : gS) (W S : Nat → Int) (τ : gS) : Prop := τ.1 = σ.1 ∧ (∀ k, k ≠ 91 → k ≠ 92 → τ.2 k = σ.2 k) ∧ ∀ q : Nat, q < 20 → (τ.2 91 q).toInt = W q ∧ (τ.2 92 q).toInt = S q
theorem GC_0 (σ : gS) : Ok (fX1_clearPulls σ) (GC σ (fun _ => 0) (fun _ => 0)) := by
  unfold fX1_clearPulls
  refine ok_bd.mpr ((c_fill (.inl rfl)).mono (fun τ h => ok_bd.mpr ((c_fill (.inr rfl)).mono (fun ρ g => ok_some.mpr ⟨g.1.trans h.1, fun k a b => (g.2.1 k b).trans (h.2.1 k a), fun q hq => ⟨?_, ?_⟩⟩))))
  · rw [g.2.1 91 (by decide), h.2.2 q hq]
    exact (show (0 : Int64).toInt = 0 by decide)
  · rw [g.2.2 q hq]
    exact (show (0 : Int64).toInt = 0 by decide)
theorem GC_eq {σ τ : gS} {W S W' S' : Nat → Int} (h : GC σ W S τ) (a : ∀ q, q < 20 → W q = W' q ∧ S q = S' q) : GC σ W' S' τ := ⟨h.1, h.2.1, fun q hq => by rw [← (a q hq).1, ← (a q hq).2]; exact h.2.2 q hq⟩
theorem GC_add {σ τ : gS} {W S : Nat → Int} {q w t : Int32} (h : GC σ W S τ) (q0 : 0 ≤ q.toInt) (q1 : q.toInt < 20) (w0 : 0 ≤ w.toInt) (w1 : w.toInt ≤ 9) (W0 : 0 ≤ W q.toInt.toNat) (W1 : W q.toInt.toNat ≤ 1000) (s0 : -2147483648 * W q.toInt.toNat ≤ S q.toInt.toNat) (s1 : S q.toInt.toNat ≤ 2147483647 * W q.toInt.toNat) : ∃ ρ, fX1_addPull τ q w t = some ρ ∧ GC σ (fun j => W j + if j = q.toInt.toNat then w.toInt else 0) (fun j => S j + if j = q.toInt.toNat then w.toInt * t.toInt else 0) ρ := by
  obtain ⟨h1, h2, h3⟩ := h
  obtain ⟨hW, hS⟩ := h3 q.toInt.toNat (by omega)
  have g := gb_of (i := q) (n := 20) (by omega) (by omega)
  have tl := Int32.le_toInt t
  have th := i32_hi t
  have a := Int.mul_le_mul_of_nonneg_left tl w0
  have b := Int.mul_le_mul_of_nonneg_left th w0
  have m : (w.toInt64 * t.toInt64).toInt = w.toInt * t.toInt := by rw [lmul_toInt (by rw [i64_of, i64_of]; omega) (by rw [i64_of, i64_of]; omega), i64_of, i64_of]
  have eW : (τ.2 91 q.toInt.toNat + w.toInt64).toInt = W q.toInt.toNat + w.toInt := by rw [ladd_toInt (by rw [hW, i64_of]; omega) (by rw [hW, i64_of]; omega), hW, i64_of]
  have eS : (τ.2 92 q.toInt.toNat + w.toInt64 * t.toInt64).toInt = S q.toInt.toNat + w.toInt * t.toInt := by rw [ladd_toInt (by rw [hS, m]; omega) (by rw [hS, m]; omega), hS, m]
  refine ⟨gsL (gsL τ 91 q.toInt.toNat (τ.2 91 q.toInt.toNat + w.toInt64)) 92 q.toInt.toNat (τ.2 92 q.toInt.toNat + w.toInt64 * t.toInt64), ?_, h1, fun k k1 k2 => ?_, fun j hj => ⟨?_, ?_⟩⟩
  · unfold fX1_addPull
    rw [q_gd g, nm_eq, q_gd g, nm_eq, q_gd g, nm_eq, q_gd g, nm_eq, n_toInt]
    have e : (gsL τ 91 q.toInt.toNat (τ.2 91 q.toInt.toNat + w.toInt64)).2 92 q.toInt.toNat = τ.2 92 q.toInt.toNat := by rw [gsL_2, if_neg (by omega)]
    rw [e]
  · rw [← h2 k k1 k2]
    funext j
    rw [gsL_2, if_neg (fun z => k2 z.1), gsL_2, if_neg (fun z => k1 z.1)]
  · rw [gsL_2, if_neg (by omega), gsL_2]
    by_cases z : j = q.toInt.toNat
    · rw [if_pos ⟨rfl, z⟩, eW]
      dsimp only
      rw [if_pos z, z]
    · rw [if_neg (fun y => z y.2)]
      dsimp only
      rw [if_neg z, Int.add_zero]
      exact (h3 j hj).1
  · rw [gsL_2]
    by_cases z : j = q.toInt.toNat
    · rw [if_pos ⟨rfl, z⟩, eS]
      dsimp only
      rw [if_pos z, z]
    · rw [if_neg (fun y => z y.2), gsL_2, if_neg (by omega)]
      dsimp only
      rw [if_neg z, Int.add_zero]
      exact (h3 j hj).2
/-- the places of a row c become what F says, where there is a weight; a flag tells whether any is altered -/
noncomputable def MC (σ : gS) (c n : Nat) (F : Nat → Int) (o : Int32 × gS) : Prop := (∀ k, k ≠ c → o.2.1 k = σ.1 k) ∧ o.2.2 = σ.2 ∧ (∀ j : Nat, j < n → (o.2.1 c j).toInt = F j) ∧ (∀ j : Nat, n ≤ j → o.2.1 c j = σ.1 c j) ∧ (o.1 = 0 ∨ o.1 = 1) ∧ (o.1 = 0 ↔ o.2.1 c = σ.1 c)
theorem c_moveEach {σ : gS} {c : Nat} {n : Int32} {W S : Nat → Int} (n0 : 0 ≤ n.toInt) (n20 : n.toInt ≤ 20) (hz : n.toInt ≤ gsz zC.1 0 0 c) (h : ∀ q : Nat, q < 20 → (σ.2 91 q).toInt = W q ∧ (σ.2 92 q).toInt = S q) (hb : ∀ q : Nat, q < 20 → 0 ≤ W q ∧ W q ≤ 1000 ∧ -2147483648 * W q ≤ S q ∧ S q ≤ 2147483647 * W q ∨ W q ≤ 0) : Ok (fX1_moveEach σ c n) (MC σ c n.toInt.toNat (fun j => nw (W j) (S j) (σ.1 c j).toInt)) := by
  have z0' := z0
  unfold fX1_moveEach
  rw [nm_eq, nm_eq]
  refine ok_lpc (I := fun (m : Nat) (s : Int32 × Int32 × gS) => m = (n.toInt - s.2.1.toInt).toNat ∧ 0 ≤ s.2.1.toInt ∧ s.2.1.toInt ≤ n.toInt ∧ (∀ k, k ≠ c → s.2.2.1 k = σ.1 k) ∧ s.2.2.2 = σ.2 ∧ (∀ j : Nat, (j : Int) < s.2.1.toInt → (s.2.2.1 c j).toInt = nw (W j) (S j) (σ.1 c j).toInt) ∧ (∀ j : Nat, s.2.1.toInt ≤ (j : Int) → s.2.2.1 c j = σ.1 c j) ∧ (s.1 = 0 ∨ s.1 = 1) ∧ (s.1 = 0 ↔ s.2.2.1 c = σ.1 c)) (fun rec m s hs hrec => ?_) K9 n.toInt.toNat (0, 0, σ) ⟨by dsimp only; omega, by dsimp only; omega, by dsimp only; omega, fun _ _ => rfl, rfl, fun j hj => absurd hj (by dsimp only; omega), fun _ _ => rfl, .inl rfl, ⟨fun _ => rfl, fun _ => rfl⟩⟩ (by unfold K9; omega)
  obtain ⟨g, a, s⟩ := s
  obtain ⟨hn, a0, a1, h1, h2, h3, h4, h5, h6⟩ := hs
  dsimp only at hn a0 a1 h1 h2 h3 h4 h5 h6 ⊢
  by_cases hk : n ≤ a
  · unfold bX1_moveEach_5
    rw [if_pos hk, vpb h5]
    have := Int32.le_iff_toInt_le.mp hk
    exact ok_some.mpr ⟨h1, h2, fun j hj => h3 j (by omega), fun j hj => h4 j (by omega), h5, h6⟩
  · have hlt := q_gt hk
    have e1 := i_inc (a := a) (c := 60) (by omega) (by omega) (by decide)
    obtain ⟨hW, hS⟩ := h a.toInt.toNat (by omega)
    have old : s.1 c a.toInt.toNat = σ.1 c a.toInt.toNat := h4 _ (by omega)
    have same : nw (W a.toInt.toNat) (S a.toInt.toNat) (σ.1 c a.toInt.toNat).toInt = (σ.1 c a.toInt.toNat).toInt → Ok (rec (g, a + 1, s)) (MC σ c n.toInt.toNat (fun j => nw (W j) (S j) (σ.1 c j).toInt)) := fun e => by
      refine hrec (n.toInt - (a + 1).toInt).toNat (g, a + 1, s) (by omega) ⟨rfl, by dsimp only; omega, by dsimp only; omega, h1, h2, fun j hj => ?_, fun j hj => h4 j (by dsimp only at hj; omega), h5, h6⟩
      dsimp only at hj ⊢
      by_cases z : j = a.toInt.toNat
      · rw [z, old, e]
      · exact h3 j (by omega)
    by_cases w0 : 0 < W a.toInt.toNat
    · rcases hb a.toInt.toNat (by omega) with ⟨-, w1, s0, s1⟩ | hb'
      · obtain ⟨v, v1, v2⟩ := c_become (σ := σ) (σ1 := s) (c := c) (n := n) (a3 := g) (a4 := a) (rec := fun a3 a4 σ1 => rec (a3, a4, σ1)) a0 hlt hz n20 (by rw [h2]; exact hW) w0 w1 (by rw [h2]; exact hS) s0 s1
        rw [v2]
        rw [old] at v1 ⊢
        have ev : v.toInt = nw (W a.toInt.toNat) (S a.toInt.toNat) (σ.1 c a.toInt.toNat).toInt := by rw [v1]; exact (if_pos w0).symm
        by_cases z : σ.1 c a.toInt.toNat = v
        · rw [if_pos z]
          exact same (by rw [← ev, z])
        · rw [if_neg z]
          refine hrec (n.toInt - (a + 1).toInt).toNat (1, a + 1, gsI s c a.toInt.toNat v) (by omega) ⟨rfl, by dsimp only; omega, by dsimp only; omega, fun k hk => (gsI_row hk).trans (h1 k hk), h2, fun j hj => ?_, fun j hj => ?_, .inr rfl, ⟨fun y => absurd y one_ne, fun y => ?_⟩⟩
          · dsimp only at hj ⊢
            rw [gsI_at]
            by_cases y : j = a.toInt.toNat
            · rw [if_pos y, ev, y]
            · rw [if_neg y]
              exact h3 j (by omega)
          · dsimp only at hj ⊢
            rw [gsI_at, if_neg (by omega)]
            exact h4 j (by omega)
          · dsimp only at y
            have := congrFun y a.toInt.toNat
            rw [gsI_at, if_pos rfl] at this
            exact absurd this.symm z
      · omega
    · rw [c_stays a0 hlt n20 (by rw [h2, hW]; omega)]
      exact same (if_neg w0)
end P12O
