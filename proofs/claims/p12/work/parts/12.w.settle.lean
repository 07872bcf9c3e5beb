/-! THE GEOMETRY: settle and rests are alike -/
section P12W
noncomputable def CI (σ s : gS) (k : Nat) (τ : gS) : Prop := (∀ j, j ≠ 94 → j ≠ 95 → τ.1 j = σ.1 j) ∧ τ.2 = σ.2 ∧ ∀ r : Nat, r < k → τ.1 94 r = tO s r 0 ∧ τ.1 95 r = tO s r 1
theorem CI_tr {σ s τ : gS} {k : Nat} (h : TRd σ s) (c : CI σ s k τ) : TRd τ s := TR_cong h (fun j hj => c.1 j (by omega) (by omega)) (fun _ _ _ => rfl) rfl
theorem CI_tn {σ s τ : gS} {k : Nat} (h : TN σ s) (c : CI σ s k τ) : TN τ s := by
  unfold TN MSd
  rw [c.1 48 (by decide) (by decide), c.1 13 (by decide) (by decide), c.1 14 (by decide) (by decide)]
  exact h
theorem cache {σ s σx : gS} {m : Int32} (h : TRd σ s) (w : WF s) (t : TN σ s) : ∀ (d K : Nat) (k : Int32) (τ : gS), d = ((s.1 15 9).toInt - k.toInt).toNat → d < K → 0 ≤ k.toInt → k.toInt ≤ (s.1 15 9).toInt → CI σ s k.toInt.toNat τ → ∃ ρ, lpc (S := Int32 × gS) K (fun rec u => bX1_settle_2 σx m (fun a2 σ1 => rec (a2, σ1)) u.1 u.2) (k, τ) = lpc (S := Int32 × gS) K9 (fun rec u => bX1_settle_57 ρ m (fun a2 σ1 => rec (a2, σ1)) u.1 u.2) (0, ρ) ∧ CI σ s (s.1 15 9).toInt.toNat ρ := by
  obtain ⟨b9, -⟩ := w.1
  intro d
  induction d with
  | zero =>
    intro K k τ hd hK k0 k1 c
    have ek : k.toInt.toNat = (s.1 15 9).toInt.toNat := by omega
    rw [ek] at c
    refine ⟨τ, ?_, c⟩
    rw [lpc_pos hK]
    show bX1_settle_2 σx m _ k τ = _
    unfold bX1_settle_2
    have e3 : τ.1 3 ((3 : Int32).toNatClampNeg) = s.1 15 9 := (tr_n (CI_tr h c)).1
    rw [q_gd (by decide), nm_eq, e3, if_pos (q_le (by omega)), nm_eq]
  | succ d ih =>
    intro K k τ hd hK k0 k1 c
    have e1 := i_inc (a := k) (c := 60) (by omega) (by omega) (by decide)
    have gk := gb_of (i := k) (n := 60) (by omega) (by omega)
    have hτ := CI_tr h c
    have e3 : τ.1 3 ((3 : Int32).toNatClampNeg) = s.1 15 9 := (tr_n hτ).1
    have u1 := k_turned hτ w (CI_tn t c) (r := k) (a := 0) k0 (by omega) (by decide) (by decide)
    have c2 : CI σ s k.toInt.toNat (gsI τ 94 k.toInt.toNat (tO s k.toInt.toNat 0)) := ⟨fun j a b => (gsI_row a).trans (c.1 j a b), c.2.1, fun r hr => ⟨by rw [gsI_at, if_neg (by omega)]; exact (c.2.2 r hr).1, by rw [gsI_row (by decide)]; exact (c.2.2 r hr).2⟩⟩
    have u2 := k_turned (CI_tr h c2) w (CI_tn t c2) (r := k) (a := 1) k0 (by omega) (by decide) (by decide)
    have c3 : CI σ s (k + 1).toInt.toNat (gsI (gsI τ 94 k.toInt.toNat (tO s k.toInt.toNat 0)) 95 k.toInt.toNat (tO s k.toInt.toNat 1)) := by
      refine ⟨fun j a b => (gsI_row b).trans (c2.1 j a b), c.2.1, fun r hr => ⟨?_, ?_⟩⟩
      · rw [gsI_row (by decide), gsI_at]
        by_cases z : r = k.toInt.toNat
        · rw [if_pos z, z]
        · rw [if_neg z]
          exact (c.2.2 r (by omega)).1
      · rw [gsI_at]
        by_cases z : r = k.toInt.toNat
        · rw [if_pos z, z]
        · rw [if_neg z, gsI_row (by decide)]
          exact (c.2.2 r (by omega)).2
    obtain ⟨ρ, r1, r2⟩ := ih (K - 1) (k + 1) _ (by omega) (by omega) (by omega) (by omega) c3
    have st : ∀ rec : Int32 → gS → Option (Int32 × gS), bX1_settle_2 σx m rec k τ = rec (k + 1) (gsI (gsI τ 94 k.toInt.toNat (tO s k.toInt.toNat 0)) 95 k.toInt.toNat (tO s k.toInt.toNat 1)) := fun rec => by
      unfold bX1_settle_2
      rw [q_gd (by decide), nm_eq, e3, if_neg (q_nle (by omega)), q_gd (by decide), q_bd u1, q_gd gk, nm_eq, n_toInt, q_gd (by decide), q_bd u2, q_gd gk, nm_eq, nm_eq]
    refine ⟨ρ, ?_, r2⟩
    rw [lpc_pos (by omega), ← r1]
    exact st _
/-- places of one axis, rows in use: alike -/
noncomputable def PB (σ s : gS) (a : Int32) : Prop := (∀ p : Nat, (p : Int) < (s.1 15 7).toInt → σ.1 (50 + a.toInt.toNat) p = s.1 28 (38 * a.toInt.toNat + p)) ∧ (∀ q : Nat, (q : Int) < (s.1 15 8).toInt → σ.1 (53 + a.toInt.toNat) q = s.1 28 (38 * a.toInt.toNat + (12 + q))) ∧ (∀ t : Nat, (t : Int) < (s.1 15 6).toInt → σ.1 (56 + a.toInt.toNat) t = s.1 28 (38 * a.toInt.toNat + (32 + t))) ∧ ∀ r : Nat, (r : Int) < (s.1 15 9).toInt → σ.1 58 r = s.1 26 r
theorem PB_of {σ s : gS} {a : Int32} (h : PA σ s a) : PB σ s a := ⟨h.1, h.2.1, h.2.2.1, h.2.2.2.2⟩
theorem settle_2 {σ s : gS} (h : TRd σ s) (w : WF s) (t : TN σ s) (p0 : PB σ s 0) (p1 : PB σ s 1) (fx : ∀ q : Nat, (q : Int) < (s.1 15 8).toInt → (σ.1 16 q &&& σ.1 47 1 = 0 ↔ freeM s q)) {m : Int32} (m0 : 0 ≤ m.toInt) (m1 : m.toInt ≤ 500) : Re (fX1_settle σ m) (fX10_rests s m) (fun oc om => oc.1 = om.1 ∧ RS oc.2 om.2 ∧ ((∀ k, k ≠ 50 → k ≠ 51 → k ≠ 53 → k ≠ 54 → k ≠ 56 → k ≠ 57 → k ≠ 94 → k ≠ 95 → oc.2.1 k = σ.1 k) ∧ ∀ k, k ≠ 91 → k ≠ 92 → oc.2.2 k = σ.2 k) ∧ FrO s om.2) := by
  have z0' := z0
  have l1 : (1 : Int32).toInt = 1 := by decide
  obtain ⟨b9, -⟩ := w.1
  obtain ⟨ρ, e, c⟩ := cache (σx := σ) (m := m) h w t (s.1 15 9).toInt.toNat K9 0 σ (by omega) (by unfold K9; omega) (by omega) (by omega) ⟨fun _ _ _ => rfl, rfl, fun r hr => absurd hr (by omega)⟩
  have pa : ∀ a : Int32, a = 0 ∨ a = 1 → PB σ s a → PA ρ s a := fun a ha p => by
    refine ⟨fun q hq => by rw [c.1 _ (by rcases ha with rfl | rfl <;> omega) (by rcases ha with rfl | rfl <;> omega)]; exact p.1 q hq, fun q hq => by rw [c.1 _ (by rcases ha with rfl | rfl <;> omega) (by rcases ha with rfl | rfl <;> omega)]; exact p.2.1 q hq, fun q hq => by rw [c.1 _ (by rcases ha with rfl | rfl <;> omega) (by rcases ha with rfl | rfl <;> omega)]; exact p.2.2.1 q hq, fun r hr => ?_, fun r hr => by rw [c.1 58 (by decide) (by decide)]; exact p.2.2.2 r hr⟩
    have C := c.2.2 r (by omega)
    rcases ha with rfl | rfl
    · rw [n_0]; exact C.1
    · rw [n_1]; exact C.2
  have hR : RS ρ s := ⟨CI_tr h c, w, pa 0 (.inl rfl) p0, pa 1 (.inr rfl) p1, fun q hq => by
    rw [c.1 16 (by decide) (by decide), c.1 47 (by decide) (by decide)]
    exact fx q hq⟩
  obtain ⟨oc, om, eC, eM, ee, hR2, fK, fO⟩ := rests_k (σx := ρ) (sx := s) (m := m) m1 (m.toInt - (0 : Int32).toInt).toNat K9 K9 0 ρ s rfl (by unfold K9; omega) (by unfold K9; omega) (by omega) (by omega) hR
  refine ⟨oc, om, ?_, ?_, ee, hR2, ⟨fun k k1 k2 k3 k4 k5 k6 k7 k8 => (fK.1 k k1 k2 k3 k4 k5 k6).trans (c.1 k k7 k8), fun k k1 k2 => by rw [fK.2 k k1 k2, c.2.1]⟩, fO⟩
  · unfold fX1_settle
    rw [nm_eq, e]
    exact eC
  · unfold fX10_rests
    rw [nm_eq]
    exact eM
end P12W
