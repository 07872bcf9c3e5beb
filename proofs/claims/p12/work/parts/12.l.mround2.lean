/-! THE GEOMETRY: a round, on the reference's side: pictures, drifts -/
section P12L
theorem ix_24 {p a : Int32} (p0 : 0 ≤ p.toInt) (p1 : p.toInt ≤ 11) (a0 : 0 ≤ a.toInt) (a1 : a.toInt ≤ 1) : (24 + 2 * p + a).toInt = 24 + 2 * p.toInt + a.toInt := by
  have l24 : (24 : Int32).toInt = 24 := by decide
  have m2 : (2 * p).toInt = 2 * p.toInt := imulc (by decide) (by omega) (by omega)
  have m24 : (24 + 2 * p).toInt = 24 + 2 * p.toInt := by rw [iadd_toInt] <;> omega
  rw [iadd_toInt] <;> omega
noncomputable def sO (σ : gS) (p : Nat) : Nat := (σ.1 16 (12 + p)).toInt.toNat
noncomputable def cO (σ : gS) (p : Nat) : Int := (σ.1 18 (12 + p)).toInt
noncomputable def tP (σ : gS) (a : Int32) (r : Nat) : Int32 := σ.1 28 (38 * a.toInt.toNat + (12 + qO σ r)) - tO σ r a
noncomputable def cT (σ : gS) (p : Nat) (a : Int32) : Int32 := σ.1 28 (38 * a.toInt.toNat + (32 + sO σ p)) + 100 * σ.1 19 (24 + (2 * p + a.toInt.toNat))
noncomputable def tD (σ : gS) (a : Int32) (p : Nat) : Int32 := σ.1 28 (38 * a.toInt.toNat + p) - 100 * σ.1 19 (24 + (2 * p + a.toInt.toNat))
noncomputable def uD (σ : gS) (s : Nat) (p : Nat) : Bool := decide (sO σ p = s)
noncomputable def nP (σ : gS) (p : Nat) (a : Int32) : Int := nw (sW (σ.1 15 9).toInt.toNat (uP σ p) (wO σ) + cO σ p) (sS (σ.1 15 9).toInt.toNat (uP σ p) (wO σ) (fun r => (tP σ a r).toInt) + cO σ p * (cT σ p a).toInt) (σ.1 28 (38 * a.toInt.toNat + p)).toInt
noncomputable def nD (σ : gS) (s : Nat) (a : Int32) : Int := nw (sW (σ.1 15 7).toInt.toNat (uD σ s) (cO σ)) (sS (σ.1 15 7).toInt.toNat (uD σ s) (cO σ) (fun p => (tD σ a p).toInt)) (σ.1 28 (38 * a.toInt.toNat + (32 + s))).toInt
theorem wf_pic {σ : gS} (h : WF σ) {p : Int32} (p0 : 0 ≤ p.toInt) (p1 : p.toInt < (σ.1 15 7).toInt) : fX10_strip σ p = some (σ.1 16 (12 + p.toInt.toNat)) ∧ fX10_centreOf σ p = some (σ.1 18 (12 + p.toInt.toNat)) ∧ p.toInt ≤ 11 := by
  have l12 : (12 : Int32).toInt = 12 := by decide
  obtain ⟨⟨-, -, b7, -⟩, -⟩ := h
  have e : (12 + p).toNatClampNeg = 12 + p.toInt.toNat := n_add (k := 12) (by decide) p0 (by omega)
  have e2 : (12 + p).toInt = 12 + p.toInt := by rw [iadd_toInt] <;> omega
  have g := gb_of (i := 12 + p) (n := 24) (by omega) (by omega)
  refine ⟨?_, ?_, by omega⟩
  · unfold fX10_strip
    rw [q_gd g, nm_eq, e]
  · unfold fX10_centreOf
    rw [q_gd g, nm_eq, e]
theorem i_le0 {x : Int32} (h : x.toInt ≤ 0) : x ≤ 0 := q_le (by rw [z0]; exact h)
set_option maxHeartbeats 1000000 in
theorem m_pictureR {σ : gS} (h : WF σ) {q a : Int32} (q0 : 0 ≤ q.toInt) (q1 : q.toInt < (σ.1 15 7).toInt) (a0 : 0 ≤ a.toInt) (a1 : a.toInt ≤ 1) : Ok (fX10_isPictureAltered σ q a) (MV σ (38 * a.toInt.toNat + q.toInt.toNat) (nP σ q.toInt.toNat a)) := by
  obtain ⟨σ2, e0, g0⟩ := GA_0 σ
  have l12 : (12 : Int32).toInt = 12 := by decide
  have l32 : (32 : Int32).toInt = 32 := by decide
  have z0' := z0
  obtain ⟨b9, b8, b7, b6⟩ := h.1
  have C := h.2.2 q.toInt.toNat (by omega)
  have ei := ix_38 (a := a) (x := q) a0 a1 rfl q0 (by omega)
  have en : (38 * a + q).toInt.toNat = 38 * a.toInt.toNat + q.toInt.toNat := by omega
  unfold fX10_isPictureAltered
  rw [q_bd e0, nm_eq]
  refine ok_lpc (I := fun (n : Nat) (s : Int32 × gS) => n = ((σ.1 15 9).toInt - s.1.toInt).toNat ∧ 0 ≤ s.1.toInt ∧ s.1.toInt ≤ (σ.1 15 9).toInt ∧ GA σ (sW s.1.toInt.toNat (uP σ q.toInt.toNat) (wO σ)) (sS s.1.toInt.toNat (uP σ q.toInt.toNat) (wO σ) (fun r => (tP σ a r).toInt)) s.2) (fun rec n s hs hrec => ?_) K9 (σ.1 15 9).toInt.toNat (0, σ2) ⟨by dsimp only; omega, by dsimp only; omega, by dsimp only; omega, g0⟩ (by unfold K9; omega)
  obtain ⟨k, τ⟩ := s
  obtain ⟨hn, k0, k1, g⟩ := hs
  dsimp only at hn k0 k1 g ⊢
  have sw := sW_in' (u := uP σ q.toInt.toNat) h (n := k.toInt.toNat) (by omega)
  have ss := sS_in' (u := uP σ q.toInt.toNat) (t := fun r => tP σ a r) h (n := k.toInt.toNat) (by omega)
  have hτ := GA_wf h g
  have er : τ.1 15 9 = σ.1 15 9 := by rw [g.1 15 (by decide)]
  have ep : τ.1 15 7 = σ.1 15 7 := by rw [g.1 15 (by decide)]
  unfold bX10_isPictureAltered_6
  rw [q_bd (m_rows τ), er]
  refine ok_ite.mpr ⟨fun hk => ?_, fun hk => ?_⟩
  · have : k.toInt.toNat = (σ.1 15 9).toInt.toNat := by have := Int32.le_iff_toInt_le.mp hk; omega
    rw [this] at sw ss g
    obtain ⟨w1, w2, p11⟩ := wf_pic hτ (p := q) q0 (by rw [ep]; exact q1)
    rw [q_bd w2, g.1 18 (by decide)]
    refine ok_ite.mpr ⟨fun hc => ?_, fun hc => ?_⟩
    · have hc0 : cO σ q.toInt.toNat = 0 := by have := Int32.le_iff_toInt_le.mp hc; unfold cO; omega
      obtain ⟨o, o1, o2, o3⟩ := GA_end g (i := 38 * a + q) (by omega) (by omega) sw.1 (by omega) ss.1 ss.2
      unfold jX10_isPictureAltered_124
      rw [q_bd2 o1, o2]
      rw [en] at o3
      refine ok_some.mpr ?_
      unfold nP
      rw [hc0, Int.zero_mul, Int.add_zero, Int.add_zero]
      exact o3
    · have e32 := ix_38b (a := a) (x := 32) (y := σ.1 16 (12 + q.toInt.toNat)) a0 a1 l32 (by decide) (by decide) rfl C.1.1 (by omega)
      have n32 : (38 * a + 32 + σ.1 16 (12 + q.toInt.toNat)).toNatClampNeg = 38 * a.toInt.toNat + (32 + sO σ q.toInt.toNat) := by rw [n_toInt]; unfold sO; omega
      have e24 := ix_24 q0 p11 a0 a1
      have n24 : (24 + 2 * q + a).toNatClampNeg = 24 + (2 * q.toInt.toNat + a.toInt.toNat) := by rw [n_toInt]; omega
      obtain ⟨ρ, m1, m2⟩ := GA_add (t := cT σ q.toInt.toNat a) g (w := σ.1 18 (12 + q.toInt.toNat)) (by omega) (by omega) sw.1 (by omega) ss.1 ss.2
      have hw : 0 ≤ (σ.1 18 (12 + q.toInt.toNat)).toInt ∧ (σ.1 18 (12 + q.toInt.toNat)).toInt ≤ 9 := C.2.1
      have tl := Int.mul_le_mul_of_nonneg_left (Int32.le_toInt (cT σ q.toInt.toNat a)) hw.1
      have th := Int.mul_le_mul_of_nonneg_left (i32_hi (cT σ q.toInt.toNat a)) hw.1
      obtain ⟨o, o1, o2, o3⟩ := GA_end m2 (i := 38 * a + q) (by omega) (by omega) (by omega) (by omega) (by omega) (by omega)
      rw [q_bd w2, g.1 18 (by decide), q_bd w1, g.1 16 (by decide), q_gd (gb_of (by omega) (by omega)), nm_eq, q_gd (gb_of (by omega) (by omega)), nm_eq, n32, n24, g.1 28 (by decide), g.1 19 (by decide)]
      have m1' : fX10_mean τ (σ.1 18 (12 + q.toInt.toNat)) (σ.1 28 (38 * a.toInt.toNat + (32 + sO σ q.toInt.toNat)) + 100 * σ.1 19 (24 + (2 * q.toInt.toNat + a.toInt.toNat))) = some ρ := m1
      rw [q_bd m1']
      unfold jX10_isPictureAltered_124
      rw [q_bd2 o1, o2]
      rw [en] at o3
      exact ok_some.mpr o3
  · have hlt := q_gt hk
    have e1 := i_inc (a := k) (c := 60) (by omega) (by omega) (by decide)
    have ek : (k + 1).toInt.toNat = k.toInt.toNat + 1 := by omega
    obtain ⟨w1, w2, w3, r59⟩ := wf_row hτ (r := k) k0 (by rw [er]; exact hlt)
    have R := h.2.1 k.toInt.toNat (by omega)
    have skip : uP σ q.toInt.toNat k.toInt.toNat = false → Ok (nm (k + 1 : Int32) fun x => rec (x, τ)) (MV σ (38 * a.toInt.toNat + q.toInt.toNat) (nP σ q.toInt.toNat a)) := fun hu => by
      rw [nm_eq]
      refine hrec ((σ.1 15 9).toInt - (k + 1).toInt).toNat (k + 1, τ) (by omega) ⟨rfl, by dsimp only; omega, by dsimp only; omega, ?_⟩
      dsimp only
      rw [ek]
      unfold sW sS
      rw [if_neg (by rw [hu]; decide), if_neg (by rw [hu]; decide), Int.add_zero, Int.add_zero]
      exact g
    refine ok_gd.mpr ⟨gb_of (by omega) (by omega), ?_⟩
    rw [nm_eq, n_toInt, g.1 26 (by decide)]
    refine ok_ite.mpr ⟨fun hd => ?_, fun hd => skip (decide_eq_false (fun z => hd z.1))⟩
    rw [q_bd w1, g.1 22 (by decide)]
    refine ok_ite.mpr ⟨fun hq => ?_, fun hq => skip (decide_eq_false (fun z => hq (Int32.toInt_inj.mp (by have := z.2; unfold pO at this; omega))))⟩
    have e12 := ix_38b (a := a) (x := 12) (y := σ.1 23 (60 + k.toInt.toNat)) a0 a1 l12 (by decide) (by decide) rfl R.2.1.1 (by omega)
    have n12 : (38 * a + 12 + σ.1 23 (60 + k.toInt.toNat)).toNatClampNeg = 38 * a.toInt.toNat + (12 + qO σ k.toInt.toNat) := by rw [n_toInt]; unfold qO; omega
    obtain ⟨ρ, m1, m2⟩ := GA_add (t := tP σ a k.toInt.toNat) g (w := σ.1 25 (60 + k.toInt.toNat)) (by omega) (by omega) sw.1 (by omega) ss.1 ss.2
    have m1' : fX10_mean τ (σ.1 25 (60 + k.toInt.toNat)) (σ.1 28 (38 * a.toInt.toNat + (12 + qO σ k.toInt.toNat)) - tO σ k.toInt.toNat a) = some ρ := m1
    rw [q_bd w3, g.1 25 (by decide), q_bd w2, g.1 23 (by decide), q_gd (gb_of (by omega) (by omega)), nm_eq, n12, g.1 28 (by decide), q_bd (wf_turned hτ k0 (by rw [er]; exact hlt) a0 a1), GA_tO g, q_bd m1', nm_eq]
    refine hrec ((σ.1 15 9).toInt - (k + 1).toInt).toNat (k + 1, ρ) (by omega) ⟨rfl, by dsimp only; omega, by dsimp only; omega, ?_⟩
    dsimp only
    rw [ek]
    unfold sW sS
    have hu : uP σ q.toInt.toNat k.toInt.toNat = true := decide_eq_true ⟨hd, by unfold pO; rw [hq]⟩
    rw [if_pos hu, if_pos hu]
    exact m2
theorem c_w {σ : gS} (h : WF σ) {n : Nat} (hn : (n : Int) ≤ (σ.1 15 7).toInt) : ∀ r, r < n → 0 ≤ cO σ r ∧ cO σ r ≤ 9 := fun r hr => (h.2.2 r (by omega)).2.1
set_option maxHeartbeats 1000000 in
theorem m_driftR {σ : gS} (h : WF σ) {q a : Int32} (q0 : 0 ≤ q.toInt) (q1 : q.toInt < (σ.1 15 6).toInt) (a0 : 0 ≤ a.toInt) (a1 : a.toInt ≤ 1) : Ok (fX10_isDriftAltered σ q a) (MV σ (38 * a.toInt.toNat + (32 + q.toInt.toNat)) (nD σ q.toInt.toNat a)) := by
  obtain ⟨σ2, e0, g0⟩ := GA_0 σ
  have l32 : (32 : Int32).toInt = 32 := by decide
  have z0' := z0
  obtain ⟨b9, b8, b7, b6⟩ := h.1
  have ei := ix_38b (a := a) (x := 32) (y := q) a0 a1 l32 (by decide) (by decide) rfl q0 (by omega)
  have en : (38 * a + 32 + q).toInt.toNat = 38 * a.toInt.toNat + (32 + q.toInt.toNat) := by omega
  unfold fX10_isDriftAltered
  rw [q_bd e0, nm_eq]
  refine ok_lpc (I := fun (n : Nat) (s : Int32 × gS) => n = ((σ.1 15 7).toInt - s.1.toInt).toNat ∧ 0 ≤ s.1.toInt ∧ s.1.toInt ≤ (σ.1 15 7).toInt ∧ GA σ (sW s.1.toInt.toNat (uD σ q.toInt.toNat) (cO σ)) (sS s.1.toInt.toNat (uD σ q.toInt.toNat) (cO σ) (fun r => (tD σ a r).toInt)) s.2) (fun rec n s hs hrec => ?_) K9 (σ.1 15 7).toInt.toNat (0, σ2) ⟨by dsimp only; omega, by dsimp only; omega, by dsimp only; omega, g0⟩ (by unfold K9; omega)
  obtain ⟨k, τ⟩ := s
  obtain ⟨hn, k0, k1, g⟩ := hs
  dsimp only at hn k0 k1 g ⊢
  have sw := sW_in (u := uD σ q.toInt.toNat) (w := cO σ) k.toInt.toNat (fun r hr _ => c_w h (n := k.toInt.toNat) (by omega) r hr)
  have ss := sS_in (u := uD σ q.toInt.toNat) (w := cO σ) (t := fun r => (tD σ a r).toInt) k.toInt.toNat (fun r hr _ => ⟨c_w h (n := k.toInt.toNat) (by omega) r hr, Int32.le_toInt _, i32_hi _⟩)
  have hτ := GA_wf h g
  have ep : τ.1 15 7 = σ.1 15 7 := by rw [g.1 15 (by decide)]
  unfold bX10_isDriftAltered_6
  rw [q_bd (m_pictures τ), ep]
  refine ok_ite.mpr ⟨fun hk => ?_, fun hk => ?_⟩
  · have : k.toInt.toNat = (σ.1 15 7).toInt.toNat := by have := Int32.le_iff_toInt_le.mp hk; omega
    rw [this] at sw ss g
    obtain ⟨o, o1, o2, o3⟩ := GA_end g (i := 38 * a + 32 + q) (by omega) (by omega) sw.1 (by omega) ss.1 ss.2
    rw [q_bd2 o1, o2]
    rw [en] at o3
    exact ok_some.mpr o3
  · have hlt := q_gt hk
    have e1 := i_inc (a := k) (c := 60) (by omega) (by omega) (by decide)
    have ek : (k + 1).toInt.toNat = k.toInt.toNat + 1 := by omega
    obtain ⟨w1, w2, p11⟩ := wf_pic hτ (p := k) k0 (by rw [ep]; exact hlt)
    have C := h.2.2 k.toInt.toNat (by omega)
    have skip : uD σ q.toInt.toNat k.toInt.toNat = false ∨ cO σ k.toInt.toNat = 0 → Ok (nm (k + 1 : Int32) fun x => rec (x, τ)) (MV σ (38 * a.toInt.toNat + (32 + q.toInt.toNat)) (nD σ q.toInt.toNat a)) := fun hu => by
      rw [nm_eq]
      refine hrec ((σ.1 15 7).toInt - (k + 1).toInt).toNat (k + 1, τ) (by omega) ⟨rfl, by dsimp only; omega, by dsimp only; omega, ?_⟩
      dsimp only
      rw [ek]
      unfold sW sS
      rcases hu with hu | hu
      · rw [if_neg (by rw [hu]; decide), if_neg (by rw [hu]; decide), Int.add_zero, Int.add_zero]
        exact g
      · rw [hu, Int.zero_mul, ite_self, Int.add_zero, Int.add_zero]
        exact g
    rw [q_bd w1, g.1 16 (by decide)]
    refine ok_ite.mpr ⟨fun hq => ?_, fun hq => skip (.inl (decide_eq_false (fun z => hq (Int32.toInt_inj.mp (by unfold sO at z; omega)))))⟩
    rw [q_bd w2, g.1 18 (by decide)]
    refine ok_ite.mpr ⟨fun hc => skip (.inr (by have := Int32.le_iff_toInt_le.mp hc; unfold cO; omega)), fun hc => ?_⟩
    have e38 := ix_38 (a := a) (x := k) a0 a1 rfl k0 (by omega)
    have n38 : (38 * a + k).toNatClampNeg = 38 * a.toInt.toNat + k.toInt.toNat := by rw [n_toInt]; omega
    have e24 := ix_24 k0 p11 a0 a1
    have n24 : (24 + 2 * k + a).toNatClampNeg = 24 + (2 * k.toInt.toNat + a.toInt.toNat) := by rw [n_toInt]; omega
    obtain ⟨ρ, m1, m2⟩ := GA_add (t := tD σ a k.toInt.toNat) g (w := σ.1 18 (12 + k.toInt.toNat)) (by omega) (by omega) sw.1 (by omega) ss.1 ss.2
    have m1' : fX10_mean τ (σ.1 18 (12 + k.toInt.toNat)) (σ.1 28 (38 * a.toInt.toNat + k.toInt.toNat) - 100 * σ.1 19 (24 + (2 * k.toInt.toNat + a.toInt.toNat))) = some ρ := m1
    rw [q_bd w2, g.1 18 (by decide), q_gd (gb_of (by omega) (by omega)), nm_eq, q_gd (gb_of (by omega) (by omega)), nm_eq, n38, n24, g.1 28 (by decide), g.1 19 (by decide), q_bd m1', nm_eq]
    refine hrec ((σ.1 15 7).toInt - (k + 1).toInt).toNat (k + 1, ρ) (by omega) ⟨rfl, by dsimp only; omega, by dsimp only; omega, ?_⟩
    dsimp only
    rw [ek]
    unfold sW sS
    have hu : uD σ q.toInt.toNat k.toInt.toNat = true := decide_eq_true (by unfold sO; rw [hq])
    rw [if_pos hu, if_pos hu]
    exact m2
end P12L
