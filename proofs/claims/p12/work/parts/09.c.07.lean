/-! comes through, m 7 -/
theorem o_fX10_tiePoints {σ : gS} (hIσ : JM σ) {p1 : Int32} {p2 : Int32}  : Ok (fX10_tiePoints σ p1 p2) (fun out => 0 ≤ out.toInt ∧ out.toInt ≤ 20 ∧ (0 < out.toInt → SP σ p1 p2)) := by
  have hn := (JM_n hIσ).2.1
  unfold fX10_tiePoints
  refine ok_nm.mpr (ok_nm.mpr (ok_lpc (I := fun (n : Nat) (s : Int32 × Int32) => n = (20 - s.2.toInt).toNat ∧ 0 ≤ s.2.toInt ∧ s.2.toInt ≤ 20 ∧ 0 ≤ s.1.toInt ∧ s.1.toInt ≤ s.2.toInt ∧ (0 < s.1.toInt → SP σ p1 p2)) (fun rec n s hs hrec => ?_) K9 20 (0, 0) ⟨by first | decide | (dsimp only; decide), by first | decide | (dsimp only; decide), by first | decide | (dsimp only; decide), by first | decide | (dsimp only; decide), by first | decide | (dsimp only; decide), fun z => absurd z (by first | decide | (dsimp only; decide))⟩ (by unfold K9; decide)))
  obtain ⟨k, q⟩ := s
  obtain ⟨hn', h0, h1, h2, h3, h4⟩ := hs
  dsimp only at hn' h0 h1 h2 h3 h4 ⊢
  unfold bX10_tiePoints_5
  refine ok_bde (m_points σ) (ok_ite.mpr ⟨fun h => ok_some.mpr ⟨h2, by omega, h4⟩, fun h => ?_⟩)
  have hq : q.toInt < (σ.1 15 8).toInt := by
    have := q_gt h
    omega
  have e1 : (q + 1).toInt = q.toInt + 1 := i_inc (by omega) h1 (by decide)
  have e2 : (k + 1).toInt = k.toInt + 1 := i_inc (c := 20) (by omega) (by omega) (by decide)
  have next : ∀ k' : Int32, 0 ≤ k'.toInt → k'.toInt ≤ q.toInt + 1 → (0 < k'.toInt → SP σ p1 p2) → Ok (rec (k', q + 1)) (fun out => 0 ≤ out.toInt ∧ out.toInt ≤ 20 ∧ (0 < out.toInt → SP σ p1 p2)) := fun k' a b c => hrec (20 - (q + 1).toInt).toNat (k', q + 1) (by omega) ⟨rfl, show 0 ≤ (q + 1).toInt by omega, show (q + 1).toInt ≤ 20 by omega, a, show k'.toInt ≤ (q + 1).toInt by omega, c⟩
  refine ok_bde (m_rowOf hIσ p1 q) (ok_ite.mpr ⟨fun _ => next k h2 (by omega) h4, fun c1 => ?_⟩)
  refine ok_bde (m_rowOf hIσ p2 q) (ok_ite.mpr ⟨fun _ => next k h2 (by omega) h4, fun c2 => ?_⟩)
  exact next (k + 1) (by omega) (by omega) (fun _ => ⟨q, h0, hq, c1, c2⟩)
theorem o_fX10_step {σ : gS} (hIσ : JM σ) {p1 : Int32} {p2 : Int32} {p3 : Int32} (h0p3 : 0 ≤ p3.toInt) (h1p3 : p3.toInt ≤ 1) (pre0 : SP σ p1 p2) : Ok (fX10_step σ p1 p2 p3) (fun _ => True) := by
  have hn := (JM_n hIσ).2.1
  obtain ⟨q0, k0, k1, k2, k3⟩ := pre0
  unfold fX10_step
  refine ok_nm.mpr (ok_nm.mpr (ok_nm.mpr (ok_lpc (I := fun (n : Nat) (s : Int32 × Int64 × Int32) => n = (20 - s.2.2.toInt).toNat ∧ 0 ≤ s.2.2.toInt ∧ s.2.2.toInt ≤ 20 ∧ 0 ≤ s.1.toInt ∧ s.1.toInt ≤ s.2.2.toInt ∧ (q0.toInt < s.2.2.toInt → 0 < s.1.toInt)) (fun rec n s hs hrec => ?_) K9 20 (0, 0, 0) ⟨by first | decide | (dsimp only; decide), by first | decide | (dsimp only; decide), by first | decide | (dsimp only; decide), by first | decide | (dsimp only; decide), by first | decide | (dsimp only; decide), fun z => absurd (show q0.toInt < (0 : Int32).toInt from z) (by have := z0; omega)⟩ (by unfold K9; decide))))
  obtain ⟨k, v, q⟩ := s
  obtain ⟨hn', h0, h1, h2, h3, h4⟩ := hs
  dsimp only at hn' h0 h1 h2 h3 h4 ⊢
  unfold bX10_step_9
  have e2 : (k + 1).toInt = k.toInt + 1 := i_inc (c := 20) (by omega) (by omega) (by decide)
  refine ok_bde (m_points σ) (ok_ite.mpr ⟨fun h => ?_, fun h => ?_⟩)
  · have hq := Int32.le_iff_toInt_le.mp h
    have hk : 0 < k.toInt := h4 (by omega)
    have hg : decide (¬ k.toInt64 = 0) = true := decide_eq_true (fun z => by
      have e : k.toInt64.toInt = k.toInt := Int32.toInt_toInt64 _
      rw [z] at e
      have : (0 : Int64).toInt = 0 := by decide
      omega)
    exact ok_gd.mpr ⟨hg, ok_nm.mpr (ok_gd.mpr ⟨hg, ok_ite.mpr ⟨fun _ => ok_some.mpr trivial, fun _ => ok_some.mpr trivial⟩⟩)⟩
  · have hq : q.toInt < (σ.1 15 8).toInt := by
      have := q_gt h
      omega
    have e1 : (q + 1).toInt = q.toInt + 1 := i_inc (by omega) h1 (by decide)
    have next : ∀ (k' : Int32) (v' : Int64), 0 ≤ k'.toInt → k'.toInt ≤ q.toInt + 1 → (q0.toInt < q.toInt + 1 → 0 < k'.toInt) → Ok (rec (k', v', q + 1)) (fun _ => True) := fun k' v' a b c => hrec (20 - (q + 1).toInt).toNat (k', v', q + 1) (by omega) ⟨rfl, show 0 ≤ (q + 1).toInt by omega, show (q + 1).toInt ≤ 20 by omega, a, show k'.toInt ≤ (q + 1).toInt by omega, fun z => c (by dsimp only at z; omega)⟩
    have skip : q ≠ q0 → ∀ v', Ok (rec (k, v', q + 1)) (fun _ => True) := fun hne v' => next k v' h2 (by omega) (fun z => h4 (by
      have : q.toInt ≠ q0.toInt := fun y => hne (Int32.toInt_inj.mp y)
      omega))
    refine ok_bde (m_rowOf hIσ p1 q) (ok_nm.mpr (ok_bde (m_rowOf hIσ p2 q) (ok_nm.mpr (ok_ite.mpr ⟨fun c => ok_nm.mpr (skip (fun e => k2 (by rw [← e]; exact c)) v), fun c1 => ok_ite.mpr ⟨fun c => ok_nm.mpr (skip (fun e => k3 (by rw [← e]; exact c)) v), fun c2 => ?_⟩⟩))))
    have r1 := RO_ok hIσ c1
    have r2 := RO_ok hIσ c2
    refine ok_bd.mpr ((o_fX10_turned hIσ (p2 := p3) r1.1 r1.2 h0p3 h1p3).mono (fun x1 _ => ?_))
    refine ok_bd.mpr ((o_fX10_turned hIσ (p2 := p3) r2.1 r2.2 h0p3 h1p3).mono (fun x2 _ => ?_))
    exact ok_nm.mpr (ok_nm.mpr (ok_nm.mpr (next (k + 1) _ (by omega) (by omega) (fun _ => by omega))))
set_option maxRecDepth 20000 in
set_option maxHeartbeats 2000000 in
theorem o_fX10_tie {σ : gS} (hIσ : JM σ) {p1 : Int32} {p2 : Int32} {p3 : Int32}  : Ok (fX10_tie σ p1 p2 p3) (fun _ => True) := by
  unfold fX10_tie
  refine ok_bd.mpr ((o_fX10_areTwo hIσ (p1 := p1) (p2 := p2) ).mono (fun r2 ho_2 => ?_))
  obtain ⟨r0r2, r1r2⟩ := ho_2
  refine ok_ite.mpr ⟨fun h_3 => ?_, fun h_3 => ?_⟩
  · have f4 : (0 : Int32).toInt = 0 := by decide
    have g5 : r2.toInt = (0 : Int32).toInt := by rw [h_3]
    refine ok_some.mpr ?_
    have f6 : (-1000000000 : Int32).toInt = -1000000000 := by decide
    exact trivial
  · have f7 : (0 : Int32).toInt = 0 := by decide
    have g8 : r2.toInt ≠ (0 : Int32).toInt := fun z => h_3 (Int32.toInt_inj.mp z)
    refine ok_bd.mpr ?_
    try unfold fX10_isIn
    refine ok_ite.mpr ⟨fun h_9 => ?_, fun h_9 => ?_⟩
    · have f10 : p3.toInt64.toInt = p3.toInt := Int32.toInt_toInt64 _
      have f11 : (0 : Int64).toInt = 0 := by decide
      have g12 : p3.toInt64.toInt < (0 : Int64).toInt := Int64.lt_iff_toInt_lt.mp h_9
      refine ok_some.mpr ?_
      refine ok_ite.mpr ⟨fun h_13 => ?_, fun h_13 => ?_⟩
      · have g14 : (0 : Int32).toInt = (0 : Int32).toInt := by rw [h_13]
        refine ok_some.mpr ?_
        have f15 : (-1000000000 : Int32).toInt = -1000000000 := by decide
        exact trivial
      · have g16 : (0 : Int32).toInt ≠ (0 : Int32).toInt := fun z => h_13 (Int32.toInt_inj.mp z)
        exfalso
        omega
    · have f17 : p3.toInt64.toInt = p3.toInt := Int32.toInt_toInt64 _
      have f18 : (0 : Int64).toInt = 0 := by decide
      have g19 : ¬ p3.toInt64.toInt < (0 : Int64).toInt := fun z => h_9 (Int64.lt_iff_toInt_lt.mpr z)
      refine ok_ite.mpr ⟨fun h_20 => ?_, fun h_20 => ?_⟩
      · have f21 : (2 : Int64).toInt = 2 := by decide
        have g22 : (2 : Int64).toInt < p3.toInt64.toInt := Int64.lt_iff_toInt_lt.mp h_20
        refine ok_some.mpr ?_
        refine ok_ite.mpr ⟨fun h_23 => ?_, fun h_23 => ?_⟩
        · have g24 : (0 : Int32).toInt = (0 : Int32).toInt := by rw [h_23]
          refine ok_some.mpr ?_
          have f25 : (-1000000000 : Int32).toInt = -1000000000 := by decide
          exact trivial
        · have g26 : (0 : Int32).toInt ≠ (0 : Int32).toInt := fun z => h_23 (Int32.toInt_inj.mp z)
          exfalso
          omega
      · have f27 : (2 : Int64).toInt = 2 := by decide
        have g28 : ¬ (2 : Int64).toInt < p3.toInt64.toInt := fun z => h_20 (Int64.lt_iff_toInt_lt.mpr z)
        refine ok_some.mpr ?_
        refine ok_ite.mpr ⟨fun h_29 => ?_, fun h_29 => ?_⟩
        · have f30 : (1 : Int32).toInt = 1 := by decide
          have g31 : (1 : Int32).toInt = (0 : Int32).toInt := by rw [h_29]
          exfalso
          omega
        · have f32 : (1 : Int32).toInt = 1 := by decide
          have g33 : (1 : Int32).toInt ≠ (0 : Int32).toInt := fun z => h_29 (Int32.toInt_inj.mp z)
          refine ok_bd.mpr ((o_fX10_tiePoints hIσ (p1 := p1) (p2 := p2) ).mono (fun r8_4 ho_35 => ?_))
          obtain ⟨r0r8_4, r1r8_4, hp_36⟩ := ho_35
          refine ok_nm.mpr ?_
          refine ok_ite.mpr ⟨fun h_37 => ?_, fun h_37 => ?_⟩
          · have g38 : p3.toInt = (0 : Int32).toInt := by rw [h_37]
            refine ok_some.mpr ?_
            exact trivial
          · have g39 : p3.toInt ≠ (0 : Int32).toInt := fun z => h_37 (Int32.toInt_inj.mp z)
            refine ok_ite.mpr ⟨fun h_40 => ?_, fun h_40 => ?_⟩
            · have g41 : r8_4.toInt = (0 : Int32).toInt := by rw [h_40]
              refine ok_some.mpr ?_
              have f42 : (-1000000000 : Int32).toInt = -1000000000 := by decide
              exact trivial
            · have g43 : r8_4.toInt ≠ (0 : Int32).toInt := fun z => h_40 (Int32.toInt_inj.mp z)
              have f44 : (p3 - (1 : Int32)).toInt = p3.toInt - (1 : Int32).toInt := isub_toInt (by omega) (by omega)
              refine ok_bd.mpr ((o_fX10_step hIσ (p1 := p1) (p2 := p2) (p3 := (p3 - 1)) (by omega) (by omega) (by first | assumption | exact hp_36 (by omega))).mono (fun r13_4_5 ho_46 => ?_))
              refine ok_some.mpr ?_
              exact trivial
theorem o_fX10_isLoop {σ : gS} (hIσ : JM σ) {p1 : Int32} {p2 : Int32} {p3 : Int32}  : Ok (fX10_isLoop σ p1 p2 p3) (fun out => 0 ≤ out.toInt ∧ out.toInt ≤ 1 ∧ (out.toInt ≠ 0 → SP σ p1 p2 ∧ SP σ p2 p3 ∧ SP σ p3 p1)) := by
  have no : Ok (some (0 : Int32)) (fun out => 0 ≤ out.toInt ∧ out.toInt ≤ 1 ∧ (out.toInt ≠ 0 → SP σ p1 p2 ∧ SP σ p2 p3 ∧ SP σ p3 p1)) := ok_some.mpr ⟨by decide, by decide, fun z => absurd (by decide) z⟩
  have ps : ∀ w : Int32, ¬ w ≤ 0 → 0 < w.toInt := fun w h => by
    have l0 : (0 : Int32).toInt = 0 := by decide
    have := q_gt h
    omega
  unfold fX10_isLoop
  refine ok_bd.mpr ((o_fX10_areTwo hIσ (p1 := p1) (p2 := p2)).mono (fun a1 _ => ok_ite.mpr ⟨fun _ => no, fun _ => ?_⟩))
  refine ok_bd.mpr ((o_fX10_areTwo hIσ (p1 := p2) (p2 := p3)).mono (fun a1 _ => ok_ite.mpr ⟨fun _ => no, fun _ => ?_⟩))
  refine ok_bd.mpr ((o_fX10_areTwo hIσ (p1 := p3) (p2 := p1)).mono (fun a1 _ => ok_ite.mpr ⟨fun _ => no, fun _ => ?_⟩))
  refine ok_bd.mpr ((o_fX10_tiePoints hIσ (p1 := p1) (p2 := p2)).mono (fun w1 k1 => ok_ite.mpr ⟨fun _ => no, fun c1 => ?_⟩))
  refine ok_bd.mpr ((o_fX10_tiePoints hIσ (p1 := p2) (p2 := p3)).mono (fun w2 k2 => ok_ite.mpr ⟨fun _ => no, fun c2 => ?_⟩))
  refine ok_bd.mpr ((o_fX10_tiePoints hIσ (p1 := p3) (p2 := p1)).mono (fun w3 k3 => ok_ite.mpr ⟨fun _ => no, fun c3 => ?_⟩))
  exact ok_some.mpr ⟨by decide, by decide, fun _ => ⟨k1.2.2 (ps _ c1), k2.2.2 (ps _ c2), k3.2.2 (ps _ c3)⟩⟩
theorem o_fX10_loopOf {σ : gS} (hIσ : JM σ) {p1 : Int32} {p2 : Int32} {p3 : Int32} {p4 : Int32} (h0p4 : 0 ≤ p4.toInt) (h1p4 : p4.toInt ≤ 1) (pre0 : SP σ p1 p2 ∧ SP σ p2 p3 ∧ SP σ p3 p1) : Ok (fX10_loopOf σ p1 p2 p3 p4) (fun _ => True) := by
  obtain ⟨s1, s2, s3⟩ := pre0
  unfold fX10_loopOf
  refine ok_bd.mpr ((o_fX10_step hIσ (p1 := p1) (p2 := p2) (p3 := p4) h0p4 h1p4 s1).mono (fun a1 _ => ?_))
  refine ok_bd.mpr ((o_fX10_step hIσ (p1 := p2) (p2 := p3) (p3 := p4) h0p4 h1p4 s2).mono (fun a2 _ => ?_))
  refine ok_bd.mpr ((o_fX10_step hIσ (p1 := p3) (p2 := p1) (p3 := p4) h0p4 h1p4 s3).mono (fun a3 _ => ?_))
  exact ok_some.mpr trivial
set_option maxRecDepth 20000 in
set_option maxHeartbeats 2000000 in
theorem o_fX10_loop {σ : gS} (hIσ : JM σ) {p1 : Int32} {p2 : Int32} {p3 : Int32} {p4 : Int32}  : Ok (fX10_loop σ p1 p2 p3 p4) (fun _ => True) := by
  unfold fX10_loop
  refine ok_bd.mpr ?_
  try unfold fX10_isIn
  refine ok_ite.mpr ⟨fun h_1 => ?_, fun h_1 => ?_⟩
  · have f2 : p4.toInt64.toInt = p4.toInt := Int32.toInt_toInt64 _
    have f3 : (0 : Int64).toInt = 0 := by decide
    have g4 : p4.toInt64.toInt < (0 : Int64).toInt := Int64.lt_iff_toInt_lt.mp h_1
    refine ok_some.mpr ?_
    refine ok_ite.mpr ⟨fun h_5 => ?_, fun h_5 => ?_⟩
    · have f6 : (0 : Int32).toInt = 0 := by decide
      have g7 : (0 : Int32).toInt = (0 : Int32).toInt := by rw [h_5]
      refine ok_some.mpr ?_
      have f8 : (-1000000000 : Int32).toInt = -1000000000 := by decide
      exact trivial
    · have f9 : (0 : Int32).toInt = 0 := by decide
      have g10 : (0 : Int32).toInt ≠ (0 : Int32).toInt := fun z => h_5 (Int32.toInt_inj.mp z)
      exfalso
      omega
  · have f11 : p4.toInt64.toInt = p4.toInt := Int32.toInt_toInt64 _
    have f12 : (0 : Int64).toInt = 0 := by decide
    have g13 : ¬ p4.toInt64.toInt < (0 : Int64).toInt := fun z => h_1 (Int64.lt_iff_toInt_lt.mpr z)
    refine ok_ite.mpr ⟨fun h_14 => ?_, fun h_14 => ?_⟩
    · have f15 : (1 : Int64).toInt = 1 := by decide
      have g16 : (1 : Int64).toInt < p4.toInt64.toInt := Int64.lt_iff_toInt_lt.mp h_14
      refine ok_some.mpr ?_
      refine ok_ite.mpr ⟨fun h_17 => ?_, fun h_17 => ?_⟩
      · have f18 : (0 : Int32).toInt = 0 := by decide
        have g19 : (0 : Int32).toInt = (0 : Int32).toInt := by rw [h_17]
        refine ok_some.mpr ?_
        have f20 : (-1000000000 : Int32).toInt = -1000000000 := by decide
        exact trivial
      · have f21 : (0 : Int32).toInt = 0 := by decide
        have g22 : (0 : Int32).toInt ≠ (0 : Int32).toInt := fun z => h_17 (Int32.toInt_inj.mp z)
        exfalso
        omega
    · have f23 : (1 : Int64).toInt = 1 := by decide
      have g24 : ¬ (1 : Int64).toInt < p4.toInt64.toInt := fun z => h_14 (Int64.lt_iff_toInt_lt.mpr z)
      refine ok_some.mpr ?_
      refine ok_ite.mpr ⟨fun h_25 => ?_, fun h_25 => ?_⟩
      · have f26 : (1 : Int32).toInt = 1 := by decide
        have f27 : (0 : Int32).toInt = 0 := by decide
        have g28 : (1 : Int32).toInt = (0 : Int32).toInt := by rw [h_25]
        exfalso
        omega
      · have f29 : (1 : Int32).toInt = 1 := by decide
        have f30 : (0 : Int32).toInt = 0 := by decide
        have g31 : (1 : Int32).toInt ≠ (0 : Int32).toInt := fun z => h_25 (Int32.toInt_inj.mp z)
        refine ok_bd.mpr ((o_fX10_isLoop hIσ (p1 := p1) (p2 := p2) (p3 := p3) ).mono (fun r5_4 ho_33 => ?_))
        obtain ⟨r0r5_4, r1r5_4, hp_34⟩ := ho_33
        refine ok_ite.mpr ⟨fun h_35 => ?_, fun h_35 => ?_⟩
        · have g36 : r5_4.toInt = (0 : Int32).toInt := by rw [h_35]
          refine ok_some.mpr ?_
          have f37 : (-1000000000 : Int32).toInt = -1000000000 := by decide
          exact trivial
        · have g38 : r5_4.toInt ≠ (0 : Int32).toInt := fun z => h_35 (Int32.toInt_inj.mp z)
          refine ok_bd.mpr ((o_fX10_loopOf hIσ (p1 := p1) (p2 := p2) (p3 := p3) (p4 := p4) (by omega) (by omega) (by first | assumption | exact hp_34 (by omega))).mono (fun r8_4 ho_40 => ?_))
          refine ok_some.mpr ?_
          exact trivial
set_option maxRecDepth 20000 in
set_option maxHeartbeats 2000000 in
theorem o_fX10_gap {σ : gS} (hIσ : JM σ) {p1 : Int32}  : Ok (fX10_gap σ p1) (fun _ => True) := by
  unfold fX10_gap
  refine ok_bd.mpr ?_
  try unfold fX10_isIn
  refine ok_ite.mpr ⟨fun h_1 => ?_, fun h_1 => ?_⟩
  · have f2 : p1.toInt64.toInt = p1.toInt := Int32.toInt_toInt64 _
    have f3 : (0 : Int64).toInt = 0 := by decide
    have g4 : p1.toInt64.toInt < (0 : Int64).toInt := Int64.lt_iff_toInt_lt.mp h_1
    refine ok_some.mpr ?_
    refine ok_ite.mpr ⟨fun h_5 => ?_, fun h_5 => ?_⟩
    · have f6 : (0 : Int32).toInt = 0 := by decide
      have g7 : (0 : Int32).toInt = (0 : Int32).toInt := by rw [h_5]
      refine ok_some.mpr ?_
      have f8 : (-1 : Int32).toInt = -1 := by decide
      exact trivial
    · have f9 : (0 : Int32).toInt = 0 := by decide
      have g10 : (0 : Int32).toInt ≠ (0 : Int32).toInt := fun z => h_5 (Int32.toInt_inj.mp z)
      exfalso
      omega
  · have f11 : p1.toInt64.toInt = p1.toInt := Int32.toInt_toInt64 _
    have f12 : (0 : Int64).toInt = 0 := by decide
    have g13 : ¬ p1.toInt64.toInt < (0 : Int64).toInt := fun z => h_1 (Int64.lt_iff_toInt_lt.mpr z)
    refine ok_ite.mpr ⟨fun h_14 => ?_, fun h_14 => ?_⟩
    · have f15 : (1 : Int64).toInt = 1 := by decide
      have g16 : (1 : Int64).toInt < p1.toInt64.toInt := Int64.lt_iff_toInt_lt.mp h_14
      refine ok_some.mpr ?_
      refine ok_ite.mpr ⟨fun h_17 => ?_, fun h_17 => ?_⟩
      · have f18 : (0 : Int32).toInt = 0 := by decide
        have g19 : (0 : Int32).toInt = (0 : Int32).toInt := by rw [h_17]
        refine ok_some.mpr ?_
        have f20 : (-1 : Int32).toInt = -1 := by decide
        exact trivial
      · have f21 : (0 : Int32).toInt = 0 := by decide
        have g22 : (0 : Int32).toInt ≠ (0 : Int32).toInt := fun z => h_17 (Int32.toInt_inj.mp z)
        exfalso
        omega
    · have f23 : (1 : Int64).toInt = 1 := by decide
      have g24 : ¬ (1 : Int64).toInt < p1.toInt64.toInt := fun z => h_14 (Int64.lt_iff_toInt_lt.mpr z)
      refine ok_some.mpr ?_
      refine ok_ite.mpr ⟨fun h_25 => ?_, fun h_25 => ?_⟩
      · have f26 : (1 : Int32).toInt = 1 := by decide
        have f27 : (0 : Int32).toInt = 0 := by decide
        have g28 : (1 : Int32).toInt = (0 : Int32).toInt := by rw [h_25]
        exfalso
        omega
      · have f29 : (1 : Int32).toInt = 1 := by decide
        have f30 : (0 : Int32).toInt = 0 := by decide
        have g31 : (1 : Int32).toInt ≠ (0 : Int32).toInt := fun z => h_25 (Int32.toInt_inj.mp z)
        refine ok_nm2 (fun x4_4 ex4_4 => ?_)
        have f32 : (-1 : Int32).toInt = -1 := by decide
        have qx4_4 : x4_4.toInt = -1 := by rw [ex4_4]; decide
        refine ok_nm2 (fun x5_4 ex5_4 => ?_)
        have f33 : (-1 : Int64).toInt = -1 := by decide
        have qx5_4 : x5_4.toInt = (-1 : Int64).toInt := congrArg Int64.toInt ex5_4
        refine ok_nm2 (fun x6_4 ex6_4 => ?_)
        have qx6_4 : x6_4.toInt = 0 := by rw [ex6_4]; decide
        refine ok_lpc (I := fun n s => n = (12 + 1 - s.2.2.toInt).toNat ∧ -1 ≤ s.1.toInt ∧ s.1.toInt ≤ 100000000 ∧ 0 ≤ s.2.2.toInt ∧ s.2.2.toInt ≤ 12) (fun rec21_5r n_5 s_5 hs_5 hrec_5 => ?_) K9 ((12 + 1 - x6_4.toInt).toNat) (x4_4, x5_4, x6_4) ⟨rfl, (show -1 ≤ x4_4.toInt by omega), (show x4_4.toInt ≤ 100000000 by omega), (show 0 ≤ x6_4.toInt by omega), (show x6_4.toInt ≤ 12 by omega)⟩ (by unfold K9; omega)
        obtain ⟨a2_5, a3_5, a5_5⟩ := s_5
        obtain ⟨hn_5, b0a2_5, b1a2_5, b0a5_5, b1a5_5⟩ := hs_5
        dsimp only at hn_5 b0a2_5 b1a2_5 b0a5_5 b1a5_5
        unfold bX10_gap_21
        try dsimp only
        refine ok_bd.mpr ?_
        try unfold fX10_pictures
        have f34 : (7 : Int32).toInt = 7 := by decide
        refine ok_gd.mpr ⟨gb_of (by omega) (by omega), ?_⟩
        refine ok_nm2 (fun v1_692 ev1_692 => ?_)
        have f35 : 0 ≤ (σ.1 15 7).toInt ∧ (σ.1 15 7).toInt ≤ 12 := hIσ 15 7
        have qv1_692 : v1_692.toInt = (σ.1 15 7).toInt := congrArg Int32.toInt ev1_692
        refine ok_some.mpr ?_
        refine ok_ite.mpr ⟨fun h_36 => ?_, fun h_36 => ?_⟩
        · have g37 : v1_692.toInt ≤ a5_5.toInt := Int32.le_iff_toInt_le.mp h_36
          refine ok_ite.mpr ⟨fun h_38 => ?_, fun h_38 => ?_⟩
          · have g39 : p1.toInt = (0 : Int32).toInt := by rw [h_38]
            refine ok_some.mpr ?_
            exact trivial
          · have g40 : p1.toInt ≠ (0 : Int32).toInt := fun z => h_38 (Int32.toInt_inj.mp z)
            refine ok_some.mpr ?_
            exact trivial
        · have g41 : ¬ v1_692.toInt ≤ a5_5.toInt := fun z => h_36 (Int32.le_iff_toInt_le.mpr z)
          refine ok_nm2 (fun x11_687_693 ex11_687_693 => ?_)
          have f42 : (a5_5 + (1 : Int32)).toInt = a5_5.toInt + (1 : Int32).toInt := iadd_toInt (by omega) (by omega)
          have qx11_687_693 : x11_687_693.toInt = (a5_5 + 1).toInt := congrArg Int32.toInt ex11_687_693
          refine ok_lpc (I := fun n s => n = (12 + 1 - s.2.2.toInt).toNat ∧ -1 ≤ s.1.toInt ∧ s.1.toInt ≤ 100000000 ∧ 1 ≤ s.2.2.toInt ∧ s.2.2.toInt ≤ 12) (fun rec36_694r n_694 s_694 hs_694 hrec_694 => ?_) K9 ((12 + 1 - x11_687_693.toInt).toNat) (a2_5, a3_5, x11_687_693) ⟨rfl, (show -1 ≤ a2_5.toInt by omega), (show a2_5.toInt ≤ 100000000 by omega), (show 1 ≤ x11_687_693.toInt by omega), (show x11_687_693.toInt ≤ 12 by omega)⟩ (by unfold K9; omega)
          obtain ⟨a2_694, a3_694, a6_694⟩ := s_694
          obtain ⟨hn_694, b0a2_694, b1a2_694, b0a6_694, b1a6_694⟩ := hs_694
          dsimp only at hn_694 b0a2_694 b1a2_694 b0a6_694 b1a6_694
          unfold bX10_gap_36
          try dsimp only
          refine ok_bd.mpr ?_
          try unfold fX10_pictures
          refine ok_gd.mpr ⟨gb_of (by omega) (by omega), ?_⟩
          refine ok_nm2 (fun v1_716 ev1_716 => ?_)
          have qv1_716 : v1_716.toInt = (σ.1 15 7).toInt := congrArg Int32.toInt ev1_716
          refine ok_some.mpr ?_
          refine ok_ite.mpr ⟨fun h_43 => ?_, fun h_43 => ?_⟩
          · have g44 : v1_716.toInt ≤ a6_694.toInt := Int32.le_iff_toInt_le.mp h_43
            refine ok_nm2 (fun x15_713_717 ex15_713_717 => ?_)
            have qx15_713_717 : x15_713_717.toInt = (a5_5 + 1).toInt := congrArg Int32.toInt ex15_713_717
            exact hrec_5 _ (a2_694, a3_694, x15_713_717) (show (12 + 1 - x15_713_717.toInt).toNat < n_5 by omega) ⟨rfl, (show -1 ≤ a2_694.toInt by omega), (show a2_694.toInt ≤ 100000000 by omega), (show 0 ≤ x15_713_717.toInt by omega), (show x15_713_717.toInt ≤ 12 by omega)⟩
          · have g45 : ¬ v1_716.toInt ≤ a6_694.toInt := fun z => h_43 (Int32.le_iff_toInt_le.mpr z)
            refine ok_nm2 (fun x16_713_717 ex16_713_717 => ?_)
            have f46 : (a6_694 + (1 : Int32)).toInt = a6_694.toInt + (1 : Int32).toInt := iadd_toInt (by omega) (by omega)
            have qx16_713_717 : x16_713_717.toInt = (a6_694 + 1).toInt := congrArg Int32.toInt ex16_713_717
            refine ok_lpc (I := fun n s => n = (12 + 1 - s.2.2.toInt).toNat ∧ -1 ≤ s.1.toInt ∧ s.1.toInt ≤ 100000000 ∧ 2 ≤ s.2.2.toInt ∧ s.2.2.toInt ≤ 12) (fun rec51_718r n_718 s_718 hs_718 hrec_718 => ?_) K9 ((12 + 1 - x16_713_717.toInt).toNat) (a2_694, a3_694, x16_713_717) ⟨rfl, (show -1 ≤ a2_694.toInt by omega), (show a2_694.toInt ≤ 100000000 by omega), (show 2 ≤ x16_713_717.toInt by omega), (show x16_713_717.toInt ≤ 12 by omega)⟩ (by unfold K9; omega)
            obtain ⟨a2_718, a3_718, a7_718⟩ := s_718
            obtain ⟨hn_718, b0a2_718, b1a2_718, b0a7_718, b1a7_718⟩ := hs_718
            dsimp only at hn_718 b0a2_718 b1a2_718 b0a7_718 b1a7_718
            unfold bX10_gap_51
            try dsimp only
            refine ok_bd.mpr ?_
            try unfold fX10_pictures
            refine ok_gd.mpr ⟨gb_of (by omega) (by omega), ?_⟩
            refine ok_nm2 (fun v1_728 ev1_728 => ?_)
            have qv1_728 : v1_728.toInt = (σ.1 15 7).toInt := congrArg Int32.toInt ev1_728
            refine ok_some.mpr ?_
            refine ok_ite.mpr ⟨fun h_47 => ?_, fun h_47 => ?_⟩
            · have g48 : v1_728.toInt ≤ a7_718.toInt := Int32.le_iff_toInt_le.mp h_47
              refine ok_nm2 (fun x20_727_729 ex20_727_729 => ?_)
              have qx20_727_729 : x20_727_729.toInt = (a6_694 + 1).toInt := congrArg Int32.toInt ex20_727_729
              exact hrec_694 _ (a2_718, a3_718, x20_727_729) (show (12 + 1 - x20_727_729.toInt).toNat < n_694 by omega) ⟨rfl, (show -1 ≤ a2_718.toInt by omega), (show a2_718.toInt ≤ 100000000 by omega), (show 1 ≤ x20_727_729.toInt by omega), (show x20_727_729.toInt ≤ 12 by omega)⟩
            · have g49 : ¬ v1_728.toInt ≤ a7_718.toInt := fun z => h_47 (Int32.le_iff_toInt_le.mpr z)
              refine ok_bd.mpr ((o_fX10_isLoop hIσ (p1 := a5_5) (p2 := a6_694) (p3 := a7_718) ).mono (fun r22_727_729 ho_51 => ?_))
              obtain ⟨r0r22_727_729, r1r22_727_729, hp_52⟩ := ho_51
              refine ok_ite.mpr ⟨fun h_53 => ?_, fun h_53 => ?_⟩
              · have g54 : r22_727_729.toInt = (0 : Int32).toInt := by rw [h_53]
                refine ok_nm2 (fun x38_727_729 ex38_727_729 => ?_)
                have f55 : (a7_718 + (1 : Int32)).toInt = a7_718.toInt + (1 : Int32).toInt := iadd_toInt (by omega) (by omega)
                have qx38_727_729 : x38_727_729.toInt = (a7_718 + 1).toInt := congrArg Int32.toInt ex38_727_729
                exact hrec_718 _ (a2_718, a3_718, x38_727_729) (show (12 + 1 - x38_727_729.toInt).toNat < n_718 by omega) ⟨rfl, (show -1 ≤ a2_718.toInt by omega), (show a2_718.toInt ≤ 100000000 by omega), (show 2 ≤ x38_727_729.toInt by omega), (show x38_727_729.toInt ≤ 12 by omega)⟩
              · have g56 : r22_727_729.toInt ≠ (0 : Int32).toInt := fun z => h_53 (Int32.toInt_inj.mp z)
                refine ok_bd.mpr ((o_fX10_loopOf hIσ (p1 := a5_5) (p2 := a6_694) (p3 := a7_718) (p4 := (0 : Int32)) (by omega) (by omega) (by first | assumption | exact hp_52 (by omega))).mono (fun r25_727_729 ho_58 => ?_))
                refine ok_bd.mpr ?_
                try unfold fX10_apart
                refine ok_ite.mpr ⟨fun h_59 => ?_, fun h_59 => ?_⟩
                · have f60 : r25_727_729.toInt64.toInt = r25_727_729.toInt := Int32.toInt_toInt64 _
                  have g61 : r25_727_729.toInt64.toInt ≤ (0 : Int64).toInt := Int64.le_iff_toInt_le.mp h_59
                  refine ok_some.mpr ?_
                  refine ok_bd.mpr ((o_fX10_loopOf hIσ (p1 := a5_5) (p2 := a6_694) (p3 := a7_718) (p4 := (1 : Int32)) (by omega) (by omega) (by first | assumption | exact hp_52 (by omega))).mono (fun r29_727_729_731 ho_63 => ?_))
                  refine ok_bd.mpr ?_
                  try unfold fX10_apart
                  refine ok_ite.mpr ⟨fun h_64 => ?_, fun h_64 => ?_⟩
                  · have f65 : r29_727_729_731.toInt64.toInt = r29_727_729_731.toInt := Int32.toInt_toInt64 _
                    have g66 : r29_727_729_731.toInt64.toInt ≤ (0 : Int64).toInt := Int64.le_iff_toInt_le.mp h_64
                    refine ok_some.mpr ?_
                    refine ok_nm2 (fun x32_727_729_731_733 ex32_727_729_731_733 => ?_)
                    refine ok_ite.mpr ⟨fun h_67 => ?_, fun h_67 => ?_⟩
                    · have g68 : a3_718.toInt < x32_727_729_731_733.toInt := Int64.lt_iff_toInt_lt.mp h_67
                      refine ok_nm2 (fun x34_727_729_731_733 ex34_727_729_731_733 => ?_)
                      have f69 : (10000 : Int32).toInt = 10000 := by decide
                      have f70 : ((10000 : Int32) * a5_5).toInt = 10000 * a5_5.toInt := imulc (by decide) (by omega) (by omega)
                      have f71 : (100 : Int32).toInt = 100 := by decide
                      have f72 : ((100 : Int32) * a6_694).toInt = 100 * a6_694.toInt := imulc (by decide) (by omega) (by omega)
                      have f73 : ((10000 * a5_5) + (100 * a6_694)).toInt = (10000 * a5_5).toInt + (100 * a6_694).toInt := iadd_toInt (by omega) (by omega)
                      have f74 : (((10000 * a5_5) + (100 * a6_694)) + a7_718).toInt = ((10000 * a5_5) + (100 * a6_694)).toInt + a7_718.toInt := iadd_toInt (by omega) (by omega)
                      have qx34_727_729_731_733 : x34_727_729_731_733.toInt = (((10000 * a5_5) + (100 * a6_694)) + a7_718).toInt := congrArg Int32.toInt ex34_727_729_731_733
                      refine ok_nm.mpr ?_
                      refine ok_nm2 (fun x36_727_729_731_733_734 ex36_727_729_731_733_734 => ?_)
                      have f75 : (a7_718 + (1 : Int32)).toInt = a7_718.toInt + (1 : Int32).toInt := iadd_toInt (by omega) (by omega)
                      have qx36_727_729_731_733_734 : x36_727_729_731_733_734.toInt = (a7_718 + 1).toInt := congrArg Int32.toInt ex36_727_729_731_733_734
                      exact hrec_718 _ (x34_727_729_731_733, x32_727_729_731_733, x36_727_729_731_733_734) (show (12 + 1 - x36_727_729_731_733_734.toInt).toNat < n_718 by omega) ⟨rfl, (show -1 ≤ x34_727_729_731_733.toInt by omega), (show x34_727_729_731_733.toInt ≤ 100000000 by omega), (show 2 ≤ x36_727_729_731_733_734.toInt by omega), (show x36_727_729_731_733_734.toInt ≤ 12 by omega)⟩
                    · have g76 : ¬ a3_718.toInt < x32_727_729_731_733.toInt := fun z => h_67 (Int64.lt_iff_toInt_lt.mpr z)
                      refine ok_nm2 (fun x37_727_729_731_733 ex37_727_729_731_733 => ?_)
                      have f77 : (a7_718 + (1 : Int32)).toInt = a7_718.toInt + (1 : Int32).toInt := iadd_toInt (by omega) (by omega)
                      have qx37_727_729_731_733 : x37_727_729_731_733.toInt = (a7_718 + 1).toInt := congrArg Int32.toInt ex37_727_729_731_733
                      exact hrec_718 _ (a2_718, a3_718, x37_727_729_731_733) (show (12 + 1 - x37_727_729_731_733.toInt).toNat < n_718 by omega) ⟨rfl, (show -1 ≤ a2_718.toInt by omega), (show a2_718.toInt ≤ 100000000 by omega), (show 2 ≤ x37_727_729_731_733.toInt by omega), (show x37_727_729_731_733.toInt ≤ 12 by omega)⟩
                  · have f78 : r29_727_729_731.toInt64.toInt = r29_727_729_731.toInt := Int32.toInt_toInt64 _
                    have g79 : ¬ r29_727_729_731.toInt64.toInt ≤ (0 : Int64).toInt := fun z => h_64 (Int64.le_iff_toInt_le.mpr z)
                    refine ok_some.mpr ?_
                    refine ok_nm2 (fun x32_727_729_731_735 ex32_727_729_731_735 => ?_)
                    refine ok_ite.mpr ⟨fun h_80 => ?_, fun h_80 => ?_⟩
                    · have g81 : a3_718.toInt < x32_727_729_731_735.toInt := Int64.lt_iff_toInt_lt.mp h_80
                      refine ok_nm2 (fun x34_727_729_731_735 ex34_727_729_731_735 => ?_)
                      have f82 : (10000 : Int32).toInt = 10000 := by decide
                      have f83 : ((10000 : Int32) * a5_5).toInt = 10000 * a5_5.toInt := imulc (by decide) (by omega) (by omega)
                      have f84 : (100 : Int32).toInt = 100 := by decide
                      have f85 : ((100 : Int32) * a6_694).toInt = 100 * a6_694.toInt := imulc (by decide) (by omega) (by omega)
                      have f86 : ((10000 * a5_5) + (100 * a6_694)).toInt = (10000 * a5_5).toInt + (100 * a6_694).toInt := iadd_toInt (by omega) (by omega)
                      have f87 : (((10000 * a5_5) + (100 * a6_694)) + a7_718).toInt = ((10000 * a5_5) + (100 * a6_694)).toInt + a7_718.toInt := iadd_toInt (by omega) (by omega)
                      have qx34_727_729_731_735 : x34_727_729_731_735.toInt = (((10000 * a5_5) + (100 * a6_694)) + a7_718).toInt := congrArg Int32.toInt ex34_727_729_731_735
                      refine ok_nm.mpr ?_
                      refine ok_nm2 (fun x36_727_729_731_735_736 ex36_727_729_731_735_736 => ?_)
                      have f88 : (a7_718 + (1 : Int32)).toInt = a7_718.toInt + (1 : Int32).toInt := iadd_toInt (by omega) (by omega)
                      have qx36_727_729_731_735_736 : x36_727_729_731_735_736.toInt = (a7_718 + 1).toInt := congrArg Int32.toInt ex36_727_729_731_735_736
                      exact hrec_718 _ (x34_727_729_731_735, x32_727_729_731_735, x36_727_729_731_735_736) (show (12 + 1 - x36_727_729_731_735_736.toInt).toNat < n_718 by omega) ⟨rfl, (show -1 ≤ x34_727_729_731_735.toInt by omega), (show x34_727_729_731_735.toInt ≤ 100000000 by omega), (show 2 ≤ x36_727_729_731_735_736.toInt by omega), (show x36_727_729_731_735_736.toInt ≤ 12 by omega)⟩
                    · have g89 : ¬ a3_718.toInt < x32_727_729_731_735.toInt := fun z => h_80 (Int64.lt_iff_toInt_lt.mpr z)
                      refine ok_nm2 (fun x37_727_729_731_735 ex37_727_729_731_735 => ?_)
                      have f90 : (a7_718 + (1 : Int32)).toInt = a7_718.toInt + (1 : Int32).toInt := iadd_toInt (by omega) (by omega)
                      have qx37_727_729_731_735 : x37_727_729_731_735.toInt = (a7_718 + 1).toInt := congrArg Int32.toInt ex37_727_729_731_735
                      exact hrec_718 _ (a2_718, a3_718, x37_727_729_731_735) (show (12 + 1 - x37_727_729_731_735.toInt).toNat < n_718 by omega) ⟨rfl, (show -1 ≤ a2_718.toInt by omega), (show a2_718.toInt ≤ 100000000 by omega), (show 2 ≤ x37_727_729_731_735.toInt by omega), (show x37_727_729_731_735.toInt ≤ 12 by omega)⟩
                · have f91 : r25_727_729.toInt64.toInt = r25_727_729.toInt := Int32.toInt_toInt64 _
                  have g92 : ¬ r25_727_729.toInt64.toInt ≤ (0 : Int64).toInt := fun z => h_59 (Int64.le_iff_toInt_le.mpr z)
                  refine ok_some.mpr ?_
                  refine ok_bd.mpr ((o_fX10_loopOf hIσ (p1 := a5_5) (p2 := a6_694) (p3 := a7_718) (p4 := (1 : Int32)) (by omega) (by omega) (by first | assumption | exact hp_52 (by omega))).mono (fun r29_727_729_737 ho_94 => ?_))
                  refine ok_bd.mpr ?_
                  try unfold fX10_apart
                  refine ok_ite.mpr ⟨fun h_95 => ?_, fun h_95 => ?_⟩
                  · have f96 : r29_727_729_737.toInt64.toInt = r29_727_729_737.toInt := Int32.toInt_toInt64 _
                    have g97 : r29_727_729_737.toInt64.toInt ≤ (0 : Int64).toInt := Int64.le_iff_toInt_le.mp h_95
                    refine ok_some.mpr ?_
                    refine ok_nm2 (fun x32_727_729_737_739 ex32_727_729_737_739 => ?_)
                    refine ok_ite.mpr ⟨fun h_98 => ?_, fun h_98 => ?_⟩
                    · have g99 : a3_718.toInt < x32_727_729_737_739.toInt := Int64.lt_iff_toInt_lt.mp h_98
                      refine ok_nm2 (fun x34_727_729_737_739 ex34_727_729_737_739 => ?_)
                      have f100 : (10000 : Int32).toInt = 10000 := by decide
                      have f101 : ((10000 : Int32) * a5_5).toInt = 10000 * a5_5.toInt := imulc (by decide) (by omega) (by omega)
                      have f102 : (100 : Int32).toInt = 100 := by decide
                      have f103 : ((100 : Int32) * a6_694).toInt = 100 * a6_694.toInt := imulc (by decide) (by omega) (by omega)
                      have f104 : ((10000 * a5_5) + (100 * a6_694)).toInt = (10000 * a5_5).toInt + (100 * a6_694).toInt := iadd_toInt (by omega) (by omega)
                      have f105 : (((10000 * a5_5) + (100 * a6_694)) + a7_718).toInt = ((10000 * a5_5) + (100 * a6_694)).toInt + a7_718.toInt := iadd_toInt (by omega) (by omega)
                      have qx34_727_729_737_739 : x34_727_729_737_739.toInt = (((10000 * a5_5) + (100 * a6_694)) + a7_718).toInt := congrArg Int32.toInt ex34_727_729_737_739
                      refine ok_nm.mpr ?_
                      refine ok_nm2 (fun x36_727_729_737_739_740 ex36_727_729_737_739_740 => ?_)
                      have f106 : (a7_718 + (1 : Int32)).toInt = a7_718.toInt + (1 : Int32).toInt := iadd_toInt (by omega) (by omega)
                      have qx36_727_729_737_739_740 : x36_727_729_737_739_740.toInt = (a7_718 + 1).toInt := congrArg Int32.toInt ex36_727_729_737_739_740
                      exact hrec_718 _ (x34_727_729_737_739, x32_727_729_737_739, x36_727_729_737_739_740) (show (12 + 1 - x36_727_729_737_739_740.toInt).toNat < n_718 by omega) ⟨rfl, (show -1 ≤ x34_727_729_737_739.toInt by omega), (show x34_727_729_737_739.toInt ≤ 100000000 by omega), (show 2 ≤ x36_727_729_737_739_740.toInt by omega), (show x36_727_729_737_739_740.toInt ≤ 12 by omega)⟩
                    · have g107 : ¬ a3_718.toInt < x32_727_729_737_739.toInt := fun z => h_98 (Int64.lt_iff_toInt_lt.mpr z)
                      refine ok_nm2 (fun x37_727_729_737_739 ex37_727_729_737_739 => ?_)
                      have f108 : (a7_718 + (1 : Int32)).toInt = a7_718.toInt + (1 : Int32).toInt := iadd_toInt (by omega) (by omega)
                      have qx37_727_729_737_739 : x37_727_729_737_739.toInt = (a7_718 + 1).toInt := congrArg Int32.toInt ex37_727_729_737_739
                      exact hrec_718 _ (a2_718, a3_718, x37_727_729_737_739) (show (12 + 1 - x37_727_729_737_739.toInt).toNat < n_718 by omega) ⟨rfl, (show -1 ≤ a2_718.toInt by omega), (show a2_718.toInt ≤ 100000000 by omega), (show 2 ≤ x37_727_729_737_739.toInt by omega), (show x37_727_729_737_739.toInt ≤ 12 by omega)⟩
                  · have f109 : r29_727_729_737.toInt64.toInt = r29_727_729_737.toInt := Int32.toInt_toInt64 _
                    have g110 : ¬ r29_727_729_737.toInt64.toInt ≤ (0 : Int64).toInt := fun z => h_95 (Int64.le_iff_toInt_le.mpr z)
                    refine ok_some.mpr ?_
                    refine ok_nm2 (fun x32_727_729_737_741 ex32_727_729_737_741 => ?_)
                    refine ok_ite.mpr ⟨fun h_111 => ?_, fun h_111 => ?_⟩
                    · have g112 : a3_718.toInt < x32_727_729_737_741.toInt := Int64.lt_iff_toInt_lt.mp h_111
                      refine ok_nm2 (fun x34_727_729_737_741 ex34_727_729_737_741 => ?_)
                      have f113 : (10000 : Int32).toInt = 10000 := by decide
                      have f114 : ((10000 : Int32) * a5_5).toInt = 10000 * a5_5.toInt := imulc (by decide) (by omega) (by omega)
                      have f115 : (100 : Int32).toInt = 100 := by decide
                      have f116 : ((100 : Int32) * a6_694).toInt = 100 * a6_694.toInt := imulc (by decide) (by omega) (by omega)
                      have f117 : ((10000 * a5_5) + (100 * a6_694)).toInt = (10000 * a5_5).toInt + (100 * a6_694).toInt := iadd_toInt (by omega) (by omega)
                      have f118 : (((10000 * a5_5) + (100 * a6_694)) + a7_718).toInt = ((10000 * a5_5) + (100 * a6_694)).toInt + a7_718.toInt := iadd_toInt (by omega) (by omega)
                      have qx34_727_729_737_741 : x34_727_729_737_741.toInt = (((10000 * a5_5) + (100 * a6_694)) + a7_718).toInt := congrArg Int32.toInt ex34_727_729_737_741
                      refine ok_nm.mpr ?_
                      refine ok_nm2 (fun x36_727_729_737_741_742 ex36_727_729_737_741_742 => ?_)
                      have f119 : (a7_718 + (1 : Int32)).toInt = a7_718.toInt + (1 : Int32).toInt := iadd_toInt (by omega) (by omega)
                      have qx36_727_729_737_741_742 : x36_727_729_737_741_742.toInt = (a7_718 + 1).toInt := congrArg Int32.toInt ex36_727_729_737_741_742
                      exact hrec_718 _ (x34_727_729_737_741, x32_727_729_737_741, x36_727_729_737_741_742) (show (12 + 1 - x36_727_729_737_741_742.toInt).toNat < n_718 by omega) ⟨rfl, (show -1 ≤ x34_727_729_737_741.toInt by omega), (show x34_727_729_737_741.toInt ≤ 100000000 by omega), (show 2 ≤ x36_727_729_737_741_742.toInt by omega), (show x36_727_729_737_741_742.toInt ≤ 12 by omega)⟩
                    · have g120 : ¬ a3_718.toInt < x32_727_729_737_741.toInt := fun z => h_111 (Int64.lt_iff_toInt_lt.mpr z)
                      refine ok_nm2 (fun x37_727_729_737_741 ex37_727_729_737_741 => ?_)
                      have f121 : (a7_718 + (1 : Int32)).toInt = a7_718.toInt + (1 : Int32).toInt := iadd_toInt (by omega) (by omega)
                      have qx37_727_729_737_741 : x37_727_729_737_741.toInt = (a7_718 + 1).toInt := congrArg Int32.toInt ex37_727_729_737_741
                      exact hrec_718 _ (a2_718, a3_718, x37_727_729_737_741) (show (12 + 1 - x37_727_729_737_741.toInt).toNat < n_718 by omega) ⟨rfl, (show -1 ≤ a2_718.toInt by omega), (show a2_718.toInt ≤ 100000000 by omega), (show 2 ≤ x37_727_729_737_741.toInt by omega), (show x37_727_729_737_741.toInt ≤ 12 by omega)⟩
/-- how many values the parts of the tree have -/
noncomputable def nTv (σ : gS) : Nat := cN (fun v => decide (∃ j : Fin 12, σ.1 35 j.val = Int32.ofNat v)) 12
noncomputable def Tv (σ : gS) : Prop := ∀ j : Nat, j < 12 → 0 ≤ (σ.1 35 j).toInt ∧ (σ.1 35 j).toInt ≤ 11
theorem Tv_is {σ : gS} (h : Tv σ) {j : Nat} (hj : j < 12) : decide (∃ i : Fin 12, σ.1 35 i.val = Int32.ofNat (σ.1 35 j).toInt.toNat) = true := by
  refine decide_eq_true ⟨⟨j, hj⟩, ?_⟩
  have hb := h j hj
  exact Int32.toInt_inj.mp (by rw [iofNat_toInt (by omega)]; dsimp only; omega)
theorem nTv_dec {σ τ : gS} {f t : Int32} (h : Tv σ) {a b : Nat} (ha : a < 12) (hb : b < 12) (hf : σ.1 35 b = f) (ht : σ.1 35 a = t) (hne : t ≠ f) (hτ : ∀ j, j < 12 → τ.1 35 j = if σ.1 35 j = f then t else σ.1 35 j) : nTv τ + 1 ≤ nTv σ ∧ 1 ≤ nTv τ ∧ Tv τ := by
  have hfb := h b hb
  rw [hf] at hfb
  have tv : Tv τ := fun j hj => by
    rw [hτ j hj]
    by_cases c : σ.1 35 j = f
    · rw [if_pos c, ← ht]; exact h a ha
    · rw [if_neg c]; exact h j hj
  refine ⟨?_, ?_, tv⟩
  · unfold nTv
    refine cN_dec (p := f.toInt.toNat) (fun v hv => ?_) (by rw [← hf]; exact Tv_is h hb) ?_ 12 (by omega)
    · obtain ⟨⟨j, hj⟩, e⟩ := of_decide_eq_true hv
      dsimp only at e
      rw [hτ j hj] at e
      by_cases c : σ.1 35 j = f
      · rw [if_pos c] at e
        exact decide_eq_true ⟨⟨a, ha⟩, by dsimp only; rw [ht]; exact e⟩
      · rw [if_neg c] at e
        exact decide_eq_true ⟨⟨j, hj⟩, e⟩
    · refine decide_eq_false (fun ⟨⟨j, hj⟩, e⟩ => ?_)
      dsimp only at e
      have ef : Int32.ofNat f.toInt.toNat = f := Int32.toInt_inj.mp (by rw [iofNat_toInt (by omega)]; omega)
      rw [hτ j hj, ef] at e
      by_cases c : σ.1 35 j = f
      · rw [if_pos c] at e; exact hne e
      · rw [if_neg c] at e; exact c e
  · unfold nTv
    have := tv 0 (by decide)
    exact cN_pos (p := (τ.1 35 0).toInt.toNat) (Tv_is tv (by decide)) 12 (by omega)
/-- the merging loop -/
theorem w9_t180 {σ0 σ : gS} (hI : JM σ) (hT : Tv σ) (hF : Fr fr_fX10_treeOf σ0 σ) {n w a : Int32} {f : Int32} {b : Nat} (a0 : 0 ≤ a.toInt) (a1 : a.toInt ≤ 11) (hb : b < 12) (hf : σ.1 35 b = f) (hne : σ.1 35 a.toInt.toNat ≠ f) {P : Int32 × gS → Prop} {rec25 : Int32 → Int32 → gS → Option (Int32 × gS)} (k : ∀ u, JM u → Tv u → Fr fr_fX10_treeOf σ0 u → nTv u + 1 ≤ nTv σ → 1 ≤ nTv u → Ok (rec25 n w u) P) : Ok (lpc (S := Int32 × gS) K9 (fun rec s => bX10_treeOf_180 σ n w a f rec25 (fun a6 σ1 => rec (a6, σ1)) s.1 s.2) (0, σ)) P := by
  refine ok_lpc (I := fun (m : Nat) (s : Int32 × gS) => m = (12 - s.1.toInt).toNat ∧ 0 ≤ s.1.toInt ∧ s.1.toInt ≤ 12 ∧ JM s.2 ∧ Fr fr_fX10_treeOf σ0 s.2 ∧ (∀ j : Nat, (j : Int) < s.1.toInt → s.2.1 35 j = if σ.1 35 j = f then σ.1 35 a.toInt.toNat else σ.1 35 j) ∧ ∀ j : Nat, s.1.toInt ≤ (j : Int) → s.2.1 35 j = σ.1 35 j) (fun rec m s hs hrec => ?_) K9 12 (0, σ) ⟨by first | decide | (dsimp only; decide), by first | decide | (dsimp only; decide), by first | decide | (dsimp only; decide), hI, hF, fun j hj => absurd (show (j : Int) < (0 : Int32).toInt from hj) (by have := z0; omega), fun j _ => rfl⟩ (by unfold K9; decide)
  obtain ⟨i, τ⟩ := s
  obtain ⟨hm, h0, h1, jI, jF, p1, p2⟩ := hs
  dsimp only at hm h0 h1 jI jF p1 p2 ⊢
  have l12 : (12 : Int32).toInt = 12 := by decide
  have e1 : (i + 1).toInt = i.toInt + 1 := i_inc (by omega) h1 (by decide)
  unfold bX10_treeOf_180
  refine ok_ite.mpr ⟨fun h => ?_, fun h => ?_⟩
  · have h := Int32.le_iff_toInt_le.mp h
    obtain ⟨d1, d2, d3⟩ := nTv_dec (τ := τ) hT (a := a.toInt.toNat) (by omega) hb hf rfl hne (fun j hj => p1 j (by omega))
    exact k τ jI d3 jF d1 d2
  · have hi := q_gt h
    have ta : τ.1 35 a.toInt.toNat = σ.1 35 a.toInt.toNat := by
      by_cases c : (a.toInt.toNat : Int) < i.toInt
      · rw [p1 _ c, if_neg hne]
      · exact p2 _ (by omega)
    have ti : τ.1 35 i.toInt.toNat = σ.1 35 i.toInt.toNat := p2 _ (by omega)
    have fin : ∀ u : gS, JM u → Fr fr_fX10_treeOf σ0 u → (∀ j, j ≠ i.toInt.toNat → u.1 35 j = τ.1 35 j) → u.1 35 i.toInt.toNat = (if σ.1 35 i.toInt.toNat = f then σ.1 35 a.toInt.toNat else σ.1 35 i.toInt.toNat) → Ok (rec (i + 1, u)) P := fun u x y z w => hrec (12 - (i + 1).toInt).toNat (i + 1, u) (by omega) ⟨rfl, show 0 ≤ (i + 1).toInt by omega, show (i + 1).toInt ≤ 12 by omega, x, y, fun j hj => by
      dsimp only at hj ⊢
      by_cases c : j = i.toInt.toNat
      · rw [c]; exact w
      · rw [z j c]; exact p1 j (by omega), fun j hj => by
      dsimp only at hj ⊢
      rw [z j (by omega)]; exact p2 j (by omega)⟩
    refine ok_gd.mpr ⟨gb_of h0 (by omega), ok_nm.mpr ?_⟩
    rw [n_toInt, ti]
    refine ok_ite.mpr ⟨fun c => ?_, fun c => ok_nm.mpr (fin τ jI jF (fun _ _ => rfl) (by rw [ti, if_neg c]))⟩
    refine ok_gd.mpr ⟨gb_of a0 (by omega), ok_nm.mpr (ok_gd.mpr ⟨gb_of h0 (by omega), ok_nm.mpr (ok_nm.mpr ?_)⟩)⟩
    rw [n_toInt, ta]
    refine fin _ (JM_w jI (Int32.le_toInt _) (Int32.toInt_le _)) (Fr_w0 jF (by decide)) (fun j hj => ?_) ?_
    · rw [gsI_1, if_neg (fun z => hj z.2)]
    · rw [gsI_1, if_pos ⟨rfl, rfl⟩, if_pos c]
noncomputable def PT (σ0 : gS) (out : Int32 × gS) : Prop := JM out.2 ∧ Fr fr_fX10_treeOf σ0 out.2 ∧ 0 ≤ out.1.toInt ∧ out.1.toInt ≤ 12
/-- behind the search -/
theorem w9_t144 {σ0 σ : gS} (hI : JM σ) (hT : Tv σ) (hF : Fr fr_fX10_treeOf σ0 σ) {n a b : Int32} (n0 : 0 ≤ n.toInt) (hn : n.toInt + nTv σ ≤ 12) (hp : 1 ≤ nTv σ) {rec25 : Int32 → Int32 → gS → Option (Int32 × gS)} (k : ∀ (n' w : Int32) u, JM u → Tv u → Fr fr_fX10_treeOf σ0 u → 0 ≤ n'.toInt → n'.toInt + nTv u ≤ 12 → 1 ≤ nTv u → (w = 0 ∧ n' = n ∧ u = σ ∨ nTv u + 1 ≤ nTv σ) → Ok (rec25 n' w u) (PT σ0)) (hab : a = -1 ∨ 0 ≤ a.toInt ∧ a.toInt ≤ 11 ∧ 0 ≤ b.toInt ∧ b.toInt ≤ 11 ∧ σ.1 35 a.toInt.toNat ≠ σ.1 35 b.toInt.toNat) : Ok (if a = -1 then jX10_treeOf_144 σ rec25 n a b 0 else jX10_treeOf_144 σ rec25 n a b 1) (PT σ0) := by
  unfold jX10_treeOf_144
  refine ok_ite.mpr ⟨fun _ => ok_nm.mpr (ok_ite.mpr ⟨fun _ => k n 0 σ hI hT hF n0 hn hp (.inl ⟨rfl, rfl, rfl⟩), fun z => absurd rfl z⟩), fun hne => ok_nm.mpr (ok_ite.mpr ⟨fun z => absurd z (by decide), fun _ => ?_⟩)⟩
  rcases hab with hab | ⟨a0, a1, b0, b1, hd⟩
  · exact absurd hab hne
  have n11 : n.toInt ≤ 11 := by omega
  have e1 : (n + 1).toInt = n.toInt + 1 := i_inc (c := 12) (by omega) (by omega) (by decide)
  refine ok_gd.mpr ⟨gb_of n0 (by omega), ok_nm.mpr (ok_nm.mpr (ok_gd.mpr ⟨gb_of b0 (by omega), ok_nm.mpr (ok_nm.mpr (ok_nm.mpr ?_))⟩))⟩
  have hT' : Tv (gsI σ 34 n.toNatClampNeg ((100 * a) + b)) := hT
  have hN' : nTv (gsI σ 34 n.toNatClampNeg ((100 * a) + b)) = nTv σ := rfl
  refine w9_t180 (JM_w (k := 34) (i := n.toNatClampNeg) (x := (100 * a) + b) hI (Int32.le_toInt _) (Int32.toInt_le _)) hT' (Fr_w0 hF (by decide)) a0 a1 (b := b.toInt.toNat) (by omega) rfl hd (fun u x y z d p => ?_)
  rw [hN'] at d
  exact k (n + 1) 1 u x y z (by omega) (by omega) p (.inr d)
/-- the search: two pictures whose parts differ -/
theorem w9_t37 {σ0 σ : gS} (hI : JM σ) (hT : Tv σ) (hF : Fr fr_fX10_treeOf σ0 σ) {n : Int32} (n0 : 0 ≤ n.toInt) (hn : n.toInt + nTv σ ≤ 12) (hp : 1 ≤ nTv σ) {rec25 : Int32 → Int32 → gS → Option (Int32 × gS)} (k : ∀ (n' w : Int32) u, JM u → Tv u → Fr fr_fX10_treeOf σ0 u → 0 ≤ n'.toInt → n'.toInt + nTv u ≤ 12 → 1 ≤ nTv u → (w = 0 ∧ n' = n ∧ u = σ ∨ nTv u + 1 ≤ nTv σ) → Ok (rec25 n' w u) (PT σ0)) : Ok (lpc (S := Int32 × Int32 × Int32) K9 (fun rec s => bX10_treeOf_37 σ n rec25 (fun a3 a4 a5 => rec (a3, a4, a5)) s.1 s.2.1 s.2.2) (-1, -1, 0)) (PT σ0) := by
  have hb := (JM_n hI).2.2.1
  have lm : (-1 : Int32).toInt = -1 := by decide
  refine ok_lpc (I := fun (m : Nat) (s : Int32 × Int32 × Int32) => m = (12 - s.2.2.toInt).toNat ∧ 0 ≤ s.2.2.toInt ∧ s.2.2.toInt ≤ 12 ∧ (s.1 = -1 ∨ 0 ≤ s.1.toInt ∧ s.1.toInt ≤ 11 ∧ 0 ≤ s.2.1.toInt ∧ s.2.1.toInt ≤ 11 ∧ σ.1 35 s.1.toInt.toNat ≠ σ.1 35 s.2.1.toInt.toNat)) (fun rec m s hs hrec => ?_) K9 12 (-1, -1, 0) ⟨by decide, by decide, by decide, .inl rfl⟩ (by unfold K9; decide)
  obtain ⟨a, b, p⟩ := s
  obtain ⟨hm, h0, h1, hab⟩ := hs
  dsimp only at hm h0 h1 hab ⊢
  have e1 : (p + 1).toInt = p.toInt + 1 := i_inc (by omega) h1 (by decide)
  unfold bX10_treeOf_37
  refine ok_bde (m_pictures σ) (ok_ite.mpr ⟨fun _ => w9_t144 hI hT hF n0 hn hp k hab, fun h => ok_nm.mpr ?_⟩)
  have hpp := q_gt h
  refine ok_lpc (I := fun (m : Nat) (s : Int32 × Int32 × Int32) => m = (12 - s.2.2.toInt).toNat ∧ 0 ≤ s.2.2.toInt ∧ s.2.2.toInt ≤ 12 ∧ (s.1 = -1 ∨ 0 ≤ s.1.toInt ∧ s.1.toInt ≤ 11 ∧ 0 ≤ s.2.1.toInt ∧ s.2.1.toInt ≤ 11 ∧ σ.1 35 s.1.toInt.toNat ≠ σ.1 35 s.2.1.toInt.toNat)) (fun rec2 m2 s2 hs2 hrec2 => ?_) K9 (12 - (p + 1).toInt).toNat (a, b, p + 1) ⟨rfl, show 0 ≤ (p + 1).toInt by omega, show (p + 1).toInt ≤ 12 by omega, hab⟩ (by unfold K9; omega)
  obtain ⟨a2, b2, o⟩ := s2
  obtain ⟨hm2, g0, g1, hab2⟩ := hs2
  dsimp only at hm2 g0 g1 hab2 ⊢
  have e2 : (o + 1).toInt = o.toInt + 1 := i_inc (by omega) g1 (by decide)
  unfold bX10_treeOf_52
  refine ok_bde (m_pictures σ) (ok_ite.mpr ⟨fun _ => ok_nm.mpr (hrec (12 - (p + 1).toInt).toNat (a2, b2, p + 1) (by omega) ⟨rfl, show 0 ≤ (p + 1).toInt by omega, show (p + 1).toInt ≤ 12 by omega, hab2⟩), fun h => ?_⟩)
  have hoo := q_gt h
  have skip : Ok (rec2 (a2, b2, o + 1)) (PT σ0) := hrec2 (12 - (o + 1).toInt).toNat (a2, b2, o + 1) (by omega) ⟨rfl, show 0 ≤ (o + 1).toInt by omega, show (o + 1).toInt ≤ 12 by omega, hab2⟩
  refine ok_gd.mpr ⟨gb_of h0 (by omega), ok_nm.mpr (ok_gd.mpr ⟨gb_of g0 (by omega), ok_nm.mpr (ok_ite.mpr ⟨fun _ => ok_nm.mpr skip, fun hd => ?_⟩)⟩)⟩
  have take : Ok (rec2 (p, o, o + 1)) (PT σ0) := hrec2 (12 - (o + 1).toInt).toNat (p, o, o + 1) (by omega) ⟨rfl, show 0 ≤ (o + 1).toInt by omega, show (o + 1).toInt ≤ 12 by omega, .inr ⟨h0, show p.toInt ≤ 11 by omega, g0, show o.toInt ≤ 11 by omega, hd⟩⟩
  refine ok_bd.mpr ((o_fX10_tiePoints hI (p1 := p) (p2 := o)).mono (fun w1 _ => ok_ite.mpr ⟨fun _ => ok_nm.mpr skip, fun _ => ok_ite.mpr ⟨fun _ => ok_nm.mpr (ok_nm.mpr (ok_nm.mpr take)), fun _ => ?_⟩⟩))
  refine ok_bd.mpr ((o_fX10_tiePoints hI (p1 := p) (p2 := o)).mono (fun w2 _ => ?_))
  refine ok_bd.mpr ((o_fX10_tiePoints hI (p1 := a2) (p2 := b2)).mono (fun w3 _ => ok_ite.mpr ⟨fun _ => ok_nm.mpr (ok_nm.mpr (ok_nm.mpr take)), fun _ => ok_nm.mpr skip⟩))
theorem w9_t25 {σ0 σ : gS} (hI : JM σ) (hT : Tv σ) (hF : Fr fr_fX10_treeOf σ0 σ) (hn : nTv σ ≤ 12) (hp : 1 ≤ nTv σ) : Ok (lpc (S := Int32 × Int32 × gS) K9 (fun rec s => bX10_treeOf_25 σ (fun a1 a2 σ1 => rec (a1, a2, σ1)) s.1 s.2.1 s.2.2) (0, 1, σ)) (PT σ0) := by
  refine ok_lpc (I := fun (m : Nat) (s : Int32 × Int32 × gS) => (m = 0 ∧ s.2.1 = 0 ∨ m = nTv s.2.2 + 1) ∧ JM s.2.2 ∧ Tv s.2.2 ∧ Fr fr_fX10_treeOf σ0 s.2.2 ∧ 0 ≤ s.1.toInt ∧ s.1.toInt + nTv s.2.2 ≤ 12 ∧ 1 ≤ nTv s.2.2) (fun rec m s hs hrec => ?_) K9 (nTv σ + 1) (0, 1, σ) ⟨.inr (by dsimp only), hI, hT, hF, by first | decide | (dsimp only; decide), show (0 : Int32).toInt + nTv σ ≤ 12 by have := z0; omega, hp⟩ (by unfold K9; omega)
  obtain ⟨n, w, τ⟩ := s
  obtain ⟨hm, jI, jT, jF, j0, j1, j2⟩ := hs
  dsimp only at hm jI jT jF j0 j1 j2 ⊢
  unfold bX10_treeOf_25
  refine ok_ite.mpr ⟨fun _ => ok_some.mpr ⟨jI, jF, j0, by dsimp only; omega⟩, fun hw => ok_nm.mpr (ok_nm.mpr (ok_nm.mpr ?_))⟩
  have hm : m = nTv τ + 1 := by
    rcases hm with ⟨-, h⟩ | h
    · exact absurd h hw
    · exact h
  refine w9_t37 jI jT jF j0 j1 j2 (fun n' w' u x y z a b c d => ?_)
  rcases d with ⟨d1, d2, d3⟩ | d
  · exact hrec 0 (n', w', u) (by omega) ⟨.inl ⟨rfl, d1⟩, x, y, z, a, b, c⟩
  · exact hrec (nTv u + 1) (n', w', u) (by omega) ⟨.inr (by dsimp only), x, y, z, a, b, c⟩
theorem o_fX10_treeOf {σ : gS} (hIσ : JM σ)   : Ok (fX10_treeOf σ ) (fun out => JM out.2 ∧ Fr fr_fX10_treeOf σ out.2 ∧ 0 ≤ out.1.toInt ∧ out.1.toInt ≤ 12) := by
  unfold fX10_treeOf
  refine ok_nm.mpr (ok_lpc (I := fun (m : Nat) (s : Int32 × gS) => m = (12 - s.1.toInt).toNat ∧ 0 ≤ s.1.toInt ∧ s.1.toInt ≤ 12 ∧ JM s.2 ∧ Fr fr_fX10_treeOf σ s.2 ∧ ∀ j : Nat, (j : Int) < s.1.toInt → s.2.1 35 j = Int32.ofNat j) (fun rec m s hs hrec => ?_) K9 12 (0, σ) ⟨by first | decide | (dsimp only; decide), by first | decide | (dsimp only; decide), by first | decide | (dsimp only; decide), hIσ, Fr_r, fun j hj => absurd (show (j : Int) < (0 : Int32).toInt from hj) (by have := z0; omega)⟩ (by unfold K9; decide))
  obtain ⟨i, τ⟩ := s
  obtain ⟨hm, h0, h1, jI, jF, p1⟩ := hs
  dsimp only at hm h0 h1 jI jF p1 ⊢
  have l12 : (12 : Int32).toInt = 12 := by decide
  have e1 : (i + 1).toInt = i.toInt + 1 := i_inc (by omega) h1 (by decide)
  unfold bX10_treeOf_2
  refine ok_ite.mpr ⟨fun h => ok_nm.mpr (ok_nm.mpr ?_), fun h => ?_⟩
  · have h := Int32.le_iff_toInt_le.mp h
    have hT : Tv τ := fun j hj => by
      rw [p1 j (by omega), iofNat_toInt (by omega)]
      omega
    exact w9_t25 jI hT jF (cN_le _ _) (by
      have := hT 0 (by decide)
      exact cN_pos (p := (τ.1 35 0).toInt.toNat) (Tv_is hT (by decide)) 12 (by omega))
  · have hi := q_gt h
    refine ok_gd.mpr ⟨gb_of h0 (by omega), ok_nm.mpr (ok_nm.mpr ?_)⟩
    refine hrec (12 - (i + 1).toInt).toNat (i + 1, _) (by omega) ⟨rfl, show 0 ≤ (i + 1).toInt by omega, show (i + 1).toInt ≤ 12 by omega, JM_w jI (Int32.le_toInt _) (Int32.toInt_le _), Fr_w0 jF (by decide), fun j hj => ?_⟩
    dsimp only at hj ⊢
    rw [gsI_1, n_toInt]
    by_cases c : j = i.toInt.toNat
    · rw [if_pos ⟨rfl, c⟩, c]
      exact Int32.toInt_inj.mp (by rw [iofNat_toInt (by omega)]; omega)
    · rw [if_neg (fun z => c z.2)]
      exact p1 j (by omega)
set_option maxRecDepth 20000 in
set_option maxHeartbeats 2000000 in
theorem o_fX10_tree {σ : gS} (hIσ : JM σ) {p1 : Int32}  : Ok (fX10_tree σ p1) (fun out => JM out.2 ∧ Fr fr_fX10_tree σ out.2) := by
  unfold fX10_tree
  have hfσ : Fr fr_fX10_tree σ σ := Fr_r
  refine ok_bd2.mpr ((o_fX10_treeOf hIσ  ).mono (fun o_1 ho_2 => ?_))
  obtain ⟨r2, σ3⟩ := o_1
  obtain ⟨hIσ3, hcσ3, r0r2, r1r2⟩ := ho_2
  dsimp only at hIσ3 hcσ3 r0r2 r1r2 ⊢
  have hfσ3 : Fr fr_fX10_tree σ σ3 := Fr_c hfσ hcσ3 (by decide)
  refine ok_nm.mpr ?_
  refine ok_ite.mpr ⟨fun h_3 => ?_, fun h_3 => ?_⟩
  · have f4 : (-1 : Int32).toInt = -1 := by decide
    have g5 : p1.toInt = (-1 : Int32).toInt := by rw [h_3]
    refine ok_some.mpr ?_
    exact ⟨hIσ3, hfσ3⟩
  · have f6 : (-1 : Int32).toInt = -1 := by decide
    have g7 : p1.toInt ≠ (-1 : Int32).toInt := fun z => h_3 (Int32.toInt_inj.mp z)
    refine ok_bd.mpr ?_
    try unfold fX10_isIn
    refine ok_ite.mpr ⟨fun h_8 => ?_, fun h_8 => ?_⟩
    · have f9 : p1.toInt64.toInt = p1.toInt := Int32.toInt_toInt64 _
      have f10 : (0 : Int64).toInt = 0 := by decide
      have g11 : p1.toInt64.toInt < (0 : Int64).toInt := Int64.lt_iff_toInt_lt.mp h_8
      refine ok_some.mpr ?_
      refine ok_ite.mpr ⟨fun h_12 => ?_, fun h_12 => ?_⟩
      · have f13 : (0 : Int32).toInt = 0 := by decide
        have g14 : (0 : Int32).toInt = (0 : Int32).toInt := by rw [h_12]
        refine ok_some.mpr ?_
        exact ⟨hIσ3, hfσ3⟩
      · have f15 : (0 : Int32).toInt = 0 := by decide
        have g16 : (0 : Int32).toInt ≠ (0 : Int32).toInt := fun z => h_12 (Int32.toInt_inj.mp z)
        exfalso
        omega
    · have f17 : p1.toInt64.toInt = p1.toInt := Int32.toInt_toInt64 _
      have f18 : (0 : Int64).toInt = 0 := by decide
      have g19 : ¬ p1.toInt64.toInt < (0 : Int64).toInt := fun z => h_8 (Int64.lt_iff_toInt_lt.mpr z)
      refine ok_ite.mpr ⟨fun h_20 => ?_, fun h_20 => ?_⟩
      · have f21 : (1 : Int32).toInt = 1 := by decide
        have f22 : (r2 - (1 : Int32)).toInt = r2.toInt - (1 : Int32).toInt := isub_toInt (by omega) (by omega)
        have f23 : (r2 - 1).toInt64.toInt = (r2 - 1).toInt := Int32.toInt_toInt64 _
        have g24 : (r2 - 1).toInt64.toInt < p1.toInt64.toInt := Int64.lt_iff_toInt_lt.mp h_20
        refine ok_some.mpr ?_
        refine ok_ite.mpr ⟨fun h_25 => ?_, fun h_25 => ?_⟩
        · have f26 : (0 : Int32).toInt = 0 := by decide
          have g27 : (0 : Int32).toInt = (0 : Int32).toInt := by rw [h_25]
          refine ok_some.mpr ?_
          exact ⟨hIσ3, hfσ3⟩
        · have f28 : (0 : Int32).toInt = 0 := by decide
          have g29 : (0 : Int32).toInt ≠ (0 : Int32).toInt := fun z => h_25 (Int32.toInt_inj.mp z)
          exfalso
          omega
      · have f30 : (1 : Int32).toInt = 1 := by decide
        have f31 : (r2 - (1 : Int32)).toInt = r2.toInt - (1 : Int32).toInt := isub_toInt (by omega) (by omega)
        have f32 : (r2 - 1).toInt64.toInt = (r2 - 1).toInt := Int32.toInt_toInt64 _
        have g33 : ¬ (r2 - 1).toInt64.toInt < p1.toInt64.toInt := fun z => h_20 (Int64.lt_iff_toInt_lt.mpr z)
        refine ok_some.mpr ?_
        refine ok_ite.mpr ⟨fun h_34 => ?_, fun h_34 => ?_⟩
        · have f35 : (0 : Int32).toInt = 0 := by decide
          have g36 : (1 : Int32).toInt = (0 : Int32).toInt := by rw [h_34]
          exfalso
          omega
        · have f37 : (0 : Int32).toInt = 0 := by decide
          have g38 : (1 : Int32).toInt ≠ (0 : Int32).toInt := fun z => h_34 (Int32.toInt_inj.mp z)
          refine ok_gd.mpr ⟨gb_of (by omega) (by omega), ?_⟩
          refine ok_nm2 (fun v9_1_5 ev9_1_5 => ?_)
          have qv9_1_5 : v9_1_5.toInt = (σ3.1 34 p1.toNatClampNeg).toInt := congrArg Int32.toInt ev9_1_5
          refine ok_some.mpr ?_
          exact ⟨hIσ3, hfσ3⟩
set_option maxRecDepth 20000 in
set_option maxHeartbeats 2000000 in
theorem o_fX10_plan {σ : gS} (hIσ : JM σ) {p1 : Int32}  : Ok (fX10_plan σ p1) (fun out => JM out.2 ∧ Fr fr_fX10_plan σ out.2) := by
  unfold fX10_plan
  have hfσ : Fr fr_fX10_plan σ σ := Fr_r
  refine ok_bd.mpr ?_
  try unfold fX10_isIn
  refine ok_ite.mpr ⟨fun h_1 => ?_, fun h_1 => ?_⟩
  · have f2 : p1.toInt64.toInt = p1.toInt := Int32.toInt_toInt64 _
    have f3 : (1 : Int64).toInt = 1 := by decide
    have g4 : p1.toInt64.toInt < (1 : Int64).toInt := Int64.lt_iff_toInt_lt.mp h_1
    refine ok_some.mpr ?_
    refine ok_ite.mpr ⟨fun h_5 => ?_, fun h_5 => ?_⟩
    · have f6 : (0 : Int32).toInt = 0 := by decide
      have g7 : (0 : Int32).toInt = (0 : Int32).toInt := by rw [h_5]
      refine ok_some.mpr ?_
      have f8 : (-1 : Int32).toInt = -1 := by decide
      exact ⟨hIσ, hfσ⟩
    · have f9 : (0 : Int32).toInt = 0 := by decide
      have g10 : (0 : Int32).toInt ≠ (0 : Int32).toInt := fun z => h_5 (Int32.toInt_inj.mp z)
      exfalso
      omega
  · have f11 : p1.toInt64.toInt = p1.toInt := Int32.toInt_toInt64 _
    have f12 : (1 : Int64).toInt = 1 := by decide
    have g13 : ¬ p1.toInt64.toInt < (1 : Int64).toInt := fun z => h_1 (Int64.lt_iff_toInt_lt.mpr z)
    refine ok_ite.mpr ⟨fun h_14 => ?_, fun h_14 => ?_⟩
    · have f15 : (20 : Int64).toInt = 20 := by decide
      have g16 : (20 : Int64).toInt < p1.toInt64.toInt := Int64.lt_iff_toInt_lt.mp h_14
      refine ok_some.mpr ?_
      refine ok_ite.mpr ⟨fun h_17 => ?_, fun h_17 => ?_⟩
      · have f18 : (0 : Int32).toInt = 0 := by decide
        have g19 : (0 : Int32).toInt = (0 : Int32).toInt := by rw [h_17]
        refine ok_some.mpr ?_
        have f20 : (-1 : Int32).toInt = -1 := by decide
        exact ⟨hIσ, hfσ⟩
      · have f21 : (0 : Int32).toInt = 0 := by decide
        have g22 : (0 : Int32).toInt ≠ (0 : Int32).toInt := fun z => h_17 (Int32.toInt_inj.mp z)
        exfalso
        omega
    · have f23 : (20 : Int64).toInt = 20 := by decide
      have g24 : ¬ (20 : Int64).toInt < p1.toInt64.toInt := fun z => h_14 (Int64.lt_iff_toInt_lt.mpr z)
      refine ok_some.mpr ?_
      refine ok_ite.mpr ⟨fun h_25 => ?_, fun h_25 => ?_⟩
      · have f26 : (1 : Int32).toInt = 1 := by decide
        have f27 : (0 : Int32).toInt = 0 := by decide
        have g28 : (1 : Int32).toInt = (0 : Int32).toInt := by rw [h_25]
        exfalso
        omega
      · have f29 : (1 : Int32).toInt = 1 := by decide
        have f30 : (0 : Int32).toInt = 0 := by decide
        have g31 : (1 : Int32).toInt ≠ (0 : Int32).toInt := fun z => h_25 (Int32.toInt_inj.mp z)
        refine ok_nm2 (fun x4_4 ex4_4 => ?_)
        have qx4_4 : x4_4.toInt = 0 := by rw [ex4_4]; decide
        refine ok_lpc (I := fun n s => n = (60 + 1 - s.1.toInt).toNat ∧ JM s.2 ∧ Fr fr_fX10_plan σ s.2 ∧ 0 ≤ s.1.toInt ∧ s.1.toInt ≤ 60) (fun rec16_5r n_5 s_5 hs_5 hrec_5 => ?_) K9 ((60 + 1 - x4_4.toInt).toNat) (x4_4, σ) ⟨rfl, hIσ, hfσ, (show 0 ≤ x4_4.toInt by omega), (show x4_4.toInt ≤ 60 by omega)⟩ (by unfold K9; omega)
        obtain ⟨a2_5, σ1_5⟩ := s_5
        obtain ⟨hn_5, hIσ1_5, hfσ1_5, b0a2_5, b1a2_5⟩ := hs_5
        dsimp only at hn_5 hIσ1_5 hfσ1_5 b0a2_5 b1a2_5
        unfold bX10_plan_16
        try dsimp only
        refine ok_ite.mpr ⟨fun h_32 => ?_, fun h_32 => ?_⟩
        · have f33 : (60 : Int32).toInt = 60 := by decide
          have g34 : (60 : Int32).toInt ≤ a2_5.toInt := Int32.le_iff_toInt_le.mp h_32
          refine ok_bd2.mpr ((o_fX10_treeOf hIσ1_5  ).mono (fun o_35 ho_36 => ?_))
          obtain ⟨r7_105, σ8_105⟩ := o_35
          obtain ⟨hIσ8_105, hcσ8_105, r0r7_105, r1r7_105⟩ := ho_36
          dsimp only at hIσ8_105 hcσ8_105 r0r7_105 r1r7_105 ⊢
          have hfσ8_105 : Fr fr_fX10_plan σ σ8_105 := Fr_c hfσ1_5 hcσ8_105 (by decide)
          refine ok_nm.mpr ?_
          refine ok_nm2 (fun x10_105_106 ex10_105_106 => ?_)
          have qx10_105_106 : x10_105_106.toInt = 0 := by rw [ex10_105_106]; decide
          refine ok_lpc (I := fun n s => n = (12 + 1 - s.1.toInt).toNat ∧ JM s.2 ∧ Fr fr_fX10_plan σ s.2 ∧ 0 ≤ s.1.toInt ∧ s.1.toInt ≤ 12) (fun rec42_107r n_107 s_107 hs_107 hrec_107 => ?_) K9 ((12 + 1 - x10_105_106.toInt).toNat) (x10_105_106, σ8_105) ⟨rfl, hIσ8_105, hfσ8_105, (show 0 ≤ x10_105_106.toInt by omega), (show x10_105_106.toInt ≤ 12 by omega)⟩ (by unfold K9; omega)
          obtain ⟨a3_107, σ1_107⟩ := s_107
          obtain ⟨hn_107, hIσ1_107, hfσ1_107, b0a3_107, b1a3_107⟩ := hs_107
          dsimp only at hn_107 hIσ1_107 hfσ1_107 b0a3_107 b1a3_107
          unfold bX10_plan_42
          try dsimp only
          refine ok_ite.mpr ⟨fun h_37 => ?_, fun h_37 => ?_⟩
          · have g38 : r7_105.toInt ≤ a3_107.toInt := Int32.le_iff_toInt_le.mp h_37
            refine ok_nm2 (fun x12_207 ex12_207 => ?_)
            have qx12_207 : x12_207.toInt = 0 := by rw [ex12_207]; decide
            refine ok_nm2 (fun x13_207 ex13_207 => ?_)
            have qx13_207 : x13_207.toInt = 0 := by rw [ex13_207]; decide
            refine ok_lpc (I := fun n s => n = (60 + 1 - s.2.toInt).toNat ∧ 0 ≤ s.2.toInt ∧ s.2.toInt ≤ 60) (fun rec153_210r n_210 s_210 hs_210 hrec_210 => ?_) K9 ((60 + 1 - x13_207.toInt).toNat) (x12_207, x13_207) ⟨rfl, (show 0 ≤ x13_207.toInt by omega), (show x13_207.toInt ≤ 60 by omega)⟩ (by unfold K9; omega)
            obtain ⟨a3_210, a4_210⟩ := s_210
            obtain ⟨hn_210, b0a4_210, b1a4_210⟩ := hs_210
            dsimp only at hn_210 b0a4_210 b1a4_210
            unfold bX10_plan_153
            try dsimp only
            refine ok_ite.mpr ⟨fun h_39 => ?_, fun h_39 => ?_⟩
            · have g40 : (60 : Int32).toInt ≤ a4_210.toInt := Int32.le_iff_toInt_le.mp h_39
              refine ok_some.mpr ?_
              exact ⟨hIσ1_107, hfσ1_107⟩
            · have g41 : ¬ (60 : Int32).toInt ≤ a4_210.toInt := fun z => h_39 (Int32.le_iff_toInt_le.mpr z)
              refine ok_gd.mpr ⟨gb_of (by omega) (by omega), ?_⟩
              refine ok_nm2 (fun v15_211 ev15_211 => ?_)
              have qv15_211 : v15_211.toInt = (σ1_107.1 36 a4_210.toNatClampNeg).toInt := congrArg Int32.toInt ev15_211
              refine ok_ite.mpr ⟨fun h_42 => ?_, fun h_42 => ?_⟩
              · have g43 : v15_211.toInt = (0 : Int32).toInt := by rw [h_42]
                refine ok_nm2 (fun x17_211 ex17_211 => ?_)
                have f44 : (a4_210 + (1 : Int32)).toInt = a4_210.toInt + (1 : Int32).toInt := iadd_toInt (by omega) (by omega)
                have qx17_211 : x17_211.toInt = (a4_210 + 1).toInt := congrArg Int32.toInt ex17_211
                exact hrec_210 _ (a3_210, x17_211) (show (60 + 1 - x17_211.toInt).toNat < n_210 by omega) ⟨rfl, (show 0 ≤ x17_211.toInt by omega), (show x17_211.toInt ≤ 60 by omega)⟩
              · have g45 : v15_211.toInt ≠ (0 : Int32).toInt := fun z => h_42 (Int32.toInt_inj.mp z)
                refine ok_nm2 (fun x18_211 ex18_211 => ?_)
                have qx18_211 : x18_211.toInt = (a3_210 + 1).toInt := congrArg Int32.toInt ex18_211
                refine ok_nm2 (fun x19_211 ex19_211 => ?_)
                have f46 : (a4_210 + (1 : Int32)).toInt = a4_210.toInt + (1 : Int32).toInt := iadd_toInt (by omega) (by omega)
                have qx19_211 : x19_211.toInt = (a4_210 + 1).toInt := congrArg Int32.toInt ex19_211
                exact hrec_210 _ (x18_211, x19_211) (show (60 + 1 - x19_211.toInt).toNat < n_210 by omega) ⟨rfl, (show 0 ≤ x19_211.toInt by omega), (show x19_211.toInt ≤ 60 by omega)⟩
          · have g47 : ¬ r7_105.toInt ≤ a3_107.toInt := fun z => h_37 (Int32.le_iff_toInt_le.mpr z)
            refine ok_nm2 (fun x20_207 ex20_207 => ?_)
            have qx20_207 : x20_207.toInt = 0 := by rw [ex20_207]; decide
            refine ok_nm2 (fun x21_207 ex21_207 => ?_)
            have qx21_207 : x21_207.toInt = 0 := by rw [ex21_207]; decide
            refine ok_lpc (I := fun n s => n = (20 + 1 - s.2.1.toInt).toNat ∧ JM s.2.2 ∧ Fr fr_fX10_plan σ s.2.2 ∧ 0 ≤ s.1.toInt ∧ s.1.toInt ≤ 20 ∧ 0 ≤ s.2.1.toInt ∧ s.2.1.toInt ≤ 20) (fun rec53_212r n_212 s_212 hs_212 hrec_212 => ?_) K9 ((20 + 1 - x21_207.toInt).toNat) (x20_207, x21_207, σ1_107) ⟨rfl, hIσ1_107, hfσ1_107, (show 0 ≤ x20_207.toInt by omega), (show x20_207.toInt ≤ 20 by omega), (show 0 ≤ x21_207.toInt by omega), (show x21_207.toInt ≤ 20 by omega)⟩ (by unfold K9; omega)
            obtain ⟨a4_212, a5_212, σ1_212⟩ := s_212
            obtain ⟨hn_212, hIσ1_212, hfσ1_212, b0a4_212, b1a4_212, b0a5_212, b1a5_212⟩ := hs_212
            dsimp only at hn_212 hIσ1_212 hfσ1_212 b0a4_212 b1a4_212 b0a5_212 b1a5_212
            unfold bX10_plan_53
            try dsimp only
            refine ok_bd.mpr ?_
            try unfold fX10_points
            have f48 : (8 : Int32).toInt = 8 := by decide
            refine ok_gd.mpr ⟨gb_of (by omega) (by omega), ?_⟩
            refine ok_nm2 (fun v1_225 ev1_225 => ?_)
            have f49 : 0 ≤ (σ1_212.1 15 8).toInt ∧ (σ1_212.1 15 8).toInt ≤ 20 := hIσ1_212 15 8
            have qv1_225 : v1_225.toInt = (σ1_212.1 15 8).toInt := congrArg Int32.toInt ev1_225
            refine ok_some.mpr ?_
            refine ok_ite.mpr ⟨fun h_50 => ?_, fun h_50 => ?_⟩
            · have g51 : v1_225.toInt ≤ a5_212.toInt := Int32.le_iff_toInt_le.mp h_50
              refine ok_nm2 (fun x25_224_226 ex25_224_226 => ?_)
              have f52 : (a3_107 + (1 : Int32)).toInt = a3_107.toInt + (1 : Int32).toInt := iadd_toInt (by omega) (by omega)
              have qx25_224_226 : x25_224_226.toInt = (a3_107 + 1).toInt := congrArg Int32.toInt ex25_224_226
              exact hrec_107 _ (x25_224_226, σ1_212) (show (12 + 1 - x25_224_226.toInt).toNat < n_107 by omega) ⟨rfl, hIσ1_212, hfσ1_212, (show 0 ≤ x25_224_226.toInt by omega), (show x25_224_226.toInt ≤ 12 by omega)⟩
            · have g53 : ¬ v1_225.toInt ≤ a5_212.toInt := fun z => h_50 (Int32.le_iff_toInt_le.mpr z)
              refine ok_ite.mpr ⟨fun h_54 => ?_, fun h_54 => ?_⟩
              · have g55 : p1.toInt ≤ a4_212.toInt := Int32.le_iff_toInt_le.mp h_54
                refine ok_nm2 (fun x27_224_226 ex27_224_226 => ?_)
                have f56 : (a3_107 + (1 : Int32)).toInt = a3_107.toInt + (1 : Int32).toInt := iadd_toInt (by omega) (by omega)
                have qx27_224_226 : x27_224_226.toInt = (a3_107 + 1).toInt := congrArg Int32.toInt ex27_224_226
                exact hrec_107 _ (x27_224_226, σ1_212) (show (12 + 1 - x27_224_226.toInt).toNat < n_107 by omega) ⟨rfl, hIσ1_212, hfσ1_212, (show 0 ≤ x27_224_226.toInt by omega), (show x27_224_226.toInt ≤ 12 by omega)⟩
              · have g57 : ¬ p1.toInt ≤ a4_212.toInt := fun z => h_54 (Int32.le_iff_toInt_le.mpr z)
                refine ok_gd.mpr ⟨gb_of (by omega) (by omega), ?_⟩
                refine ok_nm2 (fun v28_224_226 ev28_224_226 => ?_)
                have qv28_224_226 : v28_224_226.toInt = (σ1_212.1 34 a3_107.toNatClampNeg).toInt := congrArg Int32.toInt ev28_224_226
                refine ok_bd.mpr ((o_fX10_rowOf hIσ1_212 (p1 := (v28_224_226 / 100)) (p2 := a5_212) ).mono (fun r30_224_226 ho_59 => ?_))
                obtain ⟨r0r30_224_226, r1r30_224_226⟩ := ho_59
                refine ok_nm.mpr ?_
                refine ok_gd.mpr ⟨gb_of (by omega) (by omega), ?_⟩
                refine ok_nm2 (fun v32_224_226_227 ev32_224_226_227 => ?_)
                have qv32_224_226_227 : v32_224_226_227.toInt = (σ1_212.1 34 a3_107.toNatClampNeg).toInt := congrArg Int32.toInt ev32_224_226_227
                refine ok_bd.mpr ((o_fX10_rowOf hIσ1_212 (p1 := (irm v32_224_226_227 100)) (p2 := a5_212) ).mono (fun r34_224_226_227 ho_61 => ?_))
                obtain ⟨r0r34_224_226_227, r1r34_224_226_227⟩ := ho_61
                refine ok_nm.mpr ?_
                refine ok_ite.mpr ⟨fun h_62 => ?_, fun h_62 => ?_⟩
                · have f63 : (-1 : Int32).toInt = -1 := by decide
                  have g64 : r30_224_226.toInt = (-1 : Int32).toInt := by rw [h_62]
                  refine ok_nm2 (fun x37_224_226_227_228 ex37_224_226_227_228 => ?_)
                  have f65 : (a5_212 + (1 : Int32)).toInt = a5_212.toInt + (1 : Int32).toInt := iadd_toInt (by omega) (by omega)
                  have qx37_224_226_227_228 : x37_224_226_227_228.toInt = (a5_212 + 1).toInt := congrArg Int32.toInt ex37_224_226_227_228
                  exact hrec_212 _ (a4_212, x37_224_226_227_228, σ1_212) (show (20 + 1 - x37_224_226_227_228.toInt).toNat < n_212 by omega) ⟨rfl, hIσ1_212, hfσ1_212, (show 0 ≤ a4_212.toInt by omega), (show a4_212.toInt ≤ 20 by omega), (show 0 ≤ x37_224_226_227_228.toInt by omega), (show x37_224_226_227_228.toInt ≤ 20 by omega)⟩
                · have f66 : (-1 : Int32).toInt = -1 := by decide
                  have g67 : r30_224_226.toInt ≠ (-1 : Int32).toInt := fun z => h_62 (Int32.toInt_inj.mp z)
                  refine ok_ite.mpr ⟨fun h_68 => ?_, fun h_68 => ?_⟩
                  · have g69 : r34_224_226_227.toInt = (-1 : Int32).toInt := by rw [h_68]
                    refine ok_nm2 (fun x43_224_226_227_228 ex43_224_226_227_228 => ?_)
                    have f70 : (a5_212 + (1 : Int32)).toInt = a5_212.toInt + (1 : Int32).toInt := iadd_toInt (by omega) (by omega)
                    have qx43_224_226_227_228 : x43_224_226_227_228.toInt = (a5_212 + 1).toInt := congrArg Int32.toInt ex43_224_226_227_228
                    exact hrec_212 _ (a4_212, x43_224_226_227_228, σ1_212) (show (20 + 1 - x43_224_226_227_228.toInt).toNat < n_212 by omega) ⟨rfl, hIσ1_212, hfσ1_212, (show 0 ≤ a4_212.toInt by omega), (show a4_212.toInt ≤ 20 by omega), (show 0 ≤ x43_224_226_227_228.toInt by omega), (show x43_224_226_227_228.toInt ≤ 20 by omega)⟩
                  · have g71 : r34_224_226_227.toInt ≠ (-1 : Int32).toInt := fun z => h_68 (Int32.toInt_inj.mp z)
                    refine ok_gd.mpr ⟨gb_of (by omega) (by omega), ?_⟩
                    refine ok_nm2 (fun σ39_224_226_227_228 eσ39_224_226_227_228 => ?_)
                    have f72 : (vp_nar .boolean 1).toInt = 1 := by decide
                    have hIσ39_224_226_227_228 : JM σ39_224_226_227_228 := by rw [eσ39_224_226_227_228]; exact JM_w hIσ1_212 (Int32.le_toInt _) (Int32.toInt_le _)
                    have hfσ39_224_226_227_228 : Fr fr_fX10_plan σ σ39_224_226_227_228 := by rw [eσ39_224_226_227_228]; exact Fr_w0 hfσ1_212 (by decide)
                    refine ok_gd.mpr ⟨gb_of (by omega) (by omega), ?_⟩
                    refine ok_nm2 (fun σ40_224_226_227_228 eσ40_224_226_227_228 => ?_)
                    have hIσ40_224_226_227_228 : JM σ40_224_226_227_228 := by rw [eσ40_224_226_227_228]; exact JM_w hIσ39_224_226_227_228 (Int32.le_toInt _) (Int32.toInt_le _)
                    have hfσ40_224_226_227_228 : Fr fr_fX10_plan σ σ40_224_226_227_228 := by rw [eσ40_224_226_227_228]; exact Fr_w0 hfσ39_224_226_227_228 (by decide)
                    refine ok_nm2 (fun x41_224_226_227_228 ex41_224_226_227_228 => ?_)
                    have f73 : (a4_212 + (1 : Int32)).toInt = a4_212.toInt + (1 : Int32).toInt := iadd_toInt (by omega) (by omega)
                    have qx41_224_226_227_228 : x41_224_226_227_228.toInt = (a4_212 + 1).toInt := congrArg Int32.toInt ex41_224_226_227_228
                    refine ok_nm2 (fun x42_224_226_227_228 ex42_224_226_227_228 => ?_)
                    have f74 : (a5_212 + (1 : Int32)).toInt = a5_212.toInt + (1 : Int32).toInt := iadd_toInt (by omega) (by omega)
                    have qx42_224_226_227_228 : x42_224_226_227_228.toInt = (a5_212 + 1).toInt := congrArg Int32.toInt ex42_224_226_227_228
                    exact hrec_212 _ (x41_224_226_227_228, x42_224_226_227_228, σ40_224_226_227_228) (show (20 + 1 - x42_224_226_227_228.toInt).toNat < n_212 by omega) ⟨rfl, hIσ40_224_226_227_228, hfσ40_224_226_227_228, (show 0 ≤ x41_224_226_227_228.toInt by omega), (show x41_224_226_227_228.toInt ≤ 20 by omega), (show 0 ≤ x42_224_226_227_228.toInt by omega), (show x42_224_226_227_228.toInt ≤ 20 by omega)⟩
        · have f75 : (60 : Int32).toInt = 60 := by decide
          have g76 : ¬ (60 : Int32).toInt ≤ a2_5.toInt := fun z => h_32 (Int32.le_iff_toInt_le.mpr z)
          refine ok_gd.mpr ⟨gb_of (by omega) (by omega), ?_⟩
          refine ok_nm2 (fun σ44_105 eσ44_105 => ?_)
          have f77 : (vp_nar .boolean 0).toInt = 0 := by decide
          have hIσ44_105 : JM σ44_105 := by rw [eσ44_105]; exact JM_w hIσ1_5 (Int32.le_toInt _) (Int32.toInt_le _)
          have hfσ44_105 : Fr fr_fX10_plan σ σ44_105 := by rw [eσ44_105]; exact Fr_w0 hfσ1_5 (by decide)
          refine ok_nm2 (fun x45_105 ex45_105 => ?_)
          have f78 : (a2_5 + (1 : Int32)).toInt = a2_5.toInt + (1 : Int32).toInt := iadd_toInt (by omega) (by omega)
          have qx45_105 : x45_105.toInt = (a2_5 + 1).toInt := congrArg Int32.toInt ex45_105
          exact hrec_5 _ (x45_105, σ44_105) (show (60 + 1 - x45_105.toInt).toNat < n_5 by omega) ⟨rfl, hIσ44_105, hfσ44_105, (show 0 ≤ x45_105.toInt by omega), (show x45_105.toInt ≤ 60 by omega)⟩
set_option maxRecDepth 20000 in
set_option maxHeartbeats 2000000 in
theorem o_fX10_putsAside {σ : gS} (hIσ : JM σ)   : Ok (fX10_putsAside σ ) (fun out => JM out ∧ Fr fr_fX10_putsAside σ out) := by
  unfold fX10_putsAside
  have hfσ : Fr fr_fX10_putsAside σ σ := Fr_r
  refine ok_nm2 (fun x1 ex1 => ?_)
  have f1 : (0 : Int32).toInt = 0 := by decide
  have qx1 : x1.toInt = 0 := by rw [ex1]; decide
  refine ok_lpc (I := fun n s => n = (120 + 1 - s.1.toInt).toNat ∧ JM s.2 ∧ Fr fr_fX10_putsAside σ s.2 ∧ 0 ≤ s.1.toInt ∧ s.1.toInt ≤ 120) (fun rec2_1r n_1 s_1 hs_1 hrec_1 => ?_) K9 ((120 + 1 - x1.toInt).toNat) (x1, σ) ⟨rfl, hIσ, hfσ, (show 0 ≤ x1.toInt by omega), (show x1.toInt ≤ 120 by omega)⟩ (by unfold K9; omega)
  obtain ⟨a1_1, σ1_1⟩ := s_1
  obtain ⟨hn_1, hIσ1_1, hfσ1_1, b0a1_1, b1a1_1⟩ := hs_1
  dsimp only at hn_1 hIσ1_1 hfσ1_1 b0a1_1 b1a1_1
  unfold bX10_putsAside_2
  try dsimp only
  refine ok_ite.mpr ⟨fun h_2 => ?_, fun h_2 => ?_⟩
  · have f3 : (76 : Int32).toInt = 76 := by decide
    have g4 : (76 : Int32).toInt ≤ a1_1.toInt := Int32.le_iff_toInt_le.mp h_2
    refine ok_nm2 (fun x3_2 ex3_2 => ?_)
    have qx3_2 : x3_2.toInt = 0 := by rw [ex3_2]; decide
    refine ok_lpc (I := fun n s => n = (12 + 1 - s.1.toInt).toNat ∧ JM s.2 ∧ Fr fr_fX10_putsAside σ s.2 ∧ 0 ≤ s.1.toInt ∧ s.1.toInt ≤ 12) (fun rec28_3r n_3 s_3 hs_3 hrec_3 => ?_) K9 ((12 + 1 - x3_2.toInt).toNat) (x3_2, σ1_1) ⟨rfl, hIσ1_1, hfσ1_1, (show 0 ≤ x3_2.toInt by omega), (show x3_2.toInt ≤ 12 by omega)⟩ (by unfold K9; omega)
    obtain ⟨a1_3, σ1_3⟩ := s_3
    obtain ⟨hn_3, hIσ1_3, hfσ1_3, b0a1_3, b1a1_3⟩ := hs_3
    dsimp only at hn_3 hIσ1_3 hfσ1_3 b0a1_3 b1a1_3
    unfold bX10_putsAside_28
    try dsimp only
    refine ok_ite.mpr ⟨fun h_5 => ?_, fun h_5 => ?_⟩
    · have f6 : (12 : Int32).toInt = 12 := by decide
      have g7 : (12 : Int32).toInt ≤ a1_3.toInt := Int32.le_iff_toInt_le.mp h_5
      refine ok_nm2 (fun σ5_4 eσ5_4 => ?_)
      have hIσ5_4 : JM σ5_4 := by rw [eσ5_4]; exact JM_w hIσ1_3 (Int32.le_toInt _) (Int32.toInt_le _)
      have hfσ5_4 : Fr fr_fX10_putsAside σ σ5_4 := by rw [eσ5_4]; exact Fr_w hfσ1_3 (by decide)
      have sσ5_4_0_36 : (σ5_4.1 0 36).toInt = (σ1_3.1 0 36).toInt := by rw [eσ5_4]; rfl
      refine ok_some.mpr ?_
      exact ⟨hIσ5_4, hfσ5_4⟩
    · have f8 : (12 : Int32).toInt = 12 := by decide
      have g9 : ¬ (12 : Int32).toInt ≤ a1_3.toInt := fun z => h_5 (Int32.le_iff_toInt_le.mpr z)
      refine ok_gd.mpr ⟨gb_of (by omega) (by omega), ?_⟩
      refine ok_nm2 (fun v6_4 ev6_4 => ?_)
      have qv6_4 : v6_4.toInt = (σ1_3.1 27 a1_3.toNatClampNeg).toInt := congrArg Int32.toInt ev6_4
      refine ok_gd.mpr ⟨gb_of (by omega) (by omega), ?_⟩
      refine ok_nm2 (fun σ7_4 eσ7_4 => ?_)
      have hIσ7_4 : JM σ7_4 := by rw [eσ7_4]; exact JM_w hIσ1_3 (Int32.le_toInt _) (Int32.toInt_le _)
      have hfσ7_4 : Fr fr_fX10_putsAside σ σ7_4 := by rw [eσ7_4]; exact Fr_w0 hfσ1_3 (by decide)
      have sσ7_4_0_36 : (σ7_4.1 0 36).toInt = (σ1_3.1 0 36).toInt := by rw [eσ7_4]; rfl
      refine ok_nm2 (fun x8_4 ex8_4 => ?_)
      have f10 : (1 : Int32).toInt = 1 := by decide
      have f11 : (a1_3 + (1 : Int32)).toInt = a1_3.toInt + (1 : Int32).toInt := iadd_toInt (by omega) (by omega)
      have qx8_4 : x8_4.toInt = (a1_3 + 1).toInt := congrArg Int32.toInt ex8_4
      exact hrec_3 _ (x8_4, σ7_4) (show (12 + 1 - x8_4.toInt).toNat < n_3 by omega) ⟨rfl, hIσ7_4, hfσ7_4, (show 0 ≤ x8_4.toInt by omega), (show x8_4.toInt ≤ 12 by omega)⟩
  · have f12 : (76 : Int32).toInt = 76 := by decide
    have g13 : ¬ (76 : Int32).toInt ≤ a1_1.toInt := fun z => h_2 (Int32.le_iff_toInt_le.mpr z)
    refine ok_gd.mpr ⟨gb_of (by omega) (by omega), ?_⟩
    refine ok_nm2 (fun v9_2 ev9_2 => ?_)
    have qv9_2 : v9_2.toInt = (σ1_1.1 28 a1_1.toNatClampNeg).toInt := congrArg Int32.toInt ev9_2
    refine ok_gd.mpr ⟨gb_of (by omega) (by omega), ?_⟩
    refine ok_nm2 (fun σ10_2 eσ10_2 => ?_)
    have hIσ10_2 : JM σ10_2 := by rw [eσ10_2]; exact JM_w hIσ1_1 (Int32.le_toInt _) (Int32.toInt_le _)
    have hfσ10_2 : Fr fr_fX10_putsAside σ σ10_2 := by rw [eσ10_2]; exact Fr_w0 hfσ1_1 (by decide)
    have sσ10_2_0_36 : (σ10_2.1 0 36).toInt = (σ1_1.1 0 36).toInt := by rw [eσ10_2]; rfl
    refine ok_nm2 (fun x11_2 ex11_2 => ?_)
    have f14 : (1 : Int32).toInt = 1 := by decide
    have f15 : (a1_1 + (1 : Int32)).toInt = a1_1.toInt + (1 : Int32).toInt := iadd_toInt (by omega) (by omega)
    have qx11_2 : x11_2.toInt = (a1_1 + 1).toInt := congrArg Int32.toInt ex11_2
    exact hrec_1 _ (x11_2, σ10_2) (show (120 + 1 - x11_2.toInt).toNat < n_1 by omega) ⟨rfl, hIσ10_2, hfσ10_2, (show 0 ≤ x11_2.toInt by omega), (show x11_2.toInt ≤ 120 by omega)⟩
set_option maxRecDepth 20000 in
set_option maxHeartbeats 2000000 in
theorem o_fX10_takesBack {σ : gS} (hIσ : JM σ)   : Ok (fX10_takesBack σ ) (fun out => JM out ∧ Fr fr_fX10_takesBack σ out) := by
  unfold fX10_takesBack
  have hfσ : Fr fr_fX10_takesBack σ σ := Fr_r
  refine ok_nm2 (fun x1 ex1 => ?_)
  have f1 : (0 : Int32).toInt = 0 := by decide
  have qx1 : x1.toInt = 0 := by rw [ex1]; decide
  refine ok_lpc (I := fun n s => n = (120 + 1 - s.1.toInt).toNat ∧ JM s.2 ∧ Fr fr_fX10_takesBack σ s.2 ∧ 0 ≤ s.1.toInt ∧ s.1.toInt ≤ 120) (fun rec2_1r n_1 s_1 hs_1 hrec_1 => ?_) K9 ((120 + 1 - x1.toInt).toNat) (x1, σ) ⟨rfl, hIσ, hfσ, (show 0 ≤ x1.toInt by omega), (show x1.toInt ≤ 120 by omega)⟩ (by unfold K9; omega)
  obtain ⟨a1_1, σ1_1⟩ := s_1
  obtain ⟨hn_1, hIσ1_1, hfσ1_1, b0a1_1, b1a1_1⟩ := hs_1
  dsimp only at hn_1 hIσ1_1 hfσ1_1 b0a1_1 b1a1_1
  unfold bX10_takesBack_2
  try dsimp only
  refine ok_ite.mpr ⟨fun h_2 => ?_, fun h_2 => ?_⟩
  · have f3 : (76 : Int32).toInt = 76 := by decide
    have g4 : (76 : Int32).toInt ≤ a1_1.toInt := Int32.le_iff_toInt_le.mp h_2
    refine ok_nm2 (fun x3_2 ex3_2 => ?_)
    have qx3_2 : x3_2.toInt = 0 := by rw [ex3_2]; decide
    refine ok_lpc (I := fun n s => n = (12 + 1 - s.1.toInt).toNat ∧ JM s.2 ∧ Fr fr_fX10_takesBack σ s.2 ∧ 0 ≤ s.1.toInt ∧ s.1.toInt ≤ 12) (fun rec28_3r n_3 s_3 hs_3 hrec_3 => ?_) K9 ((12 + 1 - x3_2.toInt).toNat) (x3_2, σ1_1) ⟨rfl, hIσ1_1, hfσ1_1, (show 0 ≤ x3_2.toInt by omega), (show x3_2.toInt ≤ 12 by omega)⟩ (by unfold K9; omega)
    obtain ⟨a1_3, σ1_3⟩ := s_3
    obtain ⟨hn_3, hIσ1_3, hfσ1_3, b0a1_3, b1a1_3⟩ := hs_3
    dsimp only at hn_3 hIσ1_3 hfσ1_3 b0a1_3 b1a1_3
    unfold bX10_takesBack_28
    try dsimp only
    refine ok_ite.mpr ⟨fun h_5 => ?_, fun h_5 => ?_⟩
    · have f6 : (12 : Int32).toInt = 12 := by decide
      have g7 : (12 : Int32).toInt ≤ a1_3.toInt := Int32.le_iff_toInt_le.mp h_5
      refine ok_nm2 (fun σ5_4 eσ5_4 => ?_)
      have hIσ5_4 : JM σ5_4 := by rw [eσ5_4]; exact JM_w hIσ1_3 (Int32.le_toInt _) (Int32.toInt_le _)
      have hfσ5_4 : Fr fr_fX10_takesBack σ σ5_4 := by rw [eσ5_4]; exact Fr_w hfσ1_3 (by decide)
      have sσ5_4_0_52 : (σ5_4.1 0 52).toInt = (σ1_3.1 0 52).toInt := by rw [eσ5_4]; rfl
      refine ok_some.mpr ?_
      exact ⟨hIσ5_4, hfσ5_4⟩
    · have f8 : (12 : Int32).toInt = 12 := by decide
      have g9 : ¬ (12 : Int32).toInt ≤ a1_3.toInt := fun z => h_5 (Int32.le_iff_toInt_le.mpr z)
      refine ok_gd.mpr ⟨gb_of (by omega) (by omega), ?_⟩
      refine ok_nm2 (fun v6_4 ev6_4 => ?_)
      have qv6_4 : v6_4.toInt = (σ1_3.1 38 a1_3.toNatClampNeg).toInt := congrArg Int32.toInt ev6_4
      refine ok_gd.mpr ⟨gb_of (by omega) (by omega), ?_⟩
      refine ok_nm2 (fun σ7_4 eσ7_4 => ?_)
      have hIσ7_4 : JM σ7_4 := by rw [eσ7_4]; exact JM_w hIσ1_3 (Int32.le_toInt _) (Int32.toInt_le _)
      have hfσ7_4 : Fr fr_fX10_takesBack σ σ7_4 := by rw [eσ7_4]; exact Fr_w0 hfσ1_3 (by decide)
      have sσ7_4_0_52 : (σ7_4.1 0 52).toInt = (σ1_3.1 0 52).toInt := by rw [eσ7_4]; rfl
      refine ok_nm2 (fun x8_4 ex8_4 => ?_)
      have f10 : (1 : Int32).toInt = 1 := by decide
      have f11 : (a1_3 + (1 : Int32)).toInt = a1_3.toInt + (1 : Int32).toInt := iadd_toInt (by omega) (by omega)
      have qx8_4 : x8_4.toInt = (a1_3 + 1).toInt := congrArg Int32.toInt ex8_4
      exact hrec_3 _ (x8_4, σ7_4) (show (12 + 1 - x8_4.toInt).toNat < n_3 by omega) ⟨rfl, hIσ7_4, hfσ7_4, (show 0 ≤ x8_4.toInt by omega), (show x8_4.toInt ≤ 12 by omega)⟩
  · have f12 : (76 : Int32).toInt = 76 := by decide
    have g13 : ¬ (76 : Int32).toInt ≤ a1_1.toInt := fun z => h_2 (Int32.le_iff_toInt_le.mpr z)
    refine ok_gd.mpr ⟨gb_of (by omega) (by omega), ?_⟩
    refine ok_nm2 (fun v9_2 ev9_2 => ?_)
    have qv9_2 : v9_2.toInt = (σ1_1.1 37 a1_1.toNatClampNeg).toInt := congrArg Int32.toInt ev9_2
    refine ok_gd.mpr ⟨gb_of (by omega) (by omega), ?_⟩
    refine ok_nm2 (fun σ10_2 eσ10_2 => ?_)
    have hIσ10_2 : JM σ10_2 := by rw [eσ10_2]; exact JM_w hIσ1_1 (Int32.le_toInt _) (Int32.toInt_le _)
    have hfσ10_2 : Fr fr_fX10_takesBack σ σ10_2 := by rw [eσ10_2]; exact Fr_w0 hfσ1_1 (by decide)
    have sσ10_2_0_52 : (σ10_2.1 0 52).toInt = (σ1_1.1 0 52).toInt := by rw [eσ10_2]; rfl
    refine ok_nm2 (fun x11_2 ex11_2 => ?_)
    have f14 : (1 : Int32).toInt = 1 := by decide
    have f15 : (a1_1 + (1 : Int32)).toInt = a1_1.toInt + (1 : Int32).toInt := iadd_toInt (by omega) (by omega)
    have qx11_2 : x11_2.toInt = (a1_1 + 1).toInt := congrArg Int32.toInt ex11_2
    exact hrec_1 _ (x11_2, σ10_2) (show (120 + 1 - x11_2.toInt).toNat < n_1 by omega) ⟨rfl, hIσ10_2, hfσ10_2, (show 0 ≤ x11_2.toInt by omega), (show x11_2.toInt ≤ 120 by omega)⟩
set_option maxRecDepth 20000 in
set_option maxHeartbeats 2000000 in
theorem o_fX10_placeBy {σ : gS} (hIσ : JM σ) {p1 : Int32} {p2 : Int32} {p3 : Int32} (h0p2 : 0 ≤ p2.toInt) (h1p2 : p2.toInt ≤ 11) (h0p3 : 0 ≤ p3.toInt) (h1p3 : p3.toInt ≤ 1) : Ok (fX10_placeBy σ p1 p2 p3) (fun out => JM out.2 ∧ Fr fr_fX10_placeBy σ out.2) := by
  unfold fX10_placeBy
  have hfσ : Fr fr_fX10_placeBy σ σ := Fr_r
  refine ok_bd.mpr ((o_fX10_putsAside hIσ  ).mono (fun σ2 ho_2 => ?_))
  obtain ⟨hIσ2, hcσ2⟩ := ho_2
  have hfσ2 : Fr fr_fX10_placeBy σ σ2 := Fr_c hfσ hcσ2 (by decide)
  refine ok_nm2 (fun σ3 eσ3 => ?_)
  have hIσ3 : JM σ3 := by rw [eσ3]; exact JM_w hIσ2 (Int32.le_toInt _) (Int32.toInt_le _)
  have hfσ3 : Fr fr_fX10_placeBy σ σ3 := by rw [eσ3]; exact Fr_w hfσ2 (by decide)
  refine ok_bd2.mpr ((o_fX10_starts hIσ3  ).mono (fun o_3 ho_4 => ?_))
  obtain ⟨r5, σ6⟩ := o_3
  obtain ⟨hIσ6, hcσ6⟩ := ho_4
  dsimp only at hIσ6 hcσ6 ⊢
  have hfσ6 : Fr fr_fX10_placeBy σ σ6 := Fr_c hfσ3 hcσ6 (by decide)
  refine ok_nm.mpr ?_
  have f5 : (200 : Int32).toInt = 200 := by decide
  refine ok_bd2.mpr ((o_fX10_rests hIσ6 (p1 := (200 : Int32)) (by omega) (by omega)).mono (fun o_6 ho_7 => ?_))
  obtain ⟨r9_1, σ10_1⟩ := o_6
  obtain ⟨hIσ10_1, hcσ10_1, r0r9_1, r1r9_1⟩ := ho_7
  dsimp only at hIσ10_1 hcσ10_1 r0r9_1 r1r9_1 ⊢
  have hfσ10_1 : Fr fr_fX10_placeBy σ σ10_1 := Fr_c hfσ6 hcσ10_1 (by decide)
  refine ok_nm.mpr ?_
  have f8 : (38 : Int32).toInt = 38 := by decide
  have f9 : ((38 : Int32) * p3).toInt = 38 * p3.toInt := imulc (by decide) (by omega) (by omega)
  have f10 : ((38 * p3) + p2).toInt = (38 * p3).toInt + p2.toInt := iadd_toInt (by omega) (by omega)
  refine ok_gd.mpr ⟨gb_of (by omega) (by omega), ?_⟩
  refine ok_nm2 (fun v12_1_2 ev12_1_2 => ?_)
  have qv12_1_2 : v12_1_2.toInt = (σ10_1.1 28 ((38 * p3) + p2).toNatClampNeg).toInt := congrArg Int32.toInt ev12_1_2
  refine ok_nm.mpr ?_
  refine ok_bd.mpr ((o_fX10_takesBack hIσ10_1  ).mono (fun σ15_1_2_3 ho_12 => ?_))
  obtain ⟨hIσ15_1_2_3, hcσ15_1_2_3⟩ := ho_12
  have hfσ15_1_2_3 : Fr fr_fX10_placeBy σ σ15_1_2_3 := Fr_c hfσ10_1 hcσ15_1_2_3 (by decide)
  refine ok_some.mpr ?_
  exact ⟨hIσ15_1_2_3, hfσ15_1_2_3⟩
set_option maxRecDepth 20000 in
set_option maxHeartbeats 2000000 in
theorem o_fX10_differ {σ : gS} (hIσ : JM σ) {p1 : Int32} {p2 : Int32}  : Ok (fX10_differ σ p1 p2) (fun out => JM out.2 ∧ Fr fr_fX10_differ σ out.2) := by
  unfold fX10_differ
  have hfσ : Fr fr_fX10_differ σ σ := Fr_r
  refine ok_bd.mpr ?_
  try unfold fX10_isPicture
  refine ok_bd.mpr ?_
  try unfold fX10_pictures
  have f1 : (7 : Int32).toInt = 7 := by decide
  refine ok_gd.mpr ⟨gb_of (by omega) (by omega), ?_⟩
  refine ok_nm2 (fun v1_2 ev1_2 => ?_)
  have f2 : 0 ≤ (σ.1 15 7).toInt ∧ (σ.1 15 7).toInt ≤ 12 := hIσ 15 7
  have qv1_2 : v1_2.toInt = (σ.1 15 7).toInt := congrArg Int32.toInt ev1_2
  refine ok_some.mpr ?_
  refine ok_bd.mpr ?_
  try unfold fX10_isIn
  refine ok_ite.mpr ⟨fun h_3 => ?_, fun h_3 => ?_⟩
  · have f4 : p1.toInt64.toInt = p1.toInt := Int32.toInt_toInt64 _
    have f5 : (0 : Int64).toInt = 0 := by decide
    have g6 : p1.toInt64.toInt < (0 : Int64).toInt := Int64.lt_iff_toInt_lt.mp h_3
    refine ok_some.mpr ?_
    refine ok_some.mpr ?_
    refine ok_ite.mpr ⟨fun h_7 => ?_, fun h_7 => ?_⟩
    · have f8 : (vp_nar .boolean 0).toInt = 0 := by decide
      have f9 : (0 : Int32).toInt = 0 := by decide
      have g10 : (vp_nar .boolean 0).toInt = (0 : Int32).toInt := by rw [h_7]
      refine ok_some.mpr ?_
      have f11 : (-1000000000 : Int32).toInt = -1000000000 := by decide
      exact ⟨hIσ, hfσ⟩
    · have f12 : (vp_nar .boolean 0).toInt = 0 := by decide
      have f13 : (0 : Int32).toInt = 0 := by decide
      have g14 : (vp_nar .boolean 0).toInt ≠ (0 : Int32).toInt := fun z => h_7 (Int32.toInt_inj.mp z)
      exfalso
      omega
  · have f15 : p1.toInt64.toInt = p1.toInt := Int32.toInt_toInt64 _
    have f16 : (0 : Int64).toInt = 0 := by decide
    have g17 : ¬ p1.toInt64.toInt < (0 : Int64).toInt := fun z => h_3 (Int64.lt_iff_toInt_lt.mpr z)
    refine ok_ite.mpr ⟨fun h_18 => ?_, fun h_18 => ?_⟩
    · have f19 : (1 : Int32).toInt = 1 := by decide
      have f20 : (v1_2 - (1 : Int32)).toInt = v1_2.toInt - (1 : Int32).toInt := isub_toInt (by omega) (by omega)
      have f21 : (v1_2 - 1).toInt64.toInt = (v1_2 - 1).toInt := Int32.toInt_toInt64 _
      have g22 : (v1_2 - 1).toInt64.toInt < p1.toInt64.toInt := Int64.lt_iff_toInt_lt.mp h_18
      refine ok_some.mpr ?_
      refine ok_some.mpr ?_
      refine ok_ite.mpr ⟨fun h_23 => ?_, fun h_23 => ?_⟩
      · have f24 : (vp_nar .boolean 0).toInt = 0 := by decide
        have f25 : (0 : Int32).toInt = 0 := by decide
        have g26 : (vp_nar .boolean 0).toInt = (0 : Int32).toInt := by rw [h_23]
        refine ok_some.mpr ?_
        have f27 : (-1000000000 : Int32).toInt = -1000000000 := by decide
        exact ⟨hIσ, hfσ⟩
      · have f28 : (vp_nar .boolean 0).toInt = 0 := by decide
        have f29 : (0 : Int32).toInt = 0 := by decide
        have g30 : (vp_nar .boolean 0).toInt ≠ (0 : Int32).toInt := fun z => h_23 (Int32.toInt_inj.mp z)
        exfalso
        omega
    · have f31 : (1 : Int32).toInt = 1 := by decide
      have f32 : (v1_2 - (1 : Int32)).toInt = v1_2.toInt - (1 : Int32).toInt := isub_toInt (by omega) (by omega)
      have f33 : (v1_2 - 1).toInt64.toInt = (v1_2 - 1).toInt := Int32.toInt_toInt64 _
      have g34 : ¬ (v1_2 - 1).toInt64.toInt < p1.toInt64.toInt := fun z => h_18 (Int64.lt_iff_toInt_lt.mpr z)
      refine ok_some.mpr ?_
      refine ok_some.mpr ?_
      refine ok_ite.mpr ⟨fun h_35 => ?_, fun h_35 => ?_⟩
      · have f36 : (vp_nar .boolean 1).toInt = 1 := by decide
        have f37 : (0 : Int32).toInt = 0 := by decide
        have g38 : (vp_nar .boolean 1).toInt = (0 : Int32).toInt := by rw [h_35]
        exfalso
        omega
      · have f39 : (vp_nar .boolean 1).toInt = 1 := by decide
        have f40 : (0 : Int32).toInt = 0 := by decide
        have g41 : (vp_nar .boolean 1).toInt ≠ (0 : Int32).toInt := fun z => h_35 (Int32.toInt_inj.mp z)
        refine ok_bd.mpr ?_
        try unfold fX10_isIn
        refine ok_ite.mpr ⟨fun h_42 => ?_, fun h_42 => ?_⟩
        · have f43 : p2.toInt64.toInt = p2.toInt := Int32.toInt_toInt64 _
          have g44 : p2.toInt64.toInt < (0 : Int64).toInt := Int64.lt_iff_toInt_lt.mp h_42
          refine ok_some.mpr ?_
          refine ok_ite.mpr ⟨fun h_45 => ?_, fun h_45 => ?_⟩
          · have g46 : (0 : Int32).toInt = (0 : Int32).toInt := by rw [h_45]
            refine ok_some.mpr ?_
            have f47 : (-1000000000 : Int32).toInt = -1000000000 := by decide
            exact ⟨hIσ, hfσ⟩
          · have g48 : (0 : Int32).toInt ≠ (0 : Int32).toInt := fun z => h_45 (Int32.toInt_inj.mp z)
            exfalso
            omega
        · have f49 : p2.toInt64.toInt = p2.toInt := Int32.toInt_toInt64 _
          have g50 : ¬ p2.toInt64.toInt < (0 : Int64).toInt := fun z => h_42 (Int64.lt_iff_toInt_lt.mpr z)
          refine ok_ite.mpr ⟨fun h_51 => ?_, fun h_51 => ?_⟩
          · have f52 : (1 : Int64).toInt = 1 := by decide
            have g53 : (1 : Int64).toInt < p2.toInt64.toInt := Int64.lt_iff_toInt_lt.mp h_51
            refine ok_some.mpr ?_
            refine ok_ite.mpr ⟨fun h_54 => ?_, fun h_54 => ?_⟩
            · have g55 : (0 : Int32).toInt = (0 : Int32).toInt := by rw [h_54]
              refine ok_some.mpr ?_
              have f56 : (-1000000000 : Int32).toInt = -1000000000 := by decide
              exact ⟨hIσ, hfσ⟩
            · have g57 : (0 : Int32).toInt ≠ (0 : Int32).toInt := fun z => h_54 (Int32.toInt_inj.mp z)
              exfalso
              omega
          · have f58 : (1 : Int64).toInt = 1 := by decide
            have g59 : ¬ (1 : Int64).toInt < p2.toInt64.toInt := fun z => h_51 (Int64.lt_iff_toInt_lt.mpr z)
            refine ok_some.mpr ?_
            refine ok_ite.mpr ⟨fun h_60 => ?_, fun h_60 => ?_⟩
            · have g61 : (1 : Int32).toInt = (0 : Int32).toInt := by rw [h_60]
              exfalso
              omega
            · have g62 : (1 : Int32).toInt ≠ (0 : Int32).toInt := fun z => h_60 (Int32.toInt_inj.mp z)
              refine ok_bd2.mpr ((o_fX10_placeBy hIσ (p1 := (1 : Int32)) (p2 := p1) (p3 := p2) (by omega) (by omega) (by omega) (by omega)).mono (fun o_63 ho_64 => ?_))
              obtain ⟨r8_3_9_10_14, σ9_3_9_10_14⟩ := o_63
              obtain ⟨hIσ9_3_9_10_14, hcσ9_3_9_10_14⟩ := ho_64
              dsimp only at hIσ9_3_9_10_14 hcσ9_3_9_10_14 ⊢
              have hfσ9_3_9_10_14 : Fr fr_fX10_differ σ σ9_3_9_10_14 := Fr_c hfσ hcσ9_3_9_10_14 (by decide)
              have f65 : (2 : Int32).toInt = 2 := by decide
              refine ok_bd2.mpr ((o_fX10_placeBy hIσ9_3_9_10_14 (p1 := (2 : Int32)) (p2 := p1) (p3 := p2) (by omega) (by omega) (by omega) (by omega)).mono (fun o_66 ho_67 => ?_))
              obtain ⟨r11_3_9_10_14, σ12_3_9_10_14⟩ := o_66
              obtain ⟨hIσ12_3_9_10_14, hcσ12_3_9_10_14⟩ := ho_67
              dsimp only at hIσ12_3_9_10_14 hcσ12_3_9_10_14 ⊢
              have hfσ12_3_9_10_14 : Fr fr_fX10_differ σ σ12_3_9_10_14 := Fr_c hfσ9_3_9_10_14 hcσ12_3_9_10_14 (by decide)
              refine ok_some.mpr ?_
              exact ⟨hIσ12_3_9_10_14, hfσ12_3_9_10_14⟩
set_option maxRecDepth 20000 in
set_option maxHeartbeats 2000000 in
theorem o_fX10_canMeasure {σ : gS} (hIσ : JM σ) {p1 : Int32} {p2 : Int32} {p3 : Int32}  : Ok (fX10_canMeasure σ p1 p2 p3) (fun out => 0 ≤ out.toInt ∧ out.toInt ≤ 1 ∧ (out.toInt ≠ 0 → 0 ≤ p1.toInt ∧ p1.toInt ≤ 59)) := by
  unfold fX10_canMeasure
  refine ok_bd.mpr ?_
  try unfold fX10_isRow
  refine ok_bd.mpr ?_
  try unfold fX10_rows
  have f1 : (9 : Int32).toInt = 9 := by decide
  refine ok_gd.mpr ⟨gb_of (by omega) (by omega), ?_⟩
  refine ok_nm2 (fun v1_2 ev1_2 => ?_)
  have f2 : 0 ≤ (σ.1 15 9).toInt ∧ (σ.1 15 9).toInt ≤ 60 := hIσ 15 9
  have qv1_2 : v1_2.toInt = (σ.1 15 9).toInt := congrArg Int32.toInt ev1_2
  refine ok_some.mpr ?_
  refine ok_bd.mpr ?_
  try unfold fX10_isIn
  refine ok_ite.mpr ⟨fun h_3 => ?_, fun h_3 => ?_⟩
  · have f4 : p1.toInt64.toInt = p1.toInt := Int32.toInt_toInt64 _
    have f5 : (0 : Int64).toInt = 0 := by decide
    have g6 : p1.toInt64.toInt < (0 : Int64).toInt := Int64.lt_iff_toInt_lt.mp h_3
    refine ok_some.mpr ?_
    refine ok_some.mpr ?_
    refine ok_ite.mpr ⟨fun h_7 => ?_, fun h_7 => ?_⟩
    · have f8 : (vp_nar .boolean 0).toInt = 0 := by decide
      have f9 : (0 : Int32).toInt = 0 := by decide
      have g10 : (vp_nar .boolean 0).toInt = (0 : Int32).toInt := by rw [h_7]
      refine ok_some.mpr ?_
      exact ⟨(show 0 ≤ (0 : Int32).toInt by omega), (show (0 : Int32).toInt ≤ 1 by omega), (show (0 : Int32).toInt ≠ 0 → 0 ≤ p1.toInt ∧ p1.toInt ≤ 59 by omega)⟩
    · have f11 : (vp_nar .boolean 0).toInt = 0 := by decide
      have f12 : (0 : Int32).toInt = 0 := by decide
      have g13 : (vp_nar .boolean 0).toInt ≠ (0 : Int32).toInt := fun z => h_7 (Int32.toInt_inj.mp z)
      exfalso
      omega
  · have f14 : p1.toInt64.toInt = p1.toInt := Int32.toInt_toInt64 _
    have f15 : (0 : Int64).toInt = 0 := by decide
    have g16 : ¬ p1.toInt64.toInt < (0 : Int64).toInt := fun z => h_3 (Int64.lt_iff_toInt_lt.mpr z)
    refine ok_ite.mpr ⟨fun h_17 => ?_, fun h_17 => ?_⟩
    · have f18 : (1 : Int32).toInt = 1 := by decide
      have f19 : (v1_2 - (1 : Int32)).toInt = v1_2.toInt - (1 : Int32).toInt := isub_toInt (by omega) (by omega)
      have f20 : (v1_2 - 1).toInt64.toInt = (v1_2 - 1).toInt := Int32.toInt_toInt64 _
      have g21 : (v1_2 - 1).toInt64.toInt < p1.toInt64.toInt := Int64.lt_iff_toInt_lt.mp h_17
      refine ok_some.mpr ?_
      refine ok_some.mpr ?_
      refine ok_ite.mpr ⟨fun h_22 => ?_, fun h_22 => ?_⟩
      · have f23 : (vp_nar .boolean 0).toInt = 0 := by decide
        have f24 : (0 : Int32).toInt = 0 := by decide
        have g25 : (vp_nar .boolean 0).toInt = (0 : Int32).toInt := by rw [h_22]
        refine ok_some.mpr ?_
        exact ⟨(show 0 ≤ (0 : Int32).toInt by omega), (show (0 : Int32).toInt ≤ 1 by omega), (show (0 : Int32).toInt ≠ 0 → 0 ≤ p1.toInt ∧ p1.toInt ≤ 59 by omega)⟩
      · have f26 : (vp_nar .boolean 0).toInt = 0 := by decide
        have f27 : (0 : Int32).toInt = 0 := by decide
        have g28 : (vp_nar .boolean 0).toInt ≠ (0 : Int32).toInt := fun z => h_22 (Int32.toInt_inj.mp z)
        exfalso
        omega
    · have f29 : (1 : Int32).toInt = 1 := by decide
      have f30 : (v1_2 - (1 : Int32)).toInt = v1_2.toInt - (1 : Int32).toInt := isub_toInt (by omega) (by omega)
      have f31 : (v1_2 - 1).toInt64.toInt = (v1_2 - 1).toInt := Int32.toInt_toInt64 _
      have g32 : ¬ (v1_2 - 1).toInt64.toInt < p1.toInt64.toInt := fun z => h_17 (Int64.lt_iff_toInt_lt.mpr z)
      refine ok_some.mpr ?_
      refine ok_some.mpr ?_
      refine ok_ite.mpr ⟨fun h_33 => ?_, fun h_33 => ?_⟩
      · have f34 : (vp_nar .boolean 1).toInt = 1 := by decide
        have f35 : (0 : Int32).toInt = 0 := by decide
        have g36 : (vp_nar .boolean 1).toInt = (0 : Int32).toInt := by rw [h_33]
        exfalso
        omega
      · have f37 : (vp_nar .boolean 1).toInt = 1 := by decide
        have f38 : (0 : Int32).toInt = 0 := by decide
        have g39 : (vp_nar .boolean 1).toInt ≠ (0 : Int32).toInt := fun z => h_33 (Int32.toInt_inj.mp z)
        refine ok_bd.mpr ?_
        try unfold fX10_isIn
        refine ok_ite.mpr ⟨fun h_40 => ?_, fun h_40 => ?_⟩
        · have f41 : p2.toInt64.toInt = p2.toInt := Int32.toInt_toInt64 _
          have g42 : p2.toInt64.toInt < (0 : Int64).toInt := Int64.lt_iff_toInt_lt.mp h_40
          refine ok_some.mpr ?_
          refine ok_ite.mpr ⟨fun h_43 => ?_, fun h_43 => ?_⟩
          · have g44 : (0 : Int32).toInt = (0 : Int32).toInt := by rw [h_43]
            refine ok_some.mpr ?_
            exact ⟨(show 0 ≤ (0 : Int32).toInt by omega), (show (0 : Int32).toInt ≤ 1 by omega), (show (0 : Int32).toInt ≠ 0 → 0 ≤ p1.toInt ∧ p1.toInt ≤ 59 by omega)⟩
          · have g45 : (0 : Int32).toInt ≠ (0 : Int32).toInt := fun z => h_43 (Int32.toInt_inj.mp z)
            exfalso
            omega
        · have f46 : p2.toInt64.toInt = p2.toInt := Int32.toInt_toInt64 _
          have g47 : ¬ p2.toInt64.toInt < (0 : Int64).toInt := fun z => h_40 (Int64.lt_iff_toInt_lt.mpr z)
          refine ok_ite.mpr ⟨fun h_48 => ?_, fun h_48 => ?_⟩
          · have f49 : (9999 : Int64).toInt = 9999 := by decide
            have g50 : (9999 : Int64).toInt < p2.toInt64.toInt := Int64.lt_iff_toInt_lt.mp h_48
            refine ok_some.mpr ?_
            refine ok_ite.mpr ⟨fun h_51 => ?_, fun h_51 => ?_⟩
            · have g52 : (0 : Int32).toInt = (0 : Int32).toInt := by rw [h_51]
              refine ok_some.mpr ?_
              exact ⟨(show 0 ≤ (0 : Int32).toInt by omega), (show (0 : Int32).toInt ≤ 1 by omega), (show (0 : Int32).toInt ≠ 0 → 0 ≤ p1.toInt ∧ p1.toInt ≤ 59 by omega)⟩
            · have g53 : (0 : Int32).toInt ≠ (0 : Int32).toInt := fun z => h_51 (Int32.toInt_inj.mp z)
              exfalso
              omega
          · have f54 : (9999 : Int64).toInt = 9999 := by decide
            have g55 : ¬ (9999 : Int64).toInt < p2.toInt64.toInt := fun z => h_48 (Int64.lt_iff_toInt_lt.mpr z)
            refine ok_some.mpr ?_
            refine ok_ite.mpr ⟨fun h_56 => ?_, fun h_56 => ?_⟩
            · have g57 : (1 : Int32).toInt = (0 : Int32).toInt := by rw [h_56]
              exfalso
              omega
            · have g58 : (1 : Int32).toInt ≠ (0 : Int32).toInt := fun z => h_56 (Int32.toInt_inj.mp z)
              refine ok_bd.mpr ?_
              try unfold fX10_isIn
              refine ok_ite.mpr ⟨fun h_59 => ?_, fun h_59 => ?_⟩
              · have f60 : p3.toInt64.toInt = p3.toInt := Int32.toInt_toInt64 _
                have g61 : p3.toInt64.toInt < (0 : Int64).toInt := Int64.lt_iff_toInt_lt.mp h_59
                refine ok_some.mpr ?_
                refine ok_ite.mpr ⟨fun h_62 => ?_, fun h_62 => ?_⟩
                · have g63 : (0 : Int32).toInt = (0 : Int32).toInt := by rw [h_62]
                  refine ok_some.mpr ?_
                  exact ⟨(show 0 ≤ (0 : Int32).toInt by omega), (show (0 : Int32).toInt ≤ 1 by omega), (show (0 : Int32).toInt ≠ 0 → 0 ≤ p1.toInt ∧ p1.toInt ≤ 59 by omega)⟩
                · have g64 : (0 : Int32).toInt ≠ (0 : Int32).toInt := fun z => h_62 (Int32.toInt_inj.mp z)
                  exfalso
                  omega
              · have f65 : p3.toInt64.toInt = p3.toInt := Int32.toInt_toInt64 _
                have g66 : ¬ p3.toInt64.toInt < (0 : Int64).toInt := fun z => h_59 (Int64.lt_iff_toInt_lt.mpr z)
                refine ok_ite.mpr ⟨fun h_67 => ?_, fun h_67 => ?_⟩
                · have g68 : (9999 : Int64).toInt < p3.toInt64.toInt := Int64.lt_iff_toInt_lt.mp h_67
                  refine ok_some.mpr ?_
                  refine ok_ite.mpr ⟨fun h_69 => ?_, fun h_69 => ?_⟩
                  · have g70 : (0 : Int32).toInt = (0 : Int32).toInt := by rw [h_69]
                    refine ok_some.mpr ?_
                    exact ⟨(show 0 ≤ (0 : Int32).toInt by omega), (show (0 : Int32).toInt ≤ 1 by omega), (show (0 : Int32).toInt ≠ 0 → 0 ≤ p1.toInt ∧ p1.toInt ≤ 59 by omega)⟩
                  · have g71 : (0 : Int32).toInt ≠ (0 : Int32).toInt := fun z => h_69 (Int32.toInt_inj.mp z)
                    exfalso
                    omega
                · have g72 : ¬ (9999 : Int64).toInt < p3.toInt64.toInt := fun z => h_67 (Int64.lt_iff_toInt_lt.mpr z)
                  refine ok_some.mpr ?_
                  refine ok_ite.mpr ⟨fun h_73 => ?_, fun h_73 => ?_⟩
                  · have g74 : (1 : Int32).toInt = (0 : Int32).toInt := by rw [h_73]
                    exfalso
                    omega
                  · have g75 : (1 : Int32).toInt ≠ (0 : Int32).toInt := fun z => h_73 (Int32.toInt_inj.mp z)
                    refine ok_some.mpr ?_
                    exact ⟨(show 0 ≤ (1 : Int32).toInt by omega), (show (1 : Int32).toInt ≤ 1 by omega), (show (1 : Int32).toInt ≠ 0 → 0 ≤ p1.toInt ∧ p1.toInt ≤ 59 by omega)⟩
set_option maxRecDepth 20000 in
set_option maxHeartbeats 2000000 in
theorem o_fX10_measures {σ : gS} (hIσ : JM σ) {p1 : Int32} {p2 : Int32} {p3 : Int32} (h0p1 : 0 ≤ p1.toInt) (h1p1 : p1.toInt ≤ 59) : Ok (fX10_measures σ p1 p2 p3) (fun out => JM out ∧ Fr fr_fX10_measures σ out) := by
  unfold fX10_measures
  have hfσ : Fr fr_fX10_measures σ σ := Fr_r
  have f1 : (120 : Int32).toInt = 120 := by decide
  have f2 : (2 : Int32).toInt = 2 := by decide
  have f3 : ((2 : Int32) * p1).toInt = 2 * p1.toInt := imulc (by decide) (by omega) (by omega)
  have f4 : ((120 : Int32) + (2 * p1)).toInt = (120 : Int32).toInt + (2 * p1).toInt := iadd_toInt (by omega) (by omega)
  refine ok_gd.mpr ⟨gb_of (by omega) (by omega), ?_⟩
  refine ok_nm2 (fun σ1 eσ1 => ?_)
  have hIσ1 : JM σ1 := by rw [eσ1]; exact JM_w hIσ (Int32.le_toInt _) (Int32.toInt_le _)
  have hfσ1 : Fr fr_fX10_measures σ σ1 := by rw [eσ1]; exact Fr_w0 hfσ (by decide)
  have f5 : (1 : Int32).toInt = 1 := by decide
  have f6 : ((120 + (2 * p1)) + (1 : Int32)).toInt = (120 + (2 * p1)).toInt + (1 : Int32).toInt := iadd_toInt (by omega) (by omega)
  refine ok_gd.mpr ⟨gb_of (by omega) (by omega), ?_⟩
  refine ok_nm2 (fun σ2 eσ2 => ?_)
  have hIσ2 : JM σ2 := by rw [eσ2]; exact JM_w hIσ1 (Int32.le_toInt _) (Int32.toInt_le _)
  have hfσ2 : Fr fr_fX10_measures σ σ2 := by rw [eσ2]; exact Fr_w0 hfσ1 (by decide)
  refine ok_some.mpr ?_
  exact ⟨hIσ2, hfσ2⟩
set_option maxRecDepth 20000 in
set_option maxHeartbeats 2000000 in
theorem o_fX10_alters {σ : gS} (hIσ : JM σ) {p1 : Int32} {p2 : Int32} {p3 : Int32} {p4 : Int32}  : Ok (fX10_alters σ p1 p2 p3 p4) (fun out => JM out.2 ∧ Fr fr_fX10_alters σ out.2) := by
  unfold fX10_alters
  have hfσ : Fr fr_fX10_alters σ σ := Fr_r
  refine ok_bd.mpr ((o_fX10_canMeasure hIσ (p1 := p1) (p2 := p2) (p3 := p3) ).mono (fun r2 ho_2 => ?_))
  obtain ⟨r0r2, r1r2, hp_3⟩ := ho_2
  refine ok_ite.mpr ⟨fun h_4 => ?_, fun h_4 => ?_⟩
  · have f5 : (0 : Int32).toInt = 0 := by decide
    have g6 : r2.toInt = (0 : Int32).toInt := by rw [h_4]
    refine ok_some.mpr ?_
    have f7 : (-1 : Int32).toInt = -1 := by decide
    exact ⟨hIσ, hfσ⟩
  · have f8 : (0 : Int32).toInt = 0 := by decide
    have g9 : r2.toInt ≠ (0 : Int32).toInt := fun z => h_4 (Int32.toInt_inj.mp z)
    refine ok_ite.mpr ⟨fun h_10 => ?_, fun h_10 => ?_⟩
    · have g11 : (0 : Int32).toInt ≤ p4.toInt := Int32.le_iff_toInt_le.mp h_10
      have f12 : (120 : Int32).toInt = 120 := by decide
      have f13 : (2 : Int32).toInt = 2 := by decide
      have f14 : ((2 : Int32) * p1).toInt = 2 * p1.toInt := imulc (by decide) (by omega) (by omega)
      have f15 : ((120 : Int32) + (2 * p1)).toInt = (120 : Int32).toInt + (2 * p1).toInt := iadd_toInt (by omega) (by omega)
      refine ok_gd.mpr ⟨gb_of (by omega) (by omega), ?_⟩
      refine ok_nm2 (fun v5 ev5 => ?_)
      have qv5 : v5.toInt = (σ.1 24 (120 + (2 * p1)).toNatClampNeg).toInt := congrArg Int32.toInt ev5
      refine ok_nm.mpr ?_
      have f16 : (1 : Int32).toInt = 1 := by decide
      have f17 : ((120 + (2 * p1)) + (1 : Int32)).toInt = (120 + (2 * p1)).toInt + (1 : Int32).toInt := iadd_toInt (by omega) (by omega)
      refine ok_gd.mpr ⟨gb_of (by omega) (by omega), ?_⟩
      refine ok_nm2 (fun v7_1 ev7_1 => ?_)
      have qv7_1 : v7_1.toInt = (σ.1 24 ((120 + (2 * p1)) + 1).toNatClampNeg).toInt := congrArg Int32.toInt ev7_1
      refine ok_nm.mpr ?_
      refine ok_bd.mpr ((o_fX10_putsAside hIσ  ).mono (fun σ10_1_2 ho_19 => ?_))
      obtain ⟨hIσ10_1_2, hcσ10_1_2⟩ := ho_19
      have hfσ10_1_2 : Fr fr_fX10_alters σ σ10_1_2 := Fr_c hfσ hcσ10_1_2 (by decide)
      have f20 : (200 : Int32).toInt = 200 := by decide
      refine ok_bd2.mpr ((o_fX10_rests hIσ10_1_2 (p1 := (200 : Int32)) (by omega) (by omega)).mono (fun o_21 ho_22 => ?_))
      obtain ⟨r12_1_2, σ13_1_2⟩ := o_21
      obtain ⟨hIσ13_1_2, hcσ13_1_2, r0r12_1_2, r1r12_1_2⟩ := ho_22
      dsimp only at hIσ13_1_2 hcσ13_1_2 r0r12_1_2 r1r12_1_2 ⊢
      have hfσ13_1_2 : Fr fr_fX10_alters σ σ13_1_2 := Fr_c hfσ10_1_2 hcσ13_1_2 (by decide)
      refine ok_nm.mpr ?_
      refine ok_nm2 (fun x15_1_2_3 ex15_1_2_3 => ?_)
      have qx15_1_2_3 : x15_1_2_3.toInt = 0 := by rw [ex15_1_2_3]; decide
      refine ok_lpc (I := fun n s => n = (12 + 1 - s.1.toInt).toNat ∧ JM s.2 ∧ Fr fr_fX10_alters σ s.2 ∧ 0 ≤ s.1.toInt ∧ s.1.toInt ≤ 12) (fun rec61_4r n_4 s_4 hs_4 hrec_4 => ?_) K9 ((12 + 1 - x15_1_2_3.toInt).toNat) (x15_1_2_3, σ13_1_2) ⟨rfl, hIσ13_1_2, hfσ13_1_2, (show 0 ≤ x15_1_2_3.toInt by omega), (show x15_1_2_3.toInt ≤ 12 by omega)⟩ (by unfold K9; omega)
      obtain ⟨a8_4, σ1_4⟩ := s_4
      obtain ⟨hn_4, hIσ1_4, hfσ1_4, b0a8_4, b1a8_4⟩ := hs_4
      dsimp only at hn_4 hIσ1_4 hfσ1_4 b0a8_4 b1a8_4
      unfold bX10_alters_61
      try dsimp only
      refine ok_bd.mpr ?_
      try unfold fX10_pictures
      have f23 : (7 : Int32).toInt = 7 := by decide
      refine ok_gd.mpr ⟨gb_of (by omega) (by omega), ?_⟩
      refine ok_nm2 (fun v1_129 ev1_129 => ?_)
      have f24 : 0 ≤ (σ1_4.1 15 7).toInt ∧ (σ1_4.1 15 7).toInt ≤ 12 := hIσ1_4 15 7
      have qv1_129 : v1_129.toInt = (σ1_4.1 15 7).toInt := congrArg Int32.toInt ev1_129
      refine ok_some.mpr ?_
      refine ok_ite.mpr ⟨fun h_25 => ?_, fun h_25 => ?_⟩
      · have g26 : v1_129.toInt ≤ a8_4.toInt := Int32.le_iff_toInt_le.mp h_25
        refine ok_bd.mpr ((o_fX10_takesBack hIσ1_4  ).mono (fun σ20_126_130 ho_28 => ?_))
        obtain ⟨hIσ20_126_130, hcσ20_126_130⟩ := ho_28
        have hfσ20_126_130 : Fr fr_fX10_alters σ σ20_126_130 := Fr_c hfσ1_4 hcσ20_126_130 (by decide)
        refine ok_bd.mpr ((o_fX10_measures hIσ20_126_130 (p1 := p1) (p2 := p2) (p3 := p3) (by omega) (by omega)).mono (fun σ22_126_130 ho_30 => ?_))
        obtain ⟨hIσ22_126_130, hcσ22_126_130⟩ := ho_30
        have hfσ22_126_130 : Fr fr_fX10_alters σ σ22_126_130 := Fr_c hfσ20_126_130 hcσ22_126_130 (by decide)
        refine ok_bd2.mpr ((o_fX10_rests hIσ22_126_130 (p1 := (200 : Int32)) (by omega) (by omega)).mono (fun o_31 ho_32 => ?_))
        obtain ⟨r24_126_130, σ25_126_130⟩ := o_31
        obtain ⟨hIσ25_126_130, hcσ25_126_130, r0r24_126_130, r1r24_126_130⟩ := ho_32
        dsimp only at hIσ25_126_130 hcσ25_126_130 r0r24_126_130 r1r24_126_130 ⊢
        have hfσ25_126_130 : Fr fr_fX10_alters σ σ25_126_130 := Fr_c hfσ22_126_130 hcσ25_126_130 (by decide)
        refine ok_nm.mpr ?_
        refine ok_nm2 (fun x27_126_130_131 ex27_126_130_131 => ?_)
        have qx27_126_130_131 : x27_126_130_131.toInt = 0 := by rw [ex27_126_130_131]; decide
        refine ok_nm2 (fun x28_126_130_131 ex28_126_130_131 => ?_)
        have qx28_126_130_131 : x28_126_130_131.toInt = 0 := by rw [ex28_126_130_131]; decide
        refine ok_lpc (I := fun n s => n = (12 + 1 - s.2.toInt).toNat ∧ 0 ≤ s.2.toInt ∧ s.2.toInt ≤ 12) (fun rec143_132r n_132 s_132 hs_132 hrec_132 => ?_) K9 ((12 + 1 - x28_126_130_131.toInt).toNat) (x27_126_130_131, x28_126_130_131) ⟨rfl, (show 0 ≤ x28_126_130_131.toInt by omega), (show x28_126_130_131.toInt ≤ 12 by omega)⟩ (by unfold K9; omega)
        obtain ⟨a8_132, a9_132⟩ := s_132
        obtain ⟨hn_132, b0a9_132, b1a9_132⟩ := hs_132
        dsimp only at hn_132 b0a9_132 b1a9_132
        unfold bX10_alters_143
        try dsimp only
        refine ok_bd.mpr ?_
        try unfold fX10_pictures
        refine ok_gd.mpr ⟨gb_of (by omega) (by omega), ?_⟩
        refine ok_nm2 (fun v1_246 ev1_246 => ?_)
        have f33 : 0 ≤ (σ25_126_130.1 15 7).toInt ∧ (σ25_126_130.1 15 7).toInt ≤ 12 := hIσ25_126_130 15 7
        have qv1_246 : v1_246.toInt = (σ25_126_130.1 15 7).toInt := congrArg Int32.toInt ev1_246
        refine ok_some.mpr ?_
        refine ok_ite.mpr ⟨fun h_34 => ?_, fun h_34 => ?_⟩
        · have g35 : v1_246.toInt ≤ a9_132.toInt := Int32.le_iff_toInt_le.mp h_34
          refine ok_bd.mpr ((o_fX10_measures hIσ25_126_130 (p1 := p1) (p2 := v5) (p3 := v7_1) (by omega) (by omega)).mono (fun σ33_245_247 ho_37 => ?_))
          obtain ⟨hIσ33_245_247, hcσ33_245_247⟩ := ho_37
          have hfσ33_245_247 : Fr fr_fX10_alters σ σ33_245_247 := Fr_c hfσ25_126_130 hcσ33_245_247 (by decide)
          refine ok_bd.mpr ((o_fX10_takesBack hIσ33_245_247  ).mono (fun σ35_245_247 ho_39 => ?_))
          obtain ⟨hIσ35_245_247, hcσ35_245_247⟩ := ho_39
          have hfσ35_245_247 : Fr fr_fX10_alters σ σ35_245_247 := Fr_c hfσ33_245_247 hcσ35_245_247 (by decide)
          refine ok_some.mpr ?_
          exact ⟨hIσ35_245_247, hfσ35_245_247⟩
        · have g40 : ¬ v1_246.toInt ≤ a9_132.toInt := fun z => h_34 (Int32.le_iff_toInt_le.mpr z)
          refine ok_gd.mpr ⟨gb_of (by omega) (by omega), ?_⟩
          refine ok_nm2 (fun v36_245_247 ev36_245_247 => ?_)
          have qv36_245_247 : v36_245_247.toInt = (σ25_126_130.1 28 a9_132.toNatClampNeg).toInt := congrArg Int32.toInt ev36_245_247
          refine ok_gd.mpr ⟨gb_of (by omega) (by omega), ?_⟩
          refine ok_nm2 (fun v37_245_247 ev37_245_247 => ?_)
          have qv37_245_247 : v37_245_247.toInt = (σ25_126_130.1 39 a9_132.toNatClampNeg).toInt := congrArg Int32.toInt ev37_245_247
          refine ok_bd.mpr ?_
          try unfold fX10_apart
          refine ok_ite.mpr ⟨fun h_41 => ?_, fun h_41 => ?_⟩
          · have f42 : v36_245_247.toInt64.toInt = v36_245_247.toInt := Int32.toInt_toInt64 _
            have f43 : v37_245_247.toInt64.toInt = v37_245_247.toInt := Int32.toInt_toInt64 _
            have g44 : v36_245_247.toInt64.toInt ≤ v37_245_247.toInt64.toInt := Int64.le_iff_toInt_le.mp h_41
            refine ok_some.mpr ?_
            refine ok_ite.mpr ⟨fun h_45 => ?_, fun h_45 => ?_⟩
            · have f46 : p4.toInt64.toInt = p4.toInt := Int32.toInt_toInt64 _
              refine ok_nm2 (fun x41_245_247_249 ex41_245_247_249 => ?_)
              have qx41_245_247_249 : x41_245_247_249.toInt = (a8_132 + 1).toInt := congrArg Int32.toInt ex41_245_247_249
              refine ok_nm2 (fun x42_245_247_249 ex42_245_247_249 => ?_)
              have f47 : (a9_132 + (1 : Int32)).toInt = a9_132.toInt + (1 : Int32).toInt := iadd_toInt (by omega) (by omega)
              have qx42_245_247_249 : x42_245_247_249.toInt = (a9_132 + 1).toInt := congrArg Int32.toInt ex42_245_247_249
              exact hrec_132 _ (x41_245_247_249, x42_245_247_249) (show (12 + 1 - x42_245_247_249.toInt).toNat < n_132 by omega) ⟨rfl, (show 0 ≤ x42_245_247_249.toInt by omega), (show x42_245_247_249.toInt ≤ 12 by omega)⟩
            · have f48 : p4.toInt64.toInt = p4.toInt := Int32.toInt_toInt64 _
              have f49 : (38 : Int32).toInt = 38 := by decide
              have f50 : ((38 : Int32) + a9_132).toInt = (38 : Int32).toInt + a9_132.toInt := iadd_toInt (by omega) (by omega)
              refine ok_gd.mpr ⟨gb_of (by omega) (by omega), ?_⟩
              refine ok_nm2 (fun v43_245_247_249 ev43_245_247_249 => ?_)
              have qv43_245_247_249 : v43_245_247_249.toInt = (σ25_126_130.1 28 (38 + a9_132).toNatClampNeg).toInt := congrArg Int32.toInt ev43_245_247_249
              have f51 : (12 : Int32).toInt = 12 := by decide
              have f52 : ((12 : Int32) + a9_132).toInt = (12 : Int32).toInt + a9_132.toInt := iadd_toInt (by omega) (by omega)
              refine ok_gd.mpr ⟨gb_of (by omega) (by omega), ?_⟩
              refine ok_nm2 (fun v44_245_247_249 ev44_245_247_249 => ?_)
              have qv44_245_247_249 : v44_245_247_249.toInt = (σ25_126_130.1 39 (12 + a9_132).toNatClampNeg).toInt := congrArg Int32.toInt ev44_245_247_249
              refine ok_bd.mpr ?_
              try unfold fX10_apart
              refine ok_ite.mpr ⟨fun h_53 => ?_, fun h_53 => ?_⟩
              · have f54 : v43_245_247_249.toInt64.toInt = v43_245_247_249.toInt := Int32.toInt_toInt64 _
                have f55 : v44_245_247_249.toInt64.toInt = v44_245_247_249.toInt := Int32.toInt_toInt64 _
                have g56 : v43_245_247_249.toInt64.toInt ≤ v44_245_247_249.toInt64.toInt := Int64.le_iff_toInt_le.mp h_53
                refine ok_some.mpr ?_
                refine ok_ite.mpr ⟨fun h_57 => ?_, fun h_57 => ?_⟩
                · refine ok_nm2 (fun x48_245_247_249_251 ex48_245_247_249_251 => ?_)
                  have f58 : (a9_132 + (1 : Int32)).toInt = a9_132.toInt + (1 : Int32).toInt := iadd_toInt (by omega) (by omega)
                  have qx48_245_247_249_251 : x48_245_247_249_251.toInt = (a9_132 + 1).toInt := congrArg Int32.toInt ex48_245_247_249_251
                  exact hrec_132 _ (a8_132, x48_245_247_249_251) (show (12 + 1 - x48_245_247_249_251.toInt).toNat < n_132 by omega) ⟨rfl, (show 0 ≤ x48_245_247_249_251.toInt by omega), (show x48_245_247_249_251.toInt ≤ 12 by omega)⟩
                · refine ok_nm2 (fun x49_245_247_249_251 ex49_245_247_249_251 => ?_)
                  have qx49_245_247_249_251 : x49_245_247_249_251.toInt = (a8_132 + 1).toInt := congrArg Int32.toInt ex49_245_247_249_251
                  refine ok_nm2 (fun x50_245_247_249_251 ex50_245_247_249_251 => ?_)
                  have f59 : (a9_132 + (1 : Int32)).toInt = a9_132.toInt + (1 : Int32).toInt := iadd_toInt (by omega) (by omega)
                  have qx50_245_247_249_251 : x50_245_247_249_251.toInt = (a9_132 + 1).toInt := congrArg Int32.toInt ex50_245_247_249_251
                  exact hrec_132 _ (x49_245_247_249_251, x50_245_247_249_251) (show (12 + 1 - x50_245_247_249_251.toInt).toNat < n_132 by omega) ⟨rfl, (show 0 ≤ x50_245_247_249_251.toInt by omega), (show x50_245_247_249_251.toInt ≤ 12 by omega)⟩
              · have f60 : v43_245_247_249.toInt64.toInt = v43_245_247_249.toInt := Int32.toInt_toInt64 _
                have f61 : v44_245_247_249.toInt64.toInt = v44_245_247_249.toInt := Int32.toInt_toInt64 _
                have g62 : ¬ v43_245_247_249.toInt64.toInt ≤ v44_245_247_249.toInt64.toInt := fun z => h_53 (Int64.le_iff_toInt_le.mpr z)
                refine ok_some.mpr ?_
                refine ok_ite.mpr ⟨fun h_63 => ?_, fun h_63 => ?_⟩
                · refine ok_nm2 (fun x48_245_247_249_252 ex48_245_247_249_252 => ?_)
                  have f64 : (a9_132 + (1 : Int32)).toInt = a9_132.toInt + (1 : Int32).toInt := iadd_toInt (by omega) (by omega)
                  have qx48_245_247_249_252 : x48_245_247_249_252.toInt = (a9_132 + 1).toInt := congrArg Int32.toInt ex48_245_247_249_252
                  exact hrec_132 _ (a8_132, x48_245_247_249_252) (show (12 + 1 - x48_245_247_249_252.toInt).toNat < n_132 by omega) ⟨rfl, (show 0 ≤ x48_245_247_249_252.toInt by omega), (show x48_245_247_249_252.toInt ≤ 12 by omega)⟩
                · refine ok_nm2 (fun x49_245_247_249_252 ex49_245_247_249_252 => ?_)
                  have qx49_245_247_249_252 : x49_245_247_249_252.toInt = (a8_132 + 1).toInt := congrArg Int32.toInt ex49_245_247_249_252
                  refine ok_nm2 (fun x50_245_247_249_252 ex50_245_247_249_252 => ?_)
                  have f65 : (a9_132 + (1 : Int32)).toInt = a9_132.toInt + (1 : Int32).toInt := iadd_toInt (by omega) (by omega)
                  have qx50_245_247_249_252 : x50_245_247_249_252.toInt = (a9_132 + 1).toInt := congrArg Int32.toInt ex50_245_247_249_252
                  exact hrec_132 _ (x49_245_247_249_252, x50_245_247_249_252) (show (12 + 1 - x50_245_247_249_252.toInt).toNat < n_132 by omega) ⟨rfl, (show 0 ≤ x50_245_247_249_252.toInt by omega), (show x50_245_247_249_252.toInt ≤ 12 by omega)⟩
          · have f66 : v36_245_247.toInt64.toInt = v36_245_247.toInt := Int32.toInt_toInt64 _
            have f67 : v37_245_247.toInt64.toInt = v37_245_247.toInt := Int32.toInt_toInt64 _
            have g68 : ¬ v36_245_247.toInt64.toInt ≤ v37_245_247.toInt64.toInt := fun z => h_41 (Int64.le_iff_toInt_le.mpr z)
            refine ok_some.mpr ?_
            refine ok_ite.mpr ⟨fun h_69 => ?_, fun h_69 => ?_⟩
            · have f70 : p4.toInt64.toInt = p4.toInt := Int32.toInt_toInt64 _
              refine ok_nm2 (fun x41_245_247_253 ex41_245_247_253 => ?_)
              have qx41_245_247_253 : x41_245_247_253.toInt = (a8_132 + 1).toInt := congrArg Int32.toInt ex41_245_247_253
              refine ok_nm2 (fun x42_245_247_253 ex42_245_247_253 => ?_)
              have f71 : (a9_132 + (1 : Int32)).toInt = a9_132.toInt + (1 : Int32).toInt := iadd_toInt (by omega) (by omega)
              have qx42_245_247_253 : x42_245_247_253.toInt = (a9_132 + 1).toInt := congrArg Int32.toInt ex42_245_247_253
              exact hrec_132 _ (x41_245_247_253, x42_245_247_253) (show (12 + 1 - x42_245_247_253.toInt).toNat < n_132 by omega) ⟨rfl, (show 0 ≤ x42_245_247_253.toInt by omega), (show x42_245_247_253.toInt ≤ 12 by omega)⟩
            · have f72 : p4.toInt64.toInt = p4.toInt := Int32.toInt_toInt64 _
              have f73 : (38 : Int32).toInt = 38 := by decide
              have f74 : ((38 : Int32) + a9_132).toInt = (38 : Int32).toInt + a9_132.toInt := iadd_toInt (by omega) (by omega)
              refine ok_gd.mpr ⟨gb_of (by omega) (by omega), ?_⟩
              refine ok_nm2 (fun v43_245_247_253 ev43_245_247_253 => ?_)
              have qv43_245_247_253 : v43_245_247_253.toInt = (σ25_126_130.1 28 (38 + a9_132).toNatClampNeg).toInt := congrArg Int32.toInt ev43_245_247_253
              have f75 : (12 : Int32).toInt = 12 := by decide
              have f76 : ((12 : Int32) + a9_132).toInt = (12 : Int32).toInt + a9_132.toInt := iadd_toInt (by omega) (by omega)
              refine ok_gd.mpr ⟨gb_of (by omega) (by omega), ?_⟩
              refine ok_nm2 (fun v44_245_247_253 ev44_245_247_253 => ?_)
              have qv44_245_247_253 : v44_245_247_253.toInt = (σ25_126_130.1 39 (12 + a9_132).toNatClampNeg).toInt := congrArg Int32.toInt ev44_245_247_253
              refine ok_bd.mpr ?_
              try unfold fX10_apart
              refine ok_ite.mpr ⟨fun h_77 => ?_, fun h_77 => ?_⟩
              · have f78 : v43_245_247_253.toInt64.toInt = v43_245_247_253.toInt := Int32.toInt_toInt64 _
                have f79 : v44_245_247_253.toInt64.toInt = v44_245_247_253.toInt := Int32.toInt_toInt64 _
                have g80 : v43_245_247_253.toInt64.toInt ≤ v44_245_247_253.toInt64.toInt := Int64.le_iff_toInt_le.mp h_77
                refine ok_some.mpr ?_
                refine ok_ite.mpr ⟨fun h_81 => ?_, fun h_81 => ?_⟩
                · refine ok_nm2 (fun x48_245_247_253_255 ex48_245_247_253_255 => ?_)
                  have f82 : (a9_132 + (1 : Int32)).toInt = a9_132.toInt + (1 : Int32).toInt := iadd_toInt (by omega) (by omega)
                  have qx48_245_247_253_255 : x48_245_247_253_255.toInt = (a9_132 + 1).toInt := congrArg Int32.toInt ex48_245_247_253_255
                  exact hrec_132 _ (a8_132, x48_245_247_253_255) (show (12 + 1 - x48_245_247_253_255.toInt).toNat < n_132 by omega) ⟨rfl, (show 0 ≤ x48_245_247_253_255.toInt by omega), (show x48_245_247_253_255.toInt ≤ 12 by omega)⟩
                · refine ok_nm2 (fun x49_245_247_253_255 ex49_245_247_253_255 => ?_)
                  have qx49_245_247_253_255 : x49_245_247_253_255.toInt = (a8_132 + 1).toInt := congrArg Int32.toInt ex49_245_247_253_255
                  refine ok_nm2 (fun x50_245_247_253_255 ex50_245_247_253_255 => ?_)
                  have f83 : (a9_132 + (1 : Int32)).toInt = a9_132.toInt + (1 : Int32).toInt := iadd_toInt (by omega) (by omega)
                  have qx50_245_247_253_255 : x50_245_247_253_255.toInt = (a9_132 + 1).toInt := congrArg Int32.toInt ex50_245_247_253_255
                  exact hrec_132 _ (x49_245_247_253_255, x50_245_247_253_255) (show (12 + 1 - x50_245_247_253_255.toInt).toNat < n_132 by omega) ⟨rfl, (show 0 ≤ x50_245_247_253_255.toInt by omega), (show x50_245_247_253_255.toInt ≤ 12 by omega)⟩
              · have f84 : v43_245_247_253.toInt64.toInt = v43_245_247_253.toInt := Int32.toInt_toInt64 _
                have f85 : v44_245_247_253.toInt64.toInt = v44_245_247_253.toInt := Int32.toInt_toInt64 _
                have g86 : ¬ v43_245_247_253.toInt64.toInt ≤ v44_245_247_253.toInt64.toInt := fun z => h_77 (Int64.le_iff_toInt_le.mpr z)
                refine ok_some.mpr ?_
                refine ok_ite.mpr ⟨fun h_87 => ?_, fun h_87 => ?_⟩
                · refine ok_nm2 (fun x48_245_247_253_256 ex48_245_247_253_256 => ?_)
                  have f88 : (a9_132 + (1 : Int32)).toInt = a9_132.toInt + (1 : Int32).toInt := iadd_toInt (by omega) (by omega)
                  have qx48_245_247_253_256 : x48_245_247_253_256.toInt = (a9_132 + 1).toInt := congrArg Int32.toInt ex48_245_247_253_256
                  exact hrec_132 _ (a8_132, x48_245_247_253_256) (show (12 + 1 - x48_245_247_253_256.toInt).toNat < n_132 by omega) ⟨rfl, (show 0 ≤ x48_245_247_253_256.toInt by omega), (show x48_245_247_253_256.toInt ≤ 12 by omega)⟩
                · refine ok_nm2 (fun x49_245_247_253_256 ex49_245_247_253_256 => ?_)
                  have qx49_245_247_253_256 : x49_245_247_253_256.toInt = (a8_132 + 1).toInt := congrArg Int32.toInt ex49_245_247_253_256
                  refine ok_nm2 (fun x50_245_247_253_256 ex50_245_247_253_256 => ?_)
                  have f89 : (a9_132 + (1 : Int32)).toInt = a9_132.toInt + (1 : Int32).toInt := iadd_toInt (by omega) (by omega)
                  have qx50_245_247_253_256 : x50_245_247_253_256.toInt = (a9_132 + 1).toInt := congrArg Int32.toInt ex50_245_247_253_256
                  exact hrec_132 _ (x49_245_247_253_256, x50_245_247_253_256) (show (12 + 1 - x50_245_247_253_256.toInt).toNat < n_132 by omega) ⟨rfl, (show 0 ≤ x50_245_247_253_256.toInt by omega), (show x50_245_247_253_256.toInt ≤ 12 by omega)⟩
      · have g90 : ¬ v1_129.toInt ≤ a8_4.toInt := fun z => h_25 (Int32.le_iff_toInt_le.mpr z)
        refine ok_nm2 (fun x51_126_130 ex51_126_130 => ?_)
        have qx51_126_130 : x51_126_130.toInt = 0 := by rw [ex51_126_130]; decide
        refine ok_lpc (I := fun n s => n = (3 + 1 - s.1.toInt).toNat ∧ JM s.2 ∧ Fr fr_fX10_alters σ s.2 ∧ 0 ≤ s.1.toInt ∧ s.1.toInt ≤ 3) (fun rec73_257r n_257 s_257 hs_257 hrec_257 => ?_) K9 ((3 + 1 - x51_126_130.toInt).toNat) (x51_126_130, σ1_4) ⟨rfl, hIσ1_4, hfσ1_4, (show 0 ≤ x51_126_130.toInt by omega), (show x51_126_130.toInt ≤ 3 by omega)⟩ (by unfold K9; omega)
        obtain ⟨a9_257, σ1_257⟩ := s_257
        obtain ⟨hn_257, hIσ1_257, hfσ1_257, b0a9_257, b1a9_257⟩ := hs_257
        dsimp only at hn_257 hIσ1_257 hfσ1_257 b0a9_257 b1a9_257
        unfold bX10_alters_73
        try dsimp only
        refine ok_ite.mpr ⟨fun h_91 => ?_, fun h_91 => ?_⟩
        · have g92 : (2 : Int32).toInt ≤ a9_257.toInt := Int32.le_iff_toInt_le.mp h_91
          refine ok_nm2 (fun x53_258 ex53_258 => ?_)
          have f93 : (a8_4 + (1 : Int32)).toInt = a8_4.toInt + (1 : Int32).toInt := iadd_toInt (by omega) (by omega)
          have qx53_258 : x53_258.toInt = (a8_4 + 1).toInt := congrArg Int32.toInt ex53_258
          exact hrec_4 _ (x53_258, σ1_257) (show (12 + 1 - x53_258.toInt).toNat < n_4 by omega) ⟨rfl, hIσ1_257, hfσ1_257, (show 0 ≤ x53_258.toInt by omega), (show x53_258.toInt ≤ 12 by omega)⟩
        · have g94 : ¬ (2 : Int32).toInt ≤ a9_257.toInt := fun z => h_91 (Int32.le_iff_toInt_le.mpr z)
          have f95 : (38 : Int32).toInt = 38 := by decide
          have f96 : ((38 : Int32) * a9_257).toInt = 38 * a9_257.toInt := imulc (by decide) (by omega) (by omega)
          have f97 : ((38 * a9_257) + a8_4).toInt = (38 * a9_257).toInt + a8_4.toInt := iadd_toInt (by omega) (by omega)
          refine ok_gd.mpr ⟨gb_of (by omega) (by omega), ?_⟩
          refine ok_nm2 (fun v54_258 ev54_258 => ?_)
          have qv54_258 : v54_258.toInt = (σ1_257.1 28 ((38 * a9_257) + a8_4).toNatClampNeg).toInt := congrArg Int32.toInt ev54_258
          have f98 : (12 : Int32).toInt = 12 := by decide
          have f99 : ((12 : Int32) * a9_257).toInt = 12 * a9_257.toInt := imulc (by decide) (by omega) (by omega)
          have f100 : ((12 * a9_257) + a8_4).toInt = (12 * a9_257).toInt + a8_4.toInt := iadd_toInt (by omega) (by omega)
          refine ok_gd.mpr ⟨gb_of (by omega) (by omega), ?_⟩
          refine ok_nm2 (fun σ55_258 eσ55_258 => ?_)
          have hIσ55_258 : JM σ55_258 := by rw [eσ55_258]; exact JM_w hIσ1_257 (Int32.le_toInt _) (Int32.toInt_le _)
          have hfσ55_258 : Fr fr_fX10_alters σ σ55_258 := by rw [eσ55_258]; exact Fr_w0 hfσ1_257 (by decide)
          refine ok_nm2 (fun x56_258 ex56_258 => ?_)
          have f101 : (a9_257 + (1 : Int32)).toInt = a9_257.toInt + (1 : Int32).toInt := iadd_toInt (by omega) (by omega)
          have qx56_258 : x56_258.toInt = (a9_257 + 1).toInt := congrArg Int32.toInt ex56_258
          exact hrec_257 _ (x56_258, σ55_258) (show (3 + 1 - x56_258.toInt).toNat < n_257 by omega) ⟨rfl, hIσ55_258, hfσ55_258, (show 0 ≤ x56_258.toInt by omega), (show x56_258.toInt ≤ 3 by omega)⟩
    · have g102 : ¬ (0 : Int32).toInt ≤ p4.toInt := fun z => h_10 (Int32.le_iff_toInt_le.mpr z)
      refine ok_some.mpr ?_
      have f103 : (-1 : Int32).toInt = -1 := by decide
      exact ⟨hIσ, hfσ⟩
