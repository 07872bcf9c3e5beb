/-! WHAT HANGS TOGETHER, 3: the reference's labels; loose, can show -/
section P12ZF
theorem m_cen (t : gS) {p : Int32} (p0 : 0 ≤ p.toInt) (p1 : p.toInt ≤ 11) : fX10_centreOf t p = some (t.1 18 (12 + p.toInt.toNat)) := by
  have l12 : (12 : Int32).toInt = 12 := by decide
  have e : (12 + p).toInt = 12 + p.toInt := by rw [iadd_toInt] <;> omega
  unfold fX10_centreOf
  rw [q_gd (gb_of (by omega) (by omega)), nm_eq, n_add (k := 12) (by decide) p0 (by omega)]
theorem m_str (t : gS) {p : Int32} (p0 : 0 ≤ p.toInt) (p1 : p.toInt ≤ 11) : fX10_strip t p = some (t.1 16 (12 + p.toInt.toNat)) := by
  have l12 : (12 : Int32).toInt = 12 := by decide
  have e : (12 + p).toInt = 12 + p.toInt := by rw [iadd_toInt] <;> omega
  unfold fX10_strip
  rw [q_gd (gb_of (by omega) (by omega)), nm_eq, n_add (k := 12) (by decide) p0 (by omega)]
theorem lM_s {s : gS} {w : Int32} {n : Nat} (k : Nat) : lM s w (n + 1) k = if cnB s n = true then iM (fun o => cnB s o && decide (stF s n = stF s o)) n (lM s w n) n k else lM s w n k := rfl
theorem iM_s {c : Nat → Bool} {p o : Nat} {Q : Nat → Int32} (k : Nat) : iM c p Q (o + 1) k = if c o = true then mg (iM c p Q o) p o k else iM c p Q o k := rfl
noncomputable def MH (s : gS) (w : Int32) (t o : gS) : Prop := (∀ j, j ≠ 32 → o.1 j = t.1 j) ∧ o.2 = t.2 ∧ ∀ k, k < 32 → o.1 32 k = lM s w (s.1 15 7).toInt.toNat k
set_option maxHeartbeats 1000000 in
theorem m_hangs {s t : gS} (wf : WF s) (w : Int32) (e : ∀ k, k ≠ 26 → k ≠ 32 → t.1 k = s.1 k) (hu : ∀ r : Nat, (r : Int) < (s.1 15 9).toInt → (t.1 26 r = 0 ↔ uB s w r = true)) : Ok (fX10_hangs t) (MH s w t) := by
  obtain ⟨b9, b8, b7, b6⟩ := wf.1
  have z0' := z0
  have l12 : (12 : Int32).toInt = 12 := by decide
  have l32 : (32 : Int32).toInt = 32 := by decide
  unfold fX10_hangs
  refine ok_nm.mpr ?_
  refine ok_lpc (I := fun (m : Nat) (u : Int32 × gS) => m = (32 - u.1.toInt).toNat ∧ 0 ≤ u.1.toInt ∧ u.1.toInt ≤ 32 ∧ (∀ j, j ≠ 32 → u.2.1 j = t.1 j) ∧ u.2.2 = t.2 ∧ ∀ k : Nat, (k : Int) < u.1.toInt → u.2.1 32 k = Int32.ofNat k) (fun rec m u hs hrec => ?_) K9 32 (0, t) ⟨by dsimp only; omega, by dsimp only; omega, by dsimp only; omega, fun _ _ => rfl, rfl, fun k hk => absurd hk (by dsimp only; omega)⟩ (by unfold K9; omega)
  obtain ⟨i, τ⟩ := u
  obtain ⟨hm, i0, i1, h1, h2, h3⟩ := hs
  dsimp only at hm i0 i1 h1 h2 h3 ⊢
  unfold bX10_hangs_2
  refine ok_ite.mpr ⟨fun hk => ?_, fun hk => ?_⟩
  rotate_left
  · have hlt := q_gt hk
    have ei := i_inc (a := i) (c := 60) (by omega) (by omega) (by decide)
    rw [q_gd (gb_of (by omega) (by omega)), nm_eq, nm_eq]
    refine hrec (32 - (i + 1).toInt).toNat _ (by omega) ⟨rfl, by dsimp only; omega, by dsimp only; omega, fun j hj => (gsI_row hj).trans (h1 j hj), h2, fun k hk => ?_⟩
    dsimp only at hk ⊢
    rw [gsI_at, n_toInt]
    by_cases y : k = i.toInt.toNat
    · rw [if_pos y, y]
      exact (i32_of i0).symm
    · rw [if_neg y]
      exact h3 k (by omega)
  have hk' := Int32.le_iff_toInt_le.mp hk
  clear hrec
  -- rows
  refine ok_nm.mpr (ok_nm.mpr ?_)
  refine ok_lpc (I := fun (m : Nat) (u : Int32 × gS) => m = ((s.1 15 9).toInt - u.1.toInt).toNat ∧ 0 ≤ u.1.toInt ∧ u.1.toInt ≤ (s.1 15 9).toInt ∧ (∀ j, j ≠ 32 → u.2.1 j = t.1 j) ∧ u.2.2 = t.2 ∧ ∀ k : Nat, k < 32 → u.2.1 32 k = rl s w u.1.toInt.toNat k) (fun rec m u hs hrec => ?_) K9 (s.1 15 9).toInt.toNat (0, τ) ⟨by dsimp only; omega, by dsimp only; omega, by dsimp only; omega, h1, h2, fun k hk => h3 k (by omega)⟩ (by unfold K9; omega)
  clear h1 h2 h3 hk hk' hm i0 i1
  obtain ⟨i, τ⟩ := u
  obtain ⟨hm, i0, i1, h1, h2, h3⟩ := hs
  dsimp only at hm i0 i1 h1 h2 h3 ⊢
  have r1 : ∀ k, k ≠ 26 → k ≠ 32 → τ.1 k = s.1 k := fun k k1 k2 => (h1 k k2).trans (e k k1 k2)
  have wτ : WF τ := by
    unfold WF
    rw [r1 15 (by decide) (by decide), r1 22 (by decide) (by decide), r1 23 (by decide) (by decide), r1 25 (by decide) (by decide), r1 16 (by decide) (by decide), r1 18 (by decide) (by decide), r1 27 (by decide) (by decide)]
    exact wf
  unfold bX10_hangs_25
  rw [q_bd (m_rows τ), r1 15 (by decide) (by decide)]
  refine ok_ite.mpr ⟨fun hk => ?_, fun hk => ?_⟩
  rotate_left
  · have hlt := q_gt hk
    have ei := i_inc (a := i) (c := 60) (by omega) (by omega) (by decide)
    have ek : (i + 1).toInt.toNat = i.toInt.toNat + 1 := by omega
    have W := wf.2.1 i.toInt.toNat (by omega)
    obtain ⟨w1, w2, -, -⟩ := wf_row wτ i0 (by rw [r1 15 (by decide) (by decide)]; exact hlt)
    rw [r1 22 (by decide) (by decide)] at w1
    rw [r1 23 (by decide) (by decide)] at w2
    have hu' := hu i.toInt.toNat (by omega)
    rw [q_gd (gb_of (by omega) (by omega)), nm_eq, n_toInt, h1 26 (by decide)]
    by_cases u : t.1 26 i.toInt.toNat = 0
    · have y1 : (12 + s.1 23 (60 + i.toInt.toNat)).toInt = 12 + (s.1 23 (60 + i.toInt.toNat)).toInt := by rw [iadd_toInt] <;> omega
      have y2 : (12 + s.1 23 (60 + i.toInt.toNat)).toInt.toNat = 12 + qO s i.toInt.toNat := by unfold qO; omega
      rw [if_pos u, q_bd w1, q_bd w2]
      refine ok_bd2.mpr ((m_joins (s := τ) (a := s.1 22 (60 + i.toInt.toNat)) (b := 12 + s.1 23 (60 + i.toInt.toNat)) (by omega) (by omega) (by omega) (by omega)).mono (fun μ hμ => ?_))
      obtain ⟨q1, q2, q3⟩ := hμ
      rw [y2] at q3
      have go : Ok (rec (i + 1, μ.2)) (MH s w t) := by
        refine hrec ((s.1 15 9).toInt - (i + 1).toInt).toNat _ (by omega) ⟨rfl, by dsimp only; omega, by dsimp only; omega, fun j hj => (q1 j hj).trans (h1 j hj), q2.trans h2, fun k hk => ?_⟩
        dsimp only
        rw [ek, rl_s, if_pos (hu'.mp u), q3 k hk]
        exact mg_eq h3 (by omega) (by unfold qO; omega) k hk
      refine ok_ite.mpr ⟨fun _ => ok_nm.mpr go, fun _ => ok_nm.mpr (ok_nm.mpr go)⟩
    · rw [if_neg u, nm_eq]
      refine hrec ((s.1 15 9).toInt - (i + 1).toInt).toNat _ (by omega) ⟨rfl, by dsimp only; omega, by dsimp only; omega, h1, h2, fun k hk => ?_⟩
      dsimp only
      rw [ek, rl_s, if_neg (fun z => u (hu'.mpr z))]
      exact h3 k hk
  have hk' := Int32.le_iff_toInt_le.mp hk
  have en : i.toInt.toNat = (s.1 15 9).toInt.toNat := by omega
  rw [en] at h3
  clear hrec
  -- centres
  refine ok_nm.mpr ?_
  refine ok_lpc (I := fun (m : Nat) (u : Int32 × gS) => m = ((s.1 15 7).toInt - u.1.toInt).toNat ∧ 0 ≤ u.1.toInt ∧ u.1.toInt ≤ (s.1 15 7).toInt ∧ (∀ j, j ≠ 32 → u.2.1 j = t.1 j) ∧ u.2.2 = t.2 ∧ ∀ k : Nat, k < 32 → u.2.1 32 k = lM s w u.1.toInt.toNat k) (fun rec m u hs hrec => ?_) K9 (s.1 15 7).toInt.toNat (0, τ) ⟨by dsimp only; omega, by dsimp only; omega, by dsimp only; omega, h1, h2, fun k hk => h3 k hk⟩ (by unfold K9; omega)
  clear h1 h2 h3 hk hk' hm i0 i1 en r1 wτ
  obtain ⟨p, τ⟩ := u
  obtain ⟨hm, p0, p1, h1, h2, h3⟩ := hs
  dsimp only at hm p0 p1 h1 h2 h3 ⊢
  have r1 : ∀ k, k ≠ 26 → k ≠ 32 → τ.1 k = s.1 k := fun k k1 k2 => (h1 k k2).trans (e k k1 k2)
  unfold bX10_hangs_72
  rw [q_bd (m_pictures τ), r1 15 (by decide) (by decide)]
  refine ok_ite.mpr ⟨fun hk => ok_some.mpr ⟨h1, h2, fun k hk2 => ?_⟩, fun hk => ok_nm.mpr ?_⟩
  · have hk' := Int32.le_iff_toInt_le.mp hk
    rw [h3 k hk2, show p.toInt.toNat = (s.1 15 7).toInt.toNat by omega]
  have hlt := q_gt hk
  have ei := i_inc (a := p) (c := 60) (by omega) (by omega) (by decide)
  have ek : (p + 1).toInt.toNat = p.toInt.toNat + 1 := by omega
  obtain ⟨J, hJ⟩ : ∃ J : Nat → Nat → Int32, J = fun o k => if cnB s p.toInt.toNat = true then iM (fun o => cnB s o && decide (stF s p.toInt.toNat = stF s o)) p.toInt.toNat (lM s w p.toInt.toNat) o k else lM s w p.toInt.toNat k := ⟨_, rfl⟩
  have J0 : ∀ k, J 0 k = lM s w p.toInt.toNat k := fun k => by
    rw [hJ]
    show (if cnB s p.toInt.toNat = true then lM s w p.toInt.toNat k else lM s w p.toInt.toNat k) = _
    by_cases z : cnB s p.toInt.toNat = true
    · rw [if_pos z]
    · rw [if_neg z]
  have Jp : ∀ k, J p.toInt.toNat k = lM s w (p.toInt.toNat + 1) k := fun k => by rw [hJ, lM_s]
  have Js : ∀ o k, J (o + 1) k = if cnB s p.toInt.toNat = true ∧ cnB s o = true ∧ stF s p.toInt.toNat = stF s o then mg (J o) p.toInt.toNat o k else J o k := fun o k => by
    rw [hJ]
    dsimp only
    by_cases z : cnB s p.toInt.toNat = true
    · have ef : (fun k => if cnB s p.toInt.toNat = true then iM (fun o => cnB s o && decide (stF s p.toInt.toNat = stF s o)) p.toInt.toNat (lM s w p.toInt.toNat) o k else lM s w p.toInt.toNat k) = iM (fun o => cnB s o && decide (stF s p.toInt.toNat = stF s o)) p.toInt.toNat (lM s w p.toInt.toNat) o := funext fun k => if_pos z
      rw [if_pos z, iM_s, if_pos z, ef]
      by_cases y : cnB s o = true ∧ stF s p.toInt.toNat = stF s o
      · rw [if_pos (by rw [y.1, decide_eq_true y.2]; rfl), if_pos ⟨z, y⟩]
      · rw [if_neg (fun x => y ⟨(Bool.and_eq_true_iff.mp x).1, of_decide_eq_true (Bool.and_eq_true_iff.mp x).2⟩), if_neg (fun x => y x.2)]
    · rw [if_neg z, if_neg (fun x => z x.1), if_neg z]
  have cp := m_cen
  refine ok_lpc (I := fun (m : Nat) (u : Int32 × gS) => m = (p.toInt - u.1.toInt).toNat ∧ 0 ≤ u.1.toInt ∧ u.1.toInt ≤ p.toInt ∧ (∀ j, j ≠ 32 → u.2.1 j = t.1 j) ∧ u.2.2 = t.2 ∧ ∀ k : Nat, k < 32 → u.2.1 32 k = J u.1.toInt.toNat k) (fun rec2 m2 u hs hrec2 => ?_) K9 p.toInt.toNat (0, τ) ⟨by dsimp only; omega, by dsimp only; omega, by dsimp only; omega, h1, h2, fun k hk => (h3 k hk).trans (J0 k).symm⟩ (by unfold K9; omega)
  clear h1 h2 h3 r1
  obtain ⟨o, τ⟩ := u
  obtain ⟨hm2, o0, o1, h1, h2, h3⟩ := hs
  dsimp only at hm2 o0 o1 h1 h2 h3 ⊢
  have r1 : ∀ k, k ≠ 26 → k ≠ 32 → τ.1 k = s.1 k := fun k k1 k2 => (h1 k k2).trans (e k k1 k2)
  unfold bX10_hangs_82
  refine ok_ite.mpr ⟨fun hk2 => ok_nm.mpr ?_, fun hk2 => ?_⟩
  · have hk' := Int32.le_iff_toInt_le.mp hk2
    refine hrec ((s.1 15 7).toInt - (p + 1).toInt).toNat _ (by omega) ⟨rfl, by dsimp only; omega, by dsimp only; omega, h1, h2, fun k hk => ?_⟩
    dsimp only
    rw [ek, h3 k hk, show o.toInt.toNat = p.toInt.toNat by omega]
    exact Jp k
  have hlt2 := q_gt hk2
  have ei2 := i_inc (a := o) (c := 60) (by omega) (by omega) (by decide)
  have ek2 : (o + 1).toInt.toNat = o.toInt.toNat + 1 := by omega
  have sk : ¬ (cnB s p.toInt.toNat = true ∧ cnB s o.toInt.toNat = true ∧ stF s p.toInt.toNat = stF s o.toInt.toNat) → Ok (rec2 (o + 1, τ)) (MH s w t) := fun hc => by
    refine hrec2 (p.toInt - (o + 1).toInt).toNat _ (by omega) ⟨rfl, by dsimp only; omega, by dsimp only; omega, h1, h2, fun k hk => ?_⟩
    dsimp only
    rw [ek2, Js, if_neg hc]
    exact h3 k hk
  rw [q_bd (m_cen τ p0 (by omega)), r1 18 (by decide) (by decide)]
  by_cases v : s.1 18 (12 + p.toInt.toNat) ≤ 0
  · have v' := Int32.le_iff_toInt_le.mp v
    rw [if_pos v, nm_eq]
    exact sk (fun z => by have := of_decide_eq_true z.1; omega)
  have v' := q_gt v
  rw [if_neg v, q_bd (m_cen τ o0 (by omega)), r1 18 (by decide) (by decide)]
  by_cases v2 : s.1 18 (12 + o.toInt.toNat) ≤ 0
  · have v2' := Int32.le_iff_toInt_le.mp v2
    rw [if_pos v2, nm_eq]
    exact sk (fun z => by have := of_decide_eq_true z.2.1; omega)
  have v2' := q_gt v2
  rw [if_neg v2, q_bd (m_str τ p0 (by omega)), q_bd (m_str τ o0 (by omega)), r1 16 (by decide) (by decide)]
  by_cases v3 : s.1 16 (12 + p.toInt.toNat) = s.1 16 (12 + o.toInt.toNat)
  · rw [if_pos v3]
    refine ok_bd2.mpr ((m_joins (s := τ) (a := p) (b := o) (by omega) (by omega) (by omega) (by omega)).mono (fun μ hμ => ?_))
    obtain ⟨q1, q2, q3⟩ := hμ
    have go : Ok (rec2 (o + 1, μ.2)) (MH s w t) := by
      refine hrec2 (p.toInt - (o + 1).toInt).toNat _ (by omega) ⟨rfl, by dsimp only; omega, by dsimp only; omega, fun j hj => (q1 j hj).trans (h1 j hj), q2.trans h2, fun k hk => ?_⟩
      dsimp only
      rw [ek2, Js, if_pos ⟨decide_eq_true (by omega), decide_eq_true (by omega), v3⟩, q3 k hk]
      exact mg_eq h3 (by omega) (by omega) k hk
    refine ok_ite.mpr ⟨fun _ => ok_nm.mpr go, fun _ => ok_nm.mpr (ok_nm.mpr go)⟩
  · rw [if_neg v3, nm_eq]
    exact sk (fun z => v3 z.2.2)
theorem lab_eq {s : gS} (wf : WF s) (w : Int32) : EQ (lC s w (s.1 15 7).toInt.toNat) (lM s w (s.1 15 7).toInt.toNat) := by
  have b7 := wf.1.2.2.1
  exact (cen_eq (cen := cnB s) (st := stF s) (fc := fcN s) (P := rl s w (s.1 15 9).toInt.toNat) (s.1 15 7).toInt.toNat (by omega) (fun p hp hc => (fc_spec wf (p := p) (by omega) hc).2) (s.1 15 7).toInt.toNat (Nat.le_refl _)).1
/-- is it loose: alike -/
theorem loose_2 {σ s τ t : gS} {w : Int32} (wf : WF s) (fx : ∀ q : Nat, (q : Int) < (s.1 15 8).toInt → (σ.1 16 q &&& σ.1 47 1 = 0 ↔ freeM s q)) (hC : NC σ s w τ) (t15 : t.1 15 = s.1 15) (t20 : t.1 20 = s.1 20) (t36 : t.1 0 36 = s.1 0 36) (hM : ∀ k, k < 32 → t.1 32 k = lM s w (s.1 15 7).toInt.toNat k) {k : Int32} (k0 : 0 ≤ k.toInt) (k1 : k.toInt ≤ 31) : ∃ v : Int32, fX2_isLoose τ k = some v ∧ fX10_isLoose t k = some v ∧ (v = 0 ∨ v = 1) := by
  obtain ⟨b9, b8, b7, b6⟩ := wf.1
  have z0' := z0
  have l12 : (12 : Int32).toInt = 12 := by decide
  obtain ⟨-, -, h3, h4⟩ := hC
  have lb := lC_lb wf w (n := (s.1 15 7).toInt.toNat) (by omega) k.toInt.toNat (by omega)
  have gk := gb_of (i := k) (n := 32) k0 (by omega)
  have H := h4 (lC s w (s.1 15 7).toInt.toNat k.toInt.toNat) lb.1 lb.2
  have eq := lab_eq wf w
  -- the reference's search
  have key : Ok (fX10_isLoose t k) (fun v => (v = 0 ∨ v = 1) ∧ (v = 1 ↔ ∀ q : Nat, (q : Int) < (s.1 15 8).toInt → ¬ freeM s q → ¬ lM s w (s.1 15 7).toInt.toNat (12 + q) = lM s w (s.1 15 7).toInt.toNat k.toInt.toNat)) := by
    unfold fX10_isLoose
    refine ok_nm.mpr ?_
    refine ok_lpc (I := fun (m : Nat) (q : Int32) => m = ((s.1 15 8).toInt - q.toInt).toNat ∧ 0 ≤ q.toInt ∧ q.toInt ≤ (s.1 15 8).toInt ∧ ∀ i : Nat, (i : Int) < q.toInt → ¬ freeM s i → ¬ lM s w (s.1 15 7).toInt.toNat (12 + i) = lM s w (s.1 15 7).toInt.toNat k.toInt.toNat) (fun rec m q hs hrec => ?_) K9 (s.1 15 8).toInt.toNat 0 ⟨by omega, by omega, by omega, fun i hi => absurd hi (by omega)⟩ (by unfold K9; omega)
    obtain ⟨hm, q0, q1, h⟩ := hs
    unfold bX10_isLoose_2
    rw [q_bd (m_points t), t15]
    refine ok_ite.mpr ⟨fun hk => ok_some.mpr ⟨.inr rfl, fun _ i hi => h i (by have := Int32.le_iff_toInt_le.mp hk; omega), fun _ => rfl⟩, fun hk => ?_⟩
    have hlt := q_gt hk
    have ei := i_inc (a := q) (c := 60) (by omega) (by omega) (by decide)
    have ic : fX10_isControl t q = fX10_isControl s q := isC_eq t20 t36
    have x12 : (12 + q).toInt = 12 + q.toInt := by rw [iadd_toInt] <;> omega
    have n12 : (12 + q).toInt.toNat = 12 + q.toInt.toNat := by omega
    rw [ic]
    rcases m_isC (s := s) q0 (by omega) with ⟨c1, c2⟩ | ⟨c1, c2⟩
    · rw [q_bd c1, if_pos rfl, nm_eq]
      refine hrec ((s.1 15 8).toInt - (q + 1).toInt).toNat _ (by omega) ⟨rfl, by omega, by omega, fun i hi fi => ?_⟩
      by_cases x : i = q.toInt.toNat
      · exact absurd (by rw [x]; exact c2) fi
      · exact h i (by omega) fi
    · rw [q_bd c1, if_neg one_ne, q_gd (gb_of (by omega) (by omega)), nm_eq, q_gd gk, nm_eq, n_toInt, n12, hM _ (by omega), n_toInt, hM _ (by omega)]
      by_cases y : lM s w (s.1 15 7).toInt.toNat (12 + q.toInt.toNat) = lM s w (s.1 15 7).toInt.toNat k.toInt.toNat
      · rw [if_pos y]
        exact ok_some.mpr ⟨.inl rfl, fun z => absurd z.symm one_ne, fun z => absurd y (z _ (by omega) c2)⟩
      · rw [if_neg y, nm_eq]
        refine hrec ((s.1 15 8).toInt - (q + 1).toInt).toNat _ (by omega) ⟨rfl, by omega, by omega, fun i hi fi => ?_⟩
        by_cases x : i = q.toInt.toNat
        · rw [x]; exact y
        · exact h i (by omega) fi
  obtain ⟨v, ev, hv, hv2⟩ := key
  refine ⟨v, ?_, ev, hv⟩
  have both : (τ.1 139 (lC s w (s.1 15 7).toInt.toNat k.toInt.toNat).toInt.toNat = 0) ↔ v = 1 := by
    rw [H, hv2]
    constructor
    · intro a q hq fq e
      refine a q hq (fun z => fq ((fx q hq).mp z)) ?_
      exact (eq (12 + q) k.toInt.toNat (by omega) (by omega)).mpr e
    · intro a q hq fq e
      refine a q hq (fun z => fq ((fx q hq).mpr z)) ?_
      exact (eq (12 + q) k.toInt.toNat (by omega) (by omega)).mp e
  unfold fX2_isLoose
  rw [q_gd gk, nm_eq, n_toInt, h3 _ (by omega), q_gd (gb_of (by omega) (by omega)), nm_eq, n_toInt]
  rcases hv with hv | hv
  · rw [if_neg (fun z => by have := both.mp z; rw [hv] at this; exact absurd this.symm one_ne), hv]
  · rw [if_pos (both.mpr hv), hv]
end P12ZF
