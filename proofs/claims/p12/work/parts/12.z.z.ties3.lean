/-! TIES, 3: the class's survey as a whole; tie, loop -/
section P12ZZ
noncomputable def SV (σ s τ : gS) : Prop := LO σ τ ∧ MX s τ ∧ ∀ p1 p2 : Nat, (p1 : Int) < (s.1 15 7).toInt → (p2 : Int) < (s.1 15 7).toInt → p1 ≠ p2 → TT s τ p1 p2
/-- rows laid up to r -/
noncomputable def RP (s : gS) (r : Nat) (p q : Nat) (v : Int32) : Prop := (v = -1 ∧ ∀ j, j < r → ¬ roB s (Int32.ofNat p) (Int32.ofNat q) j = true) ∨ ∃ j, j < r ∧ roB s (Int32.ofNat p) (Int32.ofNat q) j = true ∧ v = Int32.ofNat j
theorem TT_t {s τ κ : gS} {p1 p2 : Nat} (t : TT s τ p1 p2) (h1 : κ.1 (155 + p1) p2 = τ.1 (155 + p1) p2) (h2 : κ.1 (168 + p1) p2 = τ.1 (168 + p1) p2) (h3 : κ.1 (181 + p1) p2 = τ.1 (181 + p1) p2) : TT s κ p1 p2 := by
  unfold TT
  rw [h1, h2, h3]
  exact t
set_option maxHeartbeats 1000000 in
theorem k_survey {σ s : gS} (h : GT σ s) : Ok (fX7_survey σ) (SV σ s) := by
  have w := wf_gt h
  obtain ⟨b9, b8, b7, b6⟩ := gt_n h
  have z0' := z0
  have l1 : (1 : Int32).toInt = 1 := by decide
  have l12 : (12 : Int32).toInt = 12 := by decide
  have e7 : σ.1 3 ((1 : Int32).toNatClampNeg) = s.1 15 7 := (tr_n h.2.2.1).2.2.1
  unfold fX7_survey
  rw [q_gd (by decide), nm_eq, e7, nm_eq, nm_eq]
  -- all is emptied
  refine ok_lpc (I := fun (n : Nat) (t : Int32 × gS) => n = ((s.1 15 7).toInt - t.1.toInt).toNat ∧ 0 ≤ t.1.toInt ∧ t.1.toInt ≤ (s.1 15 7).toInt ∧ LO σ t.2 ∧ ∀ p : Nat, (p : Int) < t.1.toInt → ∀ q : Nat, q < 20 → t.2.1 (142 + p) q = -1) (fun rec n t hs hrec => ?_) K9 (s.1 15 7).toInt.toNat (0, σ) ⟨by dsimp only; omega, by dsimp only; omega, by dsimp only; omega, ⟨fun _ _ => rfl, rfl⟩, fun p hp => absurd hp (by dsimp only; omega)⟩ (by unfold K9; omega)
  obtain ⟨a, τ⟩ := t
  obtain ⟨hn, a0, a1, lo, em⟩ := hs
  dsimp only at hn a0 a1 lo em ⊢
  unfold bX7_survey_12
  refine ok_ite.mpr ⟨fun hk => ok_nm.mpr ?_, fun hk => ?_⟩
  rotate_left
  · have hlt := q_gt hk
    have ei := i_inc (a := a) (c := 60) (by omega) (by omega) (by decide)
    have Z := sz_t ⟨a.toInt.toNat, by omega⟩
    obtain ⟨κ, e, k1, k2, k3⟩ := k_fill (σ := τ) (c := 142 + a.toInt.toNat) (v := -1) (n := 20) Z.2.1 Z.2.2 (by decide)
    rw [q_gd (gb_of a0 (by omega)), n_toInt, q_bd e, nm_eq]
    refine hrec ((s.1 15 7).toInt - (a + 1).toInt).toNat (a + 1, κ) (by omega) ⟨rfl, by dsimp only; omega, by dsimp only; omega, ⟨fun k hk => (k1 k (by omega)).trans (lo.1 k hk), k2.trans lo.2⟩, fun p hp q hq => ?_⟩
    dsimp only at hp ⊢
    by_cases z : p = a.toInt.toNat
    · rw [z]; exact k3 q hq
    · rw [k1 _ (by omega)]; exact em p (by omega) q hq
  have hk' := Int32.le_iff_toInt_le.mp hk
  have ae : a.toInt = (s.1 15 7).toInt := by omega
  rw [ae] at em
  clear hrec hn hk hk' a0 a1 ae
  -- rows
  refine ok_lpc (I := fun (n : Nat) (t : Int32 × gS) => n = ((s.1 15 9).toInt - t.1.toInt).toNat ∧ 0 ≤ t.1.toInt ∧ t.1.toInt ≤ (s.1 15 9).toInt ∧ LO σ t.2 ∧ ∀ p q : Nat, (p : Int) < (s.1 15 7).toInt → (q : Int) < (s.1 15 8).toInt → RP s t.1.toInt.toNat p q (t.2.1 (142 + p) q)) (fun rec n t hs hrec => ?_) K9 (s.1 15 9).toInt.toNat (0, τ) ⟨by dsimp only; omega, by dsimp only; omega, by dsimp only; omega, lo, fun p q hp hq => .inl ⟨em p hp q (by omega), fun j hj => absurd hj (by dsimp only; omega)⟩⟩ (by unfold K9; omega)
  clear lo em
  obtain ⟨r, τ⟩ := t
  obtain ⟨hn, r0, r1, lo, em⟩ := hs
  dsimp only at hn r0 r1 lo em ⊢
  have e3 : τ.1 3 ((3 : Int32).toNatClampNeg) = s.1 15 9 := by rw [lo.1 3 (by decide)]; exact (tr_n h.2.2.1).1
  unfold bX7_survey_35
  rw [q_gd (by decide), nm_eq, e3]
  refine ok_ite.mpr ⟨fun hk => ok_nm.mpr ?_, fun hk => ?_⟩
  rotate_left
  · have hlt := q_gt hk
    have ei := i_inc (a := r) (c := 60) (by omega) (by omega) (by decide)
    have er : (r + 1).toInt.toNat = r.toInt.toNat + 1 := by omega
    have D := h.2.2.2.2.2.2.2.2.2.1 r.toInt.toNat (by omega)
    have R := h.2.2.1.2.2.2.2 r.toInt.toNat (by omega)
    have p0 : 0 ≤ (s.1 22 (60 + r.toInt.toNat)).toInt := (h.2.1 22 (60 + r.toInt.toNat)).1
    have q0 : 0 ≤ (s.1 23 (60 + r.toInt.toNat)).toInt := (h.2.1 23 (60 + r.toInt.toNat)).1
    have p1 := R.2.2.1
    have q1 := R.2.2.2.1
    have gr := gb_of (i := r) (n := 60) r0 (by omega)
    have go : ∀ κ : gS, LO σ κ → (∀ p q : Nat, (p : Int) < (s.1 15 7).toInt → (q : Int) < (s.1 15 8).toInt → RP s (r.toInt.toNat + 1) p q (κ.1 (142 + p) q)) → Ok (rec (r + 1, κ)) (SV σ s) := fun κ g1 g2 => hrec ((s.1 15 9).toInt - (r + 1).toInt).toNat (r + 1, κ) (by omega) ⟨rfl, by dsimp only; omega, by dsimp only; omega, g1, fun p q hp hq => by dsimp only; rw [er]; exact g2 p q hp hq⟩
    have keep : ∀ (p q : Nat) (v : Int32), ¬ roB s (Int32.ofNat p) (Int32.ofNat q) r.toInt.toNat = true → RP s r.toInt.toNat p q v → RP s (r.toInt.toNat + 1) p q v := fun p q v nb hv => by
      rcases hv with ⟨v1, v2⟩ | ⟨j, j1, j2, j3⟩
      · refine .inl ⟨v1, fun j hj => ?_⟩
        by_cases z : j = r.toInt.toNat
        · rw [z]; exact nb
        · exact v2 j (by omega)
      · exact .inr ⟨j, by omega, j2, j3⟩
    rw [q_bd (c_usesK τ r0 (by omega)), lo.1 58 (by decide), D.1]
    by_cases u : s.1 26 r.toInt.toNat = 0
    · rw [if_pos u, if_neg one_ne, q_gd gr, nm_eq, n_toInt, lo.1 10 (by decide), R.1, q_gd (gb_of p0 (by omega)), q_gd gr, nm_eq, lo.1 11 (by decide), R.2.1, q_gd (gb_of q0 (by omega)), nm_eq, nm_eq, n_toInt, n_toInt]
      refine go _ ⟨fun k hk => by rw [gsI_row (by omega)]; exact lo.1 k hk, lo.2⟩ (fun p q hp hq => ?_)
      have ip : Int32.ofNat p = s.1 22 (60 + r.toInt.toNat) ↔ p = (s.1 22 (60 + r.toInt.toNat)).toInt.toNat := ⟨fun y => by rw [← y, iofNat_toInt (by omega)]; omega, fun y => by rw [y]; exact i32_of p0⟩
      have iq : Int32.ofNat q = s.1 23 (60 + r.toInt.toNat) ↔ q = (s.1 23 (60 + r.toInt.toNat)).toInt.toNat := ⟨fun y => by rw [← y, iofNat_toInt (by omega)]; omega, fun y => by rw [y]; exact i32_of q0⟩
      by_cases y : p = (s.1 22 (60 + r.toInt.toNat)).toInt.toNat ∧ q = (s.1 23 (60 + r.toInt.toNat)).toInt.toNat
      · rw [y.1, y.2, gsI_at, if_pos rfl]
        refine .inr ⟨r.toInt.toNat, by omega, decide_eq_true ⟨u, ?_, ?_⟩, (i32_of r0).symm⟩
        · exact (i32_of p0).symm
        · exact (i32_of q0).symm
      · have nb : ¬ roB s (Int32.ofNat p) (Int32.ofNat q) r.toInt.toNat = true := fun x => by
          obtain ⟨-, x1, x2⟩ := of_decide_eq_true x
          exact y ⟨ip.mp x1.symm, iq.mp x2.symm⟩
        have same : (gsI τ (142 + (s.1 22 (60 + r.toInt.toNat)).toInt.toNat) (s.1 23 (60 + r.toInt.toNat)).toInt.toNat r).1 (142 + p) q = τ.1 (142 + p) q := by
          by_cases x : p = (s.1 22 (60 + r.toInt.toNat)).toInt.toNat
          · rw [x, gsI_at, if_neg (fun v => y ⟨x, v⟩)]
          · rw [gsI_row (by omega)]
        rw [same]
        exact keep p q _ nb (em p q hp hq)
    · rw [if_neg u, if_pos rfl, nm_eq]
      exact go τ lo (fun p q hp hq => keep p q _ (fun x => u (of_decide_eq_true x).1) (em p q hp hq))
  have hk' := Int32.le_iff_toInt_le.mp hk
  have re : r.toInt.toNat = (s.1 15 9).toInt.toNat := by omega
  rw [re] at em
  have mx : MX s τ := fun p q hp hq => by
    rcases em p q hp hq with ⟨v1, v2⟩ | ⟨j, j1, j2, j3⟩
    · rw [v1, ro_none w (fun r hr => v2 r (by omega))]
    · rw [j3, ro_one h.2.2.1 w (by omega) j2]
  clear hrec hn hk hk' r0 r1 re em e3
  -- ties
  refine ok_lpc (I := fun (n : Nat) (t : Int32 × gS) => n = ((s.1 15 7).toInt - t.1.toInt).toNat ∧ 0 ≤ t.1.toInt ∧ t.1.toInt ≤ (s.1 15 7).toInt ∧ LO σ t.2 ∧ MX s t.2 ∧ ∀ p1 p2 : Nat, (p1 : Int) < t.1.toInt → (p2 : Int) < (s.1 15 7).toInt → p1 ≠ p2 → TT s t.2 p1 p2) (fun rec n t hs hrec => ?_) K9 (s.1 15 7).toInt.toNat (0, τ) ⟨by dsimp only; omega, by dsimp only; omega, by dsimp only; omega, lo, mx, fun p1 p2 hp => absurd hp (by dsimp only; omega)⟩ (by unfold K9; omega)
  clear lo mx
  obtain ⟨a, τ⟩ := t
  obtain ⟨hn, a0, a1, lo, mx, tt⟩ := hs
  dsimp only at hn a0 a1 lo mx tt ⊢
  unfold bX7_survey_92
  refine ok_ite.mpr ⟨fun hk => ok_some.mpr ?_, fun hk => ok_nm.mpr ?_⟩
  · have hk' := Int32.le_iff_toInt_le.mp hk
    exact ⟨lo, mx, fun p1 p2 h1 h2 h3 => tt p1 p2 (by omega) h2 h3⟩
  have hlt := q_gt hk
  have ei := i_inc (a := a) (c := 60) (by omega) (by omega) (by decide)
  refine ok_lpc (I := fun (n : Nat) (t : Int32 × gS) => n = ((s.1 15 7).toInt - t.1.toInt).toNat ∧ 0 ≤ t.1.toInt ∧ t.1.toInt ≤ (s.1 15 7).toInt ∧ LO σ t.2 ∧ MX s t.2 ∧ (∀ p1 p2 : Nat, (p1 : Int) < a.toInt → (p2 : Int) < (s.1 15 7).toInt → p1 ≠ p2 → TT s t.2 p1 p2) ∧ ∀ p2 : Nat, (p2 : Int) < t.1.toInt → a.toInt.toNat ≠ p2 → TT s t.2 a.toInt.toNat p2) (fun rec2 n t hs hrec2 => ?_) K9 (s.1 15 7).toInt.toNat (0, τ) ⟨by dsimp only; omega, by dsimp only; omega, by dsimp only; omega, lo, mx, tt, fun p2 hp => absurd hp (by dsimp only; omega)⟩ (by unfold K9; omega)
  clear lo mx tt
  obtain ⟨b, τ⟩ := t
  obtain ⟨hm, c0, c1, lo, mx, tt, uu⟩ := hs
  dsimp only at hm c0 c1 lo mx tt uu ⊢
  unfold bX7_survey_99
  refine ok_ite.mpr ⟨fun hj => ok_nm.mpr ?_, fun hj => ?_⟩
  · have hj' := Int32.le_iff_toInt_le.mp hj
    refine hrec ((s.1 15 7).toInt - (a + 1).toInt).toNat (a + 1, τ) (by omega) ⟨rfl, by dsimp only; omega, by dsimp only; omega, lo, mx, fun p1 p2 h1 h2 h3 => ?_⟩
    dsimp only at h1
    by_cases z : p1 = a.toInt.toNat
    · rw [z]; exact uu p2 (by omega) (fun y => h3 (z.trans y))
    · exact tt p1 p2 (by omega) h2 h3
  have hlt2 := q_gt hj
  have ej := i_inc (a := b) (c := 60) (by omega) (by omega) (by decide)
  refine ok_ite.mpr ⟨fun z => ok_nm.mpr ?_, fun z => ?_⟩
  · refine hrec2 ((s.1 15 7).toInt - (b + 1).toInt).toNat (b + 1, τ) (by omega) ⟨rfl, by dsimp only; omega, by dsimp only; omega, lo, mx, tt, fun p2 h2 h3 => ?_⟩
    dsimp only at h2
    exact uu p2 (by rw [z] at h3; omega) h3
  have ne : a.toInt.toNat ≠ b.toInt.toNat := fun y => z (Int32.toInt_inj.mp (by omega))
  obtain ⟨κ, e, ⟨k1, k2, k3⟩, k4⟩ := k_st7 h lo mx a0 (by omega) c0 (by omega)
  rw [q_bd e, nm_eq]
  refine hrec2 ((s.1 15 7).toInt - (b + 1).toInt).toNat (b + 1, κ) (by omega) ⟨rfl, by dsimp only; omega, by dsimp only; omega, ⟨fun k hk => (k1 k (by omega) (by omega) (by omega)).trans (lo.1 k hk), k2.trans lo.2⟩, fun p q hp hq => (congrFun (k1 (142 + p) (by omega) (by omega) (by omega)) q).trans (mx p q hp hq), fun p1 p2 h1 h2 h3 => ?_, fun p2 h2 h3 => ?_⟩
  · exact TT_t (tt p1 p2 h1 h2 h3) (congrFun (k1 _ (by omega) (by omega) (by omega)) p2) (congrFun (k1 _ (by omega) (by omega) (by omega)) p2) (congrFun (k1 _ (by omega) (by omega) (by omega)) p2)
  · dsimp only at h2
    by_cases y : p2 = b.toInt.toNat
    · rw [y]; exact k4
    · exact TT_t (uu p2 (by omega) h3) (k3 p2 y).1 (k3 p2 y).2.1 (k3 p2 y).2.2
end P12ZZ
