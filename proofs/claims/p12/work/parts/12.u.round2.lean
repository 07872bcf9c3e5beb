/-! THE GEOMETRY: a round is alike -/
section P12U
theorem n_0 : (0 : Int32).toInt.toNat = 0 := by decide
theorem n_1 : (1 : Int32).toInt.toNat = 1 := by decide
theorem PA_0 {σ s : gS} (h : PA σ s 0) : (∀ p : Nat, (p : Int) < (s.1 15 7).toInt → σ.1 50 p = s.1 28 (38 * 0 + (0 + p))) ∧ (∀ q : Nat, (q : Int) < (s.1 15 8).toInt → σ.1 53 q = s.1 28 (38 * 0 + (12 + q))) ∧ (∀ t : Nat, (t : Int) < (s.1 15 6).toInt → σ.1 56 t = s.1 28 (38 * 0 + (32 + t))) := by
  unfold PA at h
  rw [n_0] at h
  exact ⟨fun p hp => by rw [Nat.zero_add]; exact h.1 p hp, h.2.1, h.2.2.1⟩
theorem PA_1 {σ s : gS} (h : PA σ s 1) : (∀ p : Nat, (p : Int) < (s.1 15 7).toInt → σ.1 51 p = s.1 28 (38 * 1 + (0 + p))) ∧ (∀ q : Nat, (q : Int) < (s.1 15 8).toInt → σ.1 54 q = s.1 28 (38 * 1 + (12 + q))) ∧ (∀ t : Nat, (t : Int) < (s.1 15 6).toInt → σ.1 57 t = s.1 28 (38 * 1 + (32 + t))) := by
  unfold PA at h
  rw [n_1] at h
  exact ⟨fun p hp => by rw [Nat.zero_add]; exact h.1 p hp, h.2.1, h.2.2.1⟩
theorem CV_fl {σ : gS} {c n : Nat} {F : Nat → Int} {o : Int32 × gS} (v : CV σ c n F o) : (o.1 = 0 ↔ o.2.1 c = σ.1 c) ∧ ∀ j : Nat, n ≤ j → o.2.1 c j = σ.1 c j := ⟨v.2.2.2.2.2, v.2.2.2.1⟩
noncomputable def FrK (σ τ : gS) : Prop := (∀ k, k ≠ 50 → k ≠ 51 → k ≠ 53 → k ≠ 54 → k ≠ 56 → k ≠ 57 → τ.1 k = σ.1 k) ∧ ∀ k, k ≠ 91 → k ≠ 92 → τ.2 k = σ.2 k
noncomputable def FrO (s t : gS) : Prop := (∀ k, k ≠ 0 → k ≠ 28 → t.1 k = s.1 k) ∧ (∀ i, i ≠ 41 → t.1 0 i = s.1 0 i) ∧ ∀ k i, ¬ (k = 0 ∧ i = 40) → t.2 k i = s.2 k i
set_option maxHeartbeats 1000000 in
theorem round_2 {σ s : gS} (h : TRd σ s) (w : WF s) (p0 : PA σ s 0) (p1 : PA σ s 1) (fx : ∀ q : Nat, (q : Int) < (s.1 15 8).toInt → (σ.1 16 q &&& σ.1 47 1 = 0 ↔ freeM s q)) : Re (fX1_makeRound σ) (fX10_isRound s) (fun oc om => oc.1 = om.1 ∧ (oc.1 = 0 ∨ oc.1 = 1) ∧ PA oc.2 om.2 0 ∧ PA oc.2 om.2 1 ∧ FrK σ oc.2 ∧ FrO s om.2) := by
  have z0' := z0
  have l1 : (1 : Int32).toInt = 1 := by decide
  obtain ⟨oc, eC, o1, o2, o3, o4, o5, o6, ⟨v1, v2, v3⟩, ⟨v4, v5, v6⟩, eo, hf, ef⟩ := c_round (wfc_of h w)
  obtain ⟨om, eM, s1, g1, s2, g2, m1, m2, m3⟩ := m_round w
  have w1 := SG_wf w m1
  have w2 := SG_wf w1 m2
  have lg : ∀ {x y : gS} {f g : Int32} {D : Nat → Prop} {F : Nat → Int}, SG x f D F y g → y.2 14 = x.2 14 := fun m => funext fun i => m.2.2.1 14 i (by omega)
  obtain ⟨n3, n2, n1, n0⟩ := tr_n h
  have h1 : TRd o1.2 s1 := TR_cong h (fun k hk => v1.1 k (by omega)) m1.1 (lg m1)
  have h2 : TRd o2.2 s2 := TR_cong h1 (fun k hk => v2.1 k (by omega)) m2.1 (lg m2)
  have h3 : TRd o3.2 s := TR_cong h (fun k hk => by rw [v3.1 k (by omega), v2.1 k (by omega), v1.1 k (by omega)]) (fun _ _ _ => rfl) rfl
  have h4 : TRd o4.2 s1 := TR_cong h3 (fun k hk => v4.1 k (by omega)) m1.1 (lg m1)
  have h5 : TRd o5.2 s2 := TR_cong h4 (fun k hk => v5.1 k (by omega)) m2.1 (lg m2)
  have q1 := st_Q h w (a := 0) (by decide) (by decide) p0 fx v1 m1
  have q2 := st_P h1 w1 (a := 0) (by decide) (by decide) q1 (by rw [v1.1 3 (by omega)]) v2 m2
  have q3 := st_D h2 w2 (a := 0) (by decide) (by decide) q2 (by rw [v2.1 3 (by omega), v1.1 3 (by omega)]) v3 m3
  have e3 : ∀ k, k ≠ 50 → k ≠ 53 → k ≠ 56 → o3.2.1 k = σ.1 k := fun k a b c => by rw [v3.1 k (by omega), v2.1 k (by omega), v1.1 k (by omega)]
  have e6 : ∀ k, k ≠ 51 → k ≠ 54 → k ≠ 57 → o6.2.1 k = o3.2.1 k := fun k a b c => by rw [v6.1 k (by omega), v5.1 k (by omega), v4.1 k (by omega)]
  have r0 : PA o3.2 s 1 := PA_c p1 (fun k hk => e3 k (by omega) (by omega) (by omega))
  have fx3 : ∀ q : Nat, (q : Int) < (s.1 15 8).toInt → (o3.2.1 16 q &&& o3.2.1 47 1 = 0 ↔ freeM s q) := fun q hq => by
    rw [e3 16 (by decide) (by decide) (by decide), e3 47 (by decide) (by decide) (by decide)]
    exact fx q hq
  have q4 := st_Q h3 w (a := 1) (by decide) (by decide) r0 fx3 v4 m1
  have q5 := st_P h4 w1 (a := 1) (by decide) (by decide) q4 (by rw [v4.1 3 (by omega)]) v5 m2
  have q6 := st_D h5 w2 (a := 1) (by decide) (by decide) q5 (by rw [v5.1 3 (by omega), v4.1 3 (by omega)]) v6 m3
  have q7 : PA o6.2 om.2 0 := PA_c q3 (fun k hk => e6 k (by omega) (by omega) (by omega))
  refine ⟨oc, om, eC, eM, ?_, hf, by rw [eo]; exact q7, by rw [eo]; exact q6, ?_, ?_⟩
  · have c1 := CV_fl v1
    have c2 := CV_fl v2
    have c3 := CV_fl v3
    have c4 := CV_fl v4
    have c5 := CV_fl v5
    have c6 := CV_fl v6
    rw [n_0] at c1 c2 c3
    rw [n_1] at c4 c5 c6
    have E3 : o3.2.1 3 = σ.1 3 := e3 3 (by decide) (by decide) (by decide)
    rw [E3] at c4 c5 c6
    have t1 : s1.1 15 = s.1 15 := m1.1 15 (by decide) (by decide)
    have t2 : s2.1 15 = s.1 15 := (m2.1 15 (by decide) (by decide)).trans t1
    have aQ := PA_0 q1
    have aQ1 := PA_1 q4
    have aP := PA_0 q2
    have aP1 := PA_1 q5
    have aD := PA_0 q3
    have aD1 := PA_1 q6
    have aR := PA_1 r0
    have aS := PA_0 p0
    have t3 : om.2.1 15 = s.1 15 := (m3.1 15 (by decide) (by decide)).trans t2
    rw [t1] at aQ aQ1
    rw [t2] at aP aP1
    rw [t3] at aD aD1
    rw [t1] at m2
    rw [t2] at m3
    rw [n2] at c1 c4
    rw [n1] at c2 c5
    rw [n0] at c3 c6
    have fQ := fl_2 (X0 := σ.1 53) (X1 := o3.2.1 54) (Y0 := o1.2.1 53) (Y1 := o4.2.1 54) (T := s.1 28) (U := s1.1 28) (c := 12) (n := (s.1 15 8).toInt.toNat) (R := freeM s) (fun q hq => aS.2.1 q (by omega)) (fun q hq => aR.2.1 q (by omega)) (fun q hq => aQ.2.1 q (by omega)) (fun q hq => aQ1.2.1 q (by omega)) (fun q hq => c1.2 q hq) (fun q hq => c4.2 q hq) m1.2.2.2.2.1
    have fP := fl_2 (X0 := o1.2.1 50) (X1 := o4.2.1 51) (Y0 := o2.2.1 50) (Y1 := o5.2.1 51) (T := s1.1 28) (U := s2.1 28) (c := 0) (n := (s.1 15 7).toInt.toNat) (R := fun _ => True) (fun q hq => aQ.1 q (by omega)) (fun q hq => aQ1.1 q (by omega)) (fun q hq => aP.1 q (by omega)) (fun q hq => aP1.1 q (by omega)) (fun q hq => c2.2 q hq) (fun q hq => c5.2 q hq) m2.2.2.2.2.1
    have fD := fl_2 (X0 := o2.2.1 56) (X1 := o5.2.1 57) (Y0 := o3.2.1 56) (Y1 := o6.2.1 57) (T := s2.1 28) (U := om.2.1 28) (c := 32) (n := (s.1 15 6).toInt.toNat) (R := fun _ => True) (fun q hq => aP.2.2 q (by omega)) (fun q hq => aP1.2.2 q (by omega)) (fun q hq => aD.2.2 q (by omega)) (fun q hq => aD1.2.2 q (by omega)) (fun q hq => c3.2 q hq) (fun q hq => c6.2 q hq) m3.2.2.2.2.1
    have both : oc.1 = 0 ↔ om.1 = 0 := by
      rw [ef, c1.1, c2.1, c3.1, c4.1, c5.1, c6.1, m3.2.2.2.2.2.2, m2.2.2.2.2.2.2, m1.2.2.2.2.2.2, fQ, fP, fD]
      constructor
      · rintro ⟨⟨a, b, c⟩, d, e, f⟩
        exact ⟨⟨⟨rfl, a, d⟩, b, e⟩, c, f⟩
      · rintro ⟨⟨⟨-, a, d⟩, b, e⟩, c, f⟩
        exact ⟨⟨a, b, c⟩, d, e, f⟩
    rcases hf with hf | hf
    · rw [hf, both.mp hf]
    · rcases m3.2.2.2.2.2.1 with hg | hg
      · exact absurd (both.mpr hg) (by rw [hf]; exact one_ne)
      · rw [hf, hg]
  · rw [eo]
    refine ⟨fun k a b c d e f => by rw [e6 k b d f, e3 k a c e], fun k a b => ?_⟩
    rw [v6.2.1 k a b, v5.2.1 k a b, v4.2.1 k a b, v3.2.1 k a b, v2.2.1 k a b, v1.2.1 k a b]
  · refine ⟨fun k a b => by rw [m3.1 k a b, m2.1 k a b, m1.1 k a b], fun i a => by rw [m3.2.1 i a, m2.2.1 i a, m1.2.1 i a], fun k i a => by rw [m3.2.2.1 k i a, m2.2.2.1 k i a, m1.2.2.1 k i a]⟩
end P12U
