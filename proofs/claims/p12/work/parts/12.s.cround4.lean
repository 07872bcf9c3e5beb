/-! THE GEOMETRY: a round, on the class's side, as a whole -/
section P12S
theorem CV_wf {σ : gS} {c n : Nat} {F : Nat → Int} {o : Int32 × gS} (h : WFC σ) (hc : 47 ≤ c) (v : CV σ c n F o) : WFC o.2 := WFC_eq h (fun k hk => v.1 k (by omega))
theorem c_axis {σ0 σ : gS} {rec : Int32 → Int32 → gS → Option (Int32 × gS)} {P : Int32 × gS → Prop} (h : WFC σ) {f a : Int32} (hf : f = 0 ∨ f = 1) (a0 : 0 ≤ a.toInt) (a1 : a.toInt ≤ 1) (k : ∀ (o1 o2 o3 : Int32 × gS) (g : Int32), CV σ (53 + a.toInt.toNat) (σ.1 3 2).toInt.toNat (nQK σ a.toInt.toNat) o1 → CV o1.2 (50 + a.toInt.toNat) (σ.1 3 1).toInt.toNat (nPK o1.2 a.toInt.toNat) o2 → CV o2.2 (56 + a.toInt.toNat) (σ.1 3 0).toInt.toNat (nDK o2.2 a.toInt.toNat) o3 → (g = 0 ∨ g = 1) → (g = 0 ↔ f = 0 ∧ o1.1 = 0 ∧ o2.1 = 0 ∧ o3.1 = 0) → Ok (rec g (a + 1) o3.2) P) : Ok (bX1_makeRound_4 σ0 rec f a σ) P := by
  have l2 : (2 : Int32).toInt = 2 := by decide
  unfold bX1_makeRound_4
  rw [if_neg (q_nle (by omega))]
  refine ok_bd2.mpr ((c_points h a0 a1).mono (fun o1 v1 => ?_))
  have h1 := CV_wf h (by omega) v1
  have e1 : o1.2.1 3 = σ.1 3 := v1.1 3 (by omega)
  have j19 : ∀ f1 : Int32, (f1 = 0 ∨ f1 = 1) → (f1 = 0 ↔ f = 0 ∧ o1.1 = 0) → Ok (jX1_makeRound_19 o1.2 rec f1 a) P := fun f1 hf1 ef1 => by
    unfold jX1_makeRound_19
    refine ok_bd2.mpr ((c_pictures h1 a0 a1).mono (fun o2 v2 => ?_))
    have h2 := CV_wf h1 (by omega) v2
    have e2 : o2.2.1 3 = o1.2.1 3 := v2.1 3 (by omega)
    have j29 : ∀ f2 : Int32, (f2 = 0 ∨ f2 = 1) → (f2 = 0 ↔ f1 = 0 ∧ o2.1 = 0) → Ok (jX1_makeRound_29 o2.2 rec f2 a) P := fun f2 hf2 ef2 => by
      unfold jX1_makeRound_29
      refine ok_bd2.mpr ((c_drifts1 h2 a0 a1).mono (fun o3 v3 => ?_))
      rw [e1] at v2
      rw [e2, e1] at v3
      refine ok_ite.mpr ⟨fun z => ?_, fun z => ?_⟩
      · rw [nm_eq]
        exact k o1 o2 o3 f2 v1 v2 v3 hf2 ⟨fun y => ⟨(ef1.mp (ef2.mp y).1).1, (ef1.mp (ef2.mp y).1).2, (ef2.mp y).2, z⟩, fun y => ef2.mpr ⟨ef1.mpr ⟨y.1, y.2.1⟩, y.2.2.1⟩⟩
      · rw [nm_eq, nm_eq]
        exact k o1 o2 o3 1 v1 v2 v3 (.inr rfl) ⟨fun y => absurd y one_ne, fun y => absurd y.2.2.2 z⟩
    refine ok_ite.mpr ⟨fun z => j29 f1 hf1 ⟨fun y => ⟨y, z⟩, fun y => y.1⟩, fun z => ?_⟩
    rw [nm_eq]
    exact j29 1 (.inr rfl) ⟨fun y => absurd y one_ne, fun y => absurd y.2 z⟩
  refine ok_ite.mpr ⟨fun z => j19 f hf ⟨fun y => ⟨y, z⟩, fun y => y.1⟩, fun z => ?_⟩
  rw [nm_eq]
  exact j19 1 (.inr rfl) ⟨fun y => absurd y one_ne, fun y => absurd y.2 z⟩
/-- three steps of one axis -/
noncomputable def CA (σ : gS) (a : Int32) (o1 o2 o3 : Int32 × gS) : Prop := CV σ (53 + a.toInt.toNat) (σ.1 3 2).toInt.toNat (nQK σ a.toInt.toNat) o1 ∧ CV o1.2 (50 + a.toInt.toNat) (σ.1 3 1).toInt.toNat (nPK o1.2 a.toInt.toNat) o2 ∧ CV o2.2 (56 + a.toInt.toNat) (σ.1 3 0).toInt.toNat (nDK o2.2 a.toInt.toNat) o3
theorem c_round {σ : gS} (h : WFC σ) : Ok (fX1_makeRound σ) (fun o => ∃ o1 o2 o3 o4 o5 o6 : Int32 × gS, CA σ 0 o1 o2 o3 ∧ CA o3.2 1 o4 o5 o6 ∧ o.2 = o6.2 ∧ (o.1 = 0 ∨ o.1 = 1) ∧ (o.1 = 0 ↔ (o1.1 = 0 ∧ o2.1 = 0 ∧ o3.1 = 0) ∧ o4.1 = 0 ∧ o5.1 = 0 ∧ o6.1 = 0)) := by
  unfold fX1_makeRound
  rw [nm_eq, nm_eq, lpc_pos (by unfold K9; omega)]
  refine c_axis (σ0 := σ) (f := 0) (a := 0) h (.inl rfl) (by decide) (by decide) (fun o1 o2 o3 g v1 v2 v3 hg eg => ?_)
  have h3 := CV_wf (CV_wf (CV_wf h (by decide) v1) (by decide) v2) (by decide) v3
  rw [lpc_pos (by unfold K9; omega)]
  refine c_axis (σ0 := σ) (f := g) (a := 1) h3 hg (by decide) (by decide) (fun o4 o5 o6 g2 v4 v5 v6 hg2 eg2 => ?_)
  rw [lpc_pos (by unfold K9; omega)]
  show Ok (bX1_makeRound_4 σ _ g2 (0 + 1 + 1) o6.2) _
  unfold bX1_makeRound_4
  rw [if_pos (show (2 : Int32) ≤ 0 + 1 + 1 by decide), vpb hg2]
  refine ok_some.mpr ⟨o1, o2, o3, o4, o5, o6, ⟨v1, v2, v3⟩, ⟨v4, v5, v6⟩, rfl, hg2, ?_⟩
  rw [eg2, eg]
  exact ⟨fun z => ⟨z.1.2, z.2⟩, fun z => ⟨⟨rfl, z.1⟩, z.2⟩⟩
end P12S
