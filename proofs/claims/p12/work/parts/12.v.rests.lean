/-! THE GEOMETRY: rounds till they rest, on both sides -/
section P12V
noncomputable def RS (σ s : gS) : Prop := TRd σ s ∧ WF s ∧ PA σ s 0 ∧ PA σ s 1 ∧ ∀ q : Nat, (q : Int) < (s.1 15 8).toInt → (σ.1 16 q &&& σ.1 47 1 = 0 ↔ freeM s q)
theorem RS_fr {σ s τ t : gS} (h : RS σ s) (a : PA τ t 0) (b : PA τ t 1) (f : FrK σ τ) (g : FrO s t) : RS τ t := by
  obtain ⟨h1, h2, -, -, h5⟩ := h
  refine ⟨TR_cong h1 (fun k hk => f.1 k (by omega) (by omega) (by omega) (by omega) (by omega) (by omega)) g.1 (funext fun i => g.2.2 14 i (by omega)), WF_eq h2 g.1, a, b, fun q hq => ?_⟩
  rw [g.1 15 (by decide) (by decide)] at hq
  rw [f.1 16 (by decide) (by decide) (by decide) (by decide) (by decide) (by decide), f.1 47 (by decide) (by decide) (by decide) (by decide) (by decide) (by decide)]
  refine (h5 q hq).trans ?_
  unfold freeM
  rw [isC_eq (g.1 20 (by decide) (by decide)) (g.2.1 36 (by decide))]
theorem FrK_t {a b c : gS} (h : FrK a b) (g : FrK b c) : FrK a c := ⟨fun k h1 h2 h3 h4 h5 h6 => (g.1 k h1 h2 h3 h4 h5 h6).trans (h.1 k h1 h2 h3 h4 h5 h6), fun k h1 h2 => (g.2 k h1 h2).trans (h.2 k h1 h2)⟩
theorem FrO_t {a b c : gS} (h : FrO a b) (g : FrO b c) : FrO a c := ⟨fun k h1 h2 => (g.1 k h1 h2).trans (h.1 k h1 h2), fun k h1 => (g.2.1 k h1).trans (h.2.1 k h1), fun k i h1 => (g.2.2 k i h1).trans (h.2.2 k i h1)⟩
theorem rests_k {σx sx : gS} {m : Int32} (hm : m.toInt ≤ 500) : ∀ (d K J : Nat) (a : Int32) (σ s : gS), d = (m.toInt - a.toInt).toNat → d < K → d < J → 0 ≤ a.toInt → a.toInt ≤ m.toInt → RS σ s → Re (lpc (S := Int32 × gS) K (fun rec u => bX1_settle_57 σx m (fun a2 σ1 => rec (a2, σ1)) u.1 u.2) (a, σ)) (lpc (S := Int32 × gS) J (fun rec u => bX10_rests_2 sx m (fun a2 σ1 => rec (a2, σ1)) u.1 u.2) (a, s)) (fun oc om => oc.1 = om.1 ∧ RS oc.2 om.2 ∧ FrK σ oc.2 ∧ FrO s om.2) := by
  intro d
  induction d with
  | zero =>
    intro K J a σ s hd hK hJ h0 h1 hR
    have e : a = m := Int32.toInt_inj.mp (by omega)
    rw [lpc_pos hK, lpc_pos hJ]
    show Re (bX1_settle_57 σx m _ a σ) (bX10_rests_2 sx m _ a s) _
    unfold bX1_settle_57 bX10_rests_2
    rw [if_pos (q_le (by omega)), if_pos (q_le (by omega))]
    exact ⟨_, _, rfl, rfl, e.symm, hR, ⟨fun _ _ _ _ _ _ _ => rfl, fun _ _ _ => rfl⟩, fun _ _ _ => rfl, fun _ _ => rfl, fun _ _ _ => rfl⟩
  | succ d ih =>
    intro K J a σ s hd hK hJ h0 h1 hR
    have e1 := i_inc (a := a) (c := 500) (by omega) (by omega) (by decide)
    obtain ⟨oc, om, eC, eM, ef, hf, pa, pb, fK, fO⟩ := round_2 hR.1 hR.2.1 hR.2.2.1 hR.2.2.2.1 hR.2.2.2.2
    have hR2 := RS_fr hR pa pb fK fO
    obtain ⟨pc, pm, e2, e3, ee, hR3, fK3, fO3⟩ := ih (K - 1) (J - 1) (a + 1) oc.2 om.2 (by omega) (by omega) (by omega) (by omega) (by omega) hR2
    rw [lpc_pos (by omega), lpc_pos (by omega)]
    show Re (bX1_settle_57 σx m (fun a2 σ1 => lpc (S := Int32 × gS) (K - 1) (fun rec u => bX1_settle_57 σx m (fun a2 σ1 => rec (a2, σ1)) u.1 u.2) (a2, σ1)) a σ) (bX10_rests_2 sx m (fun a2 σ1 => lpc (S := Int32 × gS) (J - 1) (fun rec u => bX10_rests_2 sx m (fun a2 σ1 => rec (a2, σ1)) u.1 u.2) (a2, σ1)) a s) _
    have hC : bX1_settle_57 σx m (fun a2 σ1 => lpc (S := Int32 × gS) (K - 1) (fun rec u => bX1_settle_57 σx m (fun a2 σ1 => rec (a2, σ1)) u.1 u.2) (a2, σ1)) a σ = if oc.1 = 0 then some (a, oc.2) else some pc := by
      rw [show ∀ rec : Int32 → gS → Option (Int32 × gS), bX1_settle_57 σx m rec a σ = bd2 (fX1_makeRound σ) (fun r7 σ8 => if r7 = 0 then some (a, σ8) else rec (a + 1) σ8) from fun rec => if_neg (q_nle (by omega)), q_bd2 eC, e2]
    have hM : bX10_rests_2 sx m (fun a2 σ1 => lpc (S := Int32 × gS) (J - 1) (fun rec u => bX10_rests_2 sx m (fun a2 σ1 => rec (a2, σ1)) u.1 u.2) (a2, σ1)) a s = if om.1 = 0 then some (a, om.2) else some pm := by
      rw [show ∀ rec : Int32 → gS → Option (Int32 × gS), bX10_rests_2 sx m rec a s = bd2 (fX10_isRound s) (fun r7 σ8 => if r7 = 0 then some (a, σ8) else rec (a + 1) σ8) from fun rec => if_neg (q_nle (by omega)), q_bd2 eM, e3]
    rw [hC, hM, ← ef]
    by_cases z : oc.1 = 0
    · rw [if_pos z, if_pos z]
      exact ⟨_, _, rfl, rfl, rfl, hR2, fK, fO⟩
    · rw [if_neg z, if_neg z]
      exact ⟨_, _, rfl, rfl, ee, hR3, FrK_t fK fK3, FrO_t fO fO3⟩
/-- turns and what was measured, alike -/
noncomputable def TN (σ s : gS) : Prop := (∀ p : Nat, (p : Int) < (s.1 15 7).toInt → σ.1 48 p = s.1 27 p) ∧ ∀ r : Nat, (r : Int) < (s.1 15 9).toInt → MSd σ s r
theorem k_turned {σ s : gS} (h : TRd σ s) (w : WF s) (t : TN σ s) {r a : Int32} (r0 : 0 ≤ r.toInt) (r1 : r.toInt < (s.1 15 9).toInt) (a0 : 0 ≤ a.toInt) (a1 : a.toInt ≤ 1) : fX5_turned_47 σ r a = some (tO s r.toInt.toNat a) := by
  obtain ⟨b9, b8, b7, b6⟩ := w.1
  have R := h.2.2.2.2 r.toInt.toNat (by omega)
  have W := (w.2.1 r.toInt.toNat (by omega)).1
  have T := t.1 (pO s r.toInt.toNat) (by unfold pO; omega)
  have V := (w.2.2 (pO s r.toInt.toNat) (by unfold pO; omega)).2.2
  have M := t.2 r.toInt.toNat (by omega)
  unfold fX5_turned_47
  rw [q_gd (gb_of (by omega) (by omega)), nm_eq, n_toInt, R.1, q_gd (gb_of (by omega) (by omega)), nm_eq, n_toInt]
  have T1 : σ.1 48 (s.1 22 (60 + r.toInt.toNat)).toInt.toNat = s.1 27 (pO s r.toInt.toNat) := T
  rw [T1, q_bd (c_turnedBy V.1 V.2 a0 a1 r0 (by omega)), M.1, M.2.1]
  rfl
end P12V
