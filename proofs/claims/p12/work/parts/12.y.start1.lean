/-! THE GEOMETRY: a start, 1: scans; what is linked; what a picture has of its own -/
section P12Y
theorem re_lpc {S T β γ : Type} {B : (S → Option β) → S → Option β} {C : (T → Option γ) → T → Option γ} {R : β → γ → Prop} {I : Nat → S → T → Prop} (step : ∀ (f : S → Option β) (g : T → Option γ) (n : Nat) (s : S) (t : T), I n s t → (∀ (m : Nat) (s' : S) (t' : T), m < n → I m s' t' → Re (f s') (g t') R) → Re (B f s) (C g t) R) : ∀ (K J N : Nat) (s : S) (t : T), I N s t → N < K → N < J → Re (lpc K B s) (lpc J C t) R
  | 0, _, _, _, _, _, h, _ => absurd h (Nat.not_lt_zero _)
  | _ + 1, 0, _, _, _, _, _, h => absurd h (Nat.not_lt_zero _)
  | K + 1, J + 1, N, s, t, hI, h, h2 => step (lpc K B) (lpc J C) N s t hI (fun m s' t' hm hs => re_lpc step K J m s' t' hs (by omega) (by omega))
theorem k_fill {σ : gS} {c : Nat} {v : Int32} {n : Nat} (gi : gis zC.1 0 0 c = true) (gz : gsz zC.1 0 0 c = n) (hn : n ≤ 2000) : Ok (fJ7_fill_53178 σ c v) (fun τ => (∀ k, k ≠ c → τ.1 k = σ.1 k) ∧ τ.2 = σ.2 ∧ ∀ i : Nat, i < n → τ.1 c i = v) := by
  have z0' := z0
  have ln : (Int32.ofNat n).toInt = n := iofNat_toInt (by omega)
  unfold fJ7_fill_53178
  rw [nm_eq, q_gd gi, nm_eq, gz]
  refine ok_lpc (I := fun (m : Nat) (s : Int32 × gS) => m = (n - s.1.toInt).toNat ∧ 0 ≤ s.1.toInt ∧ s.1.toInt ≤ n ∧ (∀ k, k ≠ c → s.2.1 k = σ.1 k) ∧ s.2.2 = σ.2 ∧ ∀ i : Nat, (i : Int) < s.1.toInt → s.2.1 c i = v) (fun rec m s hs hrec => ?_) K9 n (0, σ) ⟨by dsimp only; omega, by dsimp only; omega, by dsimp only; omega, fun _ _ => rfl, rfl, fun i hi => absurd hi (by dsimp only; omega)⟩ (by unfold K9; omega)
  obtain ⟨a, s⟩ := s
  obtain ⟨hm, a0, a1, h1, h2, h3⟩ := hs
  dsimp only at hm a0 a1 h1 h2 h3 ⊢
  unfold bJ7_fill_53178_5
  refine ok_ite.mpr ⟨fun hk => ok_some.mpr ⟨h1, h2, fun i hi => h3 i (by have := Int32.le_iff_toInt_le.mp hk; omega)⟩, fun hk => ?_⟩
  have hlt := q_gt hk
  have e1 := i_inc (a := a) (c := 2000) (by omega) (by omega) (by decide)
  rw [gz, q_gd (gb_of (by omega) (by omega)), nm_eq, nm_eq]
  refine hrec (n - (a + 1).toInt).toNat (a + 1, _) (by omega) ⟨rfl, by dsimp only; omega, by dsimp only; omega, fun k hk => (gsI_row hk).trans (h1 k hk), h2, fun i hi => ?_⟩
  show (gsI s c a.toNatClampNeg v).1 c i = v
  dsimp only at hi
  rw [gsI_at, n_toInt]
  by_cases z : i = a.toInt.toNat
  · rw [if_pos z]
  · rw [if_neg z]
    exact h3 i (by omega)
/-- scans of the reference -/
noncomputable def roB (s : gS) (p q : Int32) (r : Nat) : Bool := decide (s.1 26 r = 0 ∧ s.1 22 (60 + r) = p ∧ s.1 23 (60 + r) = q)
noncomputable def RW9 (s : gS) (p q : Int32) : Int32 := fI (roB s p q) (s.1 15 9).toInt.toNat 0
theorem m9_rowOf {s : gS} (w : WF s) (p q : Int32) : fX10_rowOf s p q = some (RW9 s p q) := by
  have b := w.1.1
  have z0' := z0
  unfold fX10_rowOf RW9
  rw [nm_eq]
  refine fI_lpc (n := s.1 15 9) (c := roB s p q) (fun rec a h2 h3 => ?_) (fun rec a h2 h3 => ?_) _ K9 0 (by omega) (by decide) (by unfold K9; omega)
  · show bX10_rowOf_2 s p q rec a = _
    unfold bX10_rowOf_2
    rw [q_bd (m_rows s)]
    exact if_pos (q_le h3)
  · obtain ⟨w1, w2, w3, r59⟩ := wf_row w h2 h3
    show bX10_rowOf_2 s p q rec a = _
    unfold bX10_rowOf_2
    rw [q_bd (m_rows s), if_neg (q_nle h3), q_gd (gb_of (by omega) (by omega)), nm_eq, n_toInt]
    by_cases u : s.1 26 a.toInt.toNat = 0
    · rw [if_pos u, q_bd w1]
      by_cases e : s.1 22 (60 + a.toInt.toNat) = p
      · rw [if_pos e, q_bd w2]
        by_cases f : s.1 23 (60 + a.toInt.toNat) = q
        · rw [if_pos f]; exact (if_pos (decide_eq_true ⟨u, e, f⟩)).symm
        · rw [if_neg f, nm_eq]; exact (if_neg (fun z => f (of_decide_eq_true z).2.2)).symm
      · rw [if_neg e, nm_eq]; exact (if_neg (fun z => e (of_decide_eq_true z).2.1)).symm
    · rw [if_neg u, nm_eq]; exact (if_neg (fun z => u (of_decide_eq_true z).1)).symm
noncomputable def srB (s : gS) (q : Int32) (r : Nat) : Bool := decide (s.1 26 r = 0 ∧ s.1 23 (60 + r) = q ∧ ¬ s.1 29 (pO s r) = 0)
noncomputable def SR9 (s : gS) (q : Int32) : Int32 := fI (srB s q) (s.1 15 9).toInt.toNat 0
theorem m9_startedRow {s : gS} (w : WF s) (q : Int32) : fX10_startedRow s q = some (SR9 s q) := by
  have b := w.1
  have z0' := z0
  unfold fX10_startedRow SR9
  rw [nm_eq]
  refine fI_lpc (n := s.1 15 9) (c := srB s q) (fun rec a h2 h3 => ?_) (fun rec a h2 h3 => ?_) _ K9 0 (by omega) (by decide) (by unfold K9; omega)
  · show bX10_startedRow_2 s q rec a = _
    unfold bX10_startedRow_2
    rw [q_bd (m_rows s)]
    exact if_pos (q_le h3)
  · obtain ⟨w1, w2, w3, r59⟩ := wf_row w h2 h3
    have W := (w.2.1 a.toInt.toNat (by omega)).1
    show bX10_startedRow_2 s q rec a = _
    unfold bX10_startedRow_2
    rw [q_bd (m_rows s), if_neg (q_nle h3), q_gd (gb_of (by omega) (by omega)), nm_eq, n_toInt]
    by_cases u : s.1 26 a.toInt.toNat = 0
    · rw [if_pos u, q_bd w2]
      by_cases e : s.1 23 (60 + a.toInt.toNat) = q
      · rw [if_pos e, q_bd w1, q_gd (gb_of (by omega) (by omega)), nm_eq, n_toInt]
        by_cases f : s.1 29 (pO s a.toInt.toNat) = 0
        · refine (if_pos f).trans ?_
          rw [nm_eq]
          exact (if_neg (fun z => (of_decide_eq_true z).2.2 f)).symm
        · refine (if_neg f).trans ?_
          exact (if_pos (decide_eq_true ⟨u, e, f⟩)).symm
      · rw [if_neg e, nm_eq]; exact (if_neg (fun z => e (of_decide_eq_true z).2.1)).symm
    · rw [if_neg u, nm_eq]; exact (if_neg (fun z => u (of_decide_eq_true z).1)).symm
/-- both sides in the midst of a start -/
noncomputable def SP9 (σ s : gS) : Prop := TRd σ s ∧ WF s ∧ TN σ s ∧ (∀ a p : Nat, a < 2 → (p : Int) < (s.1 15 7).toInt → σ.1 (50 + a) p = s.1 28 (38 * a + p)) ∧ (∀ r : Nat, (r : Int) < (s.1 15 9).toInt → σ.1 58 r = s.1 26 r) ∧ ∀ p : Nat, (p : Int) < (s.1 15 7).toInt → σ.1 84 p = s.1 29 p ∧ (s.1 29 p = 0 ∨ s.1 29 p = 1)
theorem SP_c {σ τ s : gS} (h : SP9 σ s) (e : ∀ k, k < 47 ∨ k = 48 ∨ k = 50 ∨ k = 51 ∨ k = 58 ∨ k = 84 → τ.1 k = σ.1 k) : SP9 τ s := by
  obtain ⟨h1, h2, h3, h4, h5, h6⟩ := h
  refine ⟨TR_cong h1 (fun k hk => e k (.inl hk)) (fun _ _ _ => rfl) rfl, h2, ?_, fun a p ha hp => ?_, fun r hr => ?_, fun p hp => ?_⟩
  · unfold TN MSd
    rw [e 48 (by decide), e 13 (by decide), e 14 (by decide)]
    exact h3
  · rw [e (50 + a) (by omega)]
    exact h4 a p ha hp
  · rw [e 58 (by decide)]
    exact h5 r hr
  · rw [e 84 (by decide)]
    exact h6 p hp
theorem k_put {σ s : gS} (h : SP9 σ s) {r a : Int32} (r0 : 0 ≤ r.toInt) (r1 : r.toInt < (s.1 15 9).toInt) (a0 : 0 ≤ a.toInt) (a1 : a.toInt ≤ 1) : fX5_putAt_47 σ r a = some (puO s r.toInt.toNat a) := by
  obtain ⟨h1, w, t, g, -, -⟩ := h
  obtain ⟨b9, b8, b7, b6⟩ := w.1
  have R := h1.2.2.2.2 r.toInt.toNat (by omega)
  have W := (w.2.1 r.toInt.toNat (by omega)).1
  have T := t.1 (pO s r.toInt.toNat) (by unfold pO; omega)
  have V := (w.2.2 (pO s r.toInt.toNat) (by unfold pO; omega)).2.2
  have M := t.2 r.toInt.toNat (by omega)
  have P := g a.toInt.toNat (pO s r.toInt.toNat) (by omega) (by unfold pO; omega)
  unfold fX5_putAt_47
  rw [q_gd (gb_of (by omega) (by omega)), nm_eq, nm_eq, n_toInt, R.1, q_gd (gb_of (by omega) (by omega)), q_gd (gb_of (by omega) (by omega)), nm_eq, q_gd (gb_of (by omega) (by omega)), nm_eq, n_toInt, n_toInt]
  have T1 : σ.1 48 (s.1 22 (60 + r.toInt.toNat)).toInt.toNat = s.1 27 (pO s r.toInt.toNat) := T
  have P1 : σ.1 (50 + a.toInt.toNat) (s.1 22 (60 + r.toInt.toNat)).toInt.toNat = s.1 28 (38 * a.toInt.toNat + pO s r.toInt.toNat) := P
  rw [T1, P1, q_bd (c_turnedBy V.1 V.2 a0 a1 r0 (by omega)), M.1, M.2.1]
  rfl
/-- points that are linked, by rows from k on -/
noncomputable def LKv (s τ : gS) (d k : Nat) : Prop := ∀ q : Nat, (q : Int) < (s.1 15 8).toInt → (fI (srB s (Int32.ofNat q)) d k = -1 ∧ τ.1 85 q = 0) ∨ ∃ j : Nat, (j : Int) < (s.1 15 9).toInt ∧ fI (srB s (Int32.ofNat q)) d k = Int32.ofNat j ∧ τ.1 85 q = 1 ∧ τ.1 88 q = puO s j 0 ∧ τ.1 89 q = puO s j 1
noncomputable def LK (σ s τ : gS) (d k : Nat) : Prop := (∀ j, j ≠ 85 → j ≠ 88 → j ≠ 89 → τ.1 j = σ.1 j) ∧ τ.2 = σ.2 ∧ LKv s τ d k
theorem fI_t {c : Nat → Bool} {d k : Nat} (h : c k = true) : fI c (d + 1) k = Int32.ofNat k := by
  show (if c k = true then Int32.ofNat k else fI c d (k + 1)) = _
  rw [if_pos h]
theorem fI_f {c : Nat → Bool} {d k : Nat} (h : ¬ c k = true) : fI c (d + 1) k = fI c d (k + 1) := by
  show (if c k = true then Int32.ofNat k else fI c d (k + 1)) = _
  rw [if_neg h]
theorem LK_skip {σ s τ : gS} {d k : Nat} (h : LK σ s τ d (k + 1)) (c : ∀ q : Nat, (q : Int) < (s.1 15 8).toInt → ¬ srB s (Int32.ofNat q) k = true) : LK σ s τ (d + 1) k := by
  refine ⟨h.1, h.2.1, fun q hq => ?_⟩
  rw [fI_f (c q hq)]
  exact h.2.2 q hq
theorem k_gatherStarted {σ s : gS} (h : SP9 σ s) : Ok (fX6_gatherStarted σ) (fun τ => LK σ s τ (s.1 15 9).toInt.toNat 0) := by
  obtain ⟨b9, b8, b7, b6⟩ := h.2.1.1
  have z0' := z0
  have l1 : (1 : Int32).toInt = 1 := by decide
  have lm1 : (-1 : Int32).toInt = -1 := by decide
  unfold fX6_gatherStarted
  refine ok_bd.mpr ((k_fill (σ := σ) (c := 85) (v := 0) (n := 20) (by decide) (by decide) (by decide)).mono (fun ρ hρ => ?_))
  obtain ⟨f1, f2, f3⟩ := hρ
  refine ok_gd.mpr ⟨by decide, ok_nm.mpr (ok_nm.mpr ?_)⟩
  have e3 : ρ.1 3 ((3 : Int32).toNatClampNeg) = s.1 15 9 := by
    rw [f1 3 (by decide)]
    exact (tr_n h.1).1
  rw [e3]
  obtain ⟨v, hv⟩ : ∃ v, v = s.1 15 9 - 1 := ⟨_, rfl⟩
  have e1 : v.toInt = (s.1 15 9).toInt - 1 := by rw [hv, isub_toInt] <;> omega
  rw [← hv]
  clear hv
  refine ok_lpc (I := fun (n : Nat) (t : Int32 × gS) => n = (t.1.toInt + 1).toNat ∧ -1 ≤ t.1.toInt ∧ t.1.toInt < (s.1 15 9).toInt ∧ LK σ s t.2 ((s.1 15 9).toInt.toNat - n) n) (fun rec n t hs hrec => ?_) K9 (s.1 15 9).toInt.toNat (v, ρ) ⟨by dsimp only; omega, by dsimp only; omega, by dsimp only; omega, fun j j1 _ _ => f1 j j1, f2, fun q hq => .inl ⟨by rw [Nat.sub_self]; rfl, f3 q (by omega)⟩⟩ (by unfold K9; omega)
  obtain ⟨a, τ⟩ := t
  obtain ⟨hn, a0, a1, hL⟩ := hs
  dsimp only at hn a0 a1 hL ⊢
  unfold bX6_gatherStarted_20
  refine ok_ite.mpr ⟨fun hk => ok_some.mpr ?_, fun hk => ?_⟩
  · have hk' := Int32.lt_iff_toInt_lt.mp hk
    have : n = 0 := by omega
    rw [this] at hL
    exact hL
  have hk' : 0 ≤ a.toInt := by
    rcases lt_or a 0 with ⟨y, -⟩ | ⟨-, y⟩
    · exact absurd y hk
    · omega
  have hτ : SP9 τ s := SP_c h (fun k hk => hL.1 k (by omega) (by omega) (by omega))
  obtain ⟨b, hb⟩ : ∃ b, b = a + (-1) := ⟨_, rfl⟩
  have e2 : b.toInt = a.toInt - 1 := by rw [hb, iadd_toInt] <;> omega
  clear e1
  have en : n = a.toInt.toNat + 1 := by omega
  have W := h.2.1.2.1 a.toInt.toNat (by omega)
  have R := hτ.1.2.2.2.2 a.toInt.toNat (by omega)
  rw [en] at hL
  have sk : (∀ q : Nat, (q : Int) < (s.1 15 8).toInt → ¬ srB s (Int32.ofNat q) a.toInt.toNat = true) → Ok (rec (b, τ)) (fun τ => LK σ s τ (s.1 15 9).toInt.toNat 0) := fun hc => by
    clear hb
    refine hrec a.toInt.toNat _ (by omega) ⟨by dsimp only; omega, by dsimp only; omega, by dsimp only; omega, ?_⟩
    have := LK_skip hL hc
    rw [show (s.1 15 9).toInt.toNat - (a.toInt.toNat + 1) + 1 = (s.1 15 9).toInt.toNat - a.toInt.toNat by omega] at this
    exact this
  rw [q_bd (c_usesK τ hk' (by omega)), hτ.2.2.2.2.1 a.toInt.toNat (by omega)]
  by_cases u : s.1 26 a.toInt.toNat = 0
  · rw [if_pos u, if_neg one_ne, q_gd (gb_of (by omega) (by omega)), nm_eq, n_toInt, R.1, q_gd (gb_of (by omega) (by omega)), nm_eq]
    have e84 : τ.1 84 (s.1 22 (60 + a.toInt.toNat)).toNatClampNeg = s.1 29 (pO s a.toInt.toNat) := (hτ.2.2.2.2.2 (pO s a.toInt.toNat) (by unfold pO; omega)).1
    rw [e84]
    by_cases f : s.1 29 (pO s a.toInt.toNat) = 0
    · rw [if_pos f, nm_eq, ← hb]
      exact sk (fun q _ z => (of_decide_eq_true z).2.2 f)
    · obtain ⟨Q, hQ⟩ : ∃ Q, Q = qO s a.toInt.toNat := ⟨_, rfl⟩
      have hQ2 : (s.1 23 (60 + a.toInt.toNat)).toInt.toNat = Q := by rw [hQ]; rfl
      have hQ3 : Q < 20 := by rw [hQ]; unfold qO; omega
      rw [if_neg f, q_gd (gb_of (by omega) (by omega)), nm_eq, nm_eq, n_toInt, R.2.1, q_gd (gb_of (by omega) (by omega)), nm_eq, hQ2, q_gd (by decide)]
      have p0 := k_put (SP_c (τ := gsI τ 85 Q 1) hτ (fun k hk => gsI_row (by omega))) (r := a) (a := 0) hk' a1 (by decide) (by decide)
      rw [q_bd p0, q_gd (gb_of (by omega) (by omega)), nm_eq, q_gd (by decide)]
      have p1 := k_put (SP_c (τ := gsI (gsI τ 85 Q 1) 88 Q (puO s a.toInt.toNat 0)) hτ (fun k hk => by rw [gsI_row (by omega), gsI_row (by omega)])) (r := a) (a := 1) hk' a1 (by decide) (by decide)
      rw [q_bd p1, q_gd (gb_of (by omega) (by omega)), nm_eq, nm_eq, ← hb]
      clear hb
      refine hrec a.toInt.toNat (b, _) (by omega) ⟨by dsimp only; omega, by dsimp only; omega, by dsimp only; omega, fun j j1 j2 j3 => ?_, hL.2.1, fun q hq => ?_⟩
      · show (gsI (gsI (gsI τ 85 Q 1) 88 Q _) 89 Q _).1 j = _
        rw [gsI_row j3, gsI_row j2, gsI_row j1]
        exact hL.1 j j1 j2 j3
      · show (_ ∧ (gsI (gsI (gsI τ 85 Q 1) 88 Q _) 89 Q _).1 85 q = 0) ∨ ∃ j : Nat, _ ∧ _ ∧ (gsI (gsI (gsI τ 85 Q 1) 88 Q _) 89 Q _).1 85 q = 1 ∧ (gsI (gsI (gsI τ 85 Q 1) 88 Q _) 89 Q _).1 88 q = _ ∧ (gsI (gsI (gsI τ 85 Q 1) 88 Q _) 89 Q _).1 89 q = _
        rw [gsI_row (show 85 ≠ 89 by decide), gsI_row (show 85 ≠ 88 by decide), gsI_at, gsI_row (show 88 ≠ 89 by decide), gsI_at, gsI_row (show 88 ≠ 85 by decide), gsI_at, gsI_row (show 89 ≠ 88 by decide), gsI_row (show 89 ≠ 85 by decide)]
        rw [show (s.1 15 9).toInt.toNat - a.toInt.toNat = (s.1 15 9).toInt.toNat - (a.toInt.toNat + 1) + 1 by omega]
        by_cases z : q = Q
        · have hc : srB s (Int32.ofNat q) a.toInt.toNat = true := decide_eq_true ⟨u, by rw [z, hQ]; exact (i32_of W.2.1.1).symm, f⟩
          rw [fI_t hc, if_pos z, if_pos z, if_pos z]
          exact .inr ⟨a.toInt.toNat, by omega, rfl, rfl, rfl, rfl⟩
        · have hc : ¬ srB s (Int32.ofNat q) a.toInt.toNat = true := fun y => by
            have y2 := (of_decide_eq_true y).2.1
            refine z ?_
            rw [hQ]
            unfold qO
            rw [y2, iofNat_toInt (by omega)]
            omega
          rw [fI_f hc, if_neg z, if_neg z, if_neg z]
          exact hL.2.2 q hq
  · rw [if_neg u, if_pos rfl, nm_eq, ← hb]
    exact sk (fun q _ z => u (of_decide_eq_true z).1)
end P12Y
