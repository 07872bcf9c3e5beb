/-! WHAT HANGS TOGETHER, 2: all is joined, on both sides -/
section P12ZE
theorem LB_rP {u : Nat → Bool} {p q : Nat → Nat} (hp : ∀ r, u r = true → p r < 12) : ∀ n, LB (rP u p q n)
  | 0 => fun k hk => by
    show 0 ≤ (Int32.ofNat k).toInt ∧ (Int32.ofNat k).toInt ≤ 31
    rw [iofNat_toInt (by omega)]
    omega
  | n + 1 => fun k hk => by
    show 0 ≤ (if u n = true then mg (rP u p q n) (p n) (12 + q n) k else rP u p q n k).toInt ∧ _
    by_cases z : u n = true
    · rw [show rP u p q (n + 1) k = mg (rP u p q n) (p n) (12 + q n) k from if_pos z, if_pos z]
      have hm := hp n z
      unfold mg
      by_cases y : rP u p q n k = rP u p q n (12 + q n)
      · rw [if_pos y]; exact LB_rP hp n (p n) (by omega)
      · rw [if_neg y]; exact LB_rP hp n k hk
    · rw [show rP u p q (n + 1) k = rP u p q n k from if_neg z, if_neg z]
      exact LB_rP hp n k hk
theorem LB_cC {cen : Nat → Bool} {fc : Nat → Nat} {P : Nat → Int32} (h : LB P) (hf : ∀ p, p < 12 → cen p = true → fc p < 32) : ∀ n, n ≤ 12 → LB (cC cen fc P n)
  | 0, _ => h
  | n + 1, hn => by
    by_cases z : cen n = true
    · have e : cC cen fc P (n + 1) = mg (cC cen fc P n) (fc n) n := funext fun k => if_pos z
      rw [e]
      exact LB_mg (LB_cC h hf n (by omega)) (hf n (by omega) z)
    · have e : cC cen fc P (n + 1) = cC cen fc P n := funext fun k => if_neg z
      rw [e]
      exact LB_cC h hf n (by omega)
/-- rows in use but one; centres, the strip of a picture, the first centre of a strip -/
noncomputable def uB (s : gS) (w : Int32) (r : Nat) : Bool := decide (s.1 26 r = 0 ∧ ¬ Int32.ofNat r = w)
noncomputable def cnB (s : gS) (p : Nat) : Bool := decide (0 < (s.1 18 (12 + p)).toInt)
noncomputable def stF (s : gS) (p : Nat) : Int32 := s.1 16 (12 + p)
noncomputable def fcI (s : gS) (t : Int32) : Int32 := fI (fun p => decide (stF s p = t ∧ cnB s p = true)) (s.1 15 7).toInt.toNat 0
noncomputable def fcN (s : gS) (p : Nat) : Nat := (fcI s (stF s p)).toInt.toNat
theorem fc_spec {s : gS} (w : WF s) {p : Nat} (hp : (p : Int) < (s.1 15 7).toInt) (hc : cnB s p = true) : fcI s (stF s p) = Int32.ofNat (fcN s p) ∧ fcN s p ≤ p ∧ cnB s (fcN s p) = true ∧ stF s (fcN s p) = stF s p ∧ ∀ o, o < fcN s p → cnB s o = true → ¬ stF s o = stF s p := by
  have b7 := w.1.2.2.1
  unfold fcN fcI
  rcases fI_spec (fun j => decide (stF s j = stF s p ∧ cnB s j = true)) (s.1 15 7).toInt.toNat 0 (by omega) with ⟨-, h2⟩ | ⟨j, -, j1, j2, j3, j4⟩
  · exact absurd (decide_eq_true (p := stF s p = stF s p ∧ cnB s p = true) ⟨rfl, hc⟩) (by rw [h2 p (by omega) (by omega)]; decide)
  · have d := of_decide_eq_true j2
    have ej : (fI (fun j => decide (stF s j = stF s p ∧ cnB s j = true)) (s.1 15 7).toInt.toNat 0).toInt.toNat = j := by omega
    rw [ej]
    refine ⟨Int32.toInt_inj.mp (by rw [j3, iofNat_toInt (by omega)]), ?_, d.2, d.1, fun o ho co e => ?_⟩
    · by_cases z : j ≤ p
      · exact z
      · exact absurd (j4 p (by omega) (by omega)) (by rw [decide_eq_true (p := stF s p = stF s p ∧ cnB s p = true) ⟨rfl, hc⟩]; decide)
    · exact absurd (j4 o (by omega) ho) (by rw [decide_eq_true (p := stF s o = stF s p ∧ cnB s o = true) ⟨e, co⟩]; decide)
theorem k_firstCentre {σ s : gS} (h : TRd σ s) (w : WF s) (t : Int32) : fX2_firstCentre σ t = some (fcI s t) := by
  obtain ⟨b9, b8, b7, b6⟩ := w.1
  have z0' := z0
  have e7 : σ.1 3 ((1 : Int32).toNatClampNeg) = s.1 15 7 := (tr_n h).2.2.1
  unfold fX2_firstCentre fcI
  rw [nm_eq]
  refine fI_lpc (n := s.1 15 7) (c := fun p => decide (stF s p = t ∧ cnB s p = true)) (fun rec a h2 h3 => ?_) (fun rec a h2 h3 => ?_) _ K9 0 (by omega) (by decide) (by unfold K9; omega)
  · show bX2_firstCentre_2 σ t rec a = _
    unfold bX2_firstCentre_2
    rw [q_gd (by decide), nm_eq, e7]
    exact if_pos (q_le h3)
  · have P := h.2.2.1 a.toInt.toNat (by omega)
    have ga := gb_of (i := a) (n := 12) h2 (by omega)
    have e8 : σ.1 8 a.toInt.toNat = stF s a.toInt.toNat := P.1
    have e20 : σ.1 20 a.toInt.toNat = s.1 18 (12 + a.toInt.toNat) := P.2.2.1
    show bX2_firstCentre_2 σ t rec a = _
    unfold bX2_firstCentre_2
    rw [q_gd (by decide), nm_eq, e7, if_neg (q_nle h3), q_gd ga, nm_eq, n_toInt, e8]
    by_cases u : stF s a.toInt.toNat = t
    · rw [if_pos u, q_gd ga, nm_eq, e20]
      by_cases v : s.1 18 (12 + a.toInt.toNat) ≤ 0
      · have v' := Int32.le_iff_toInt_le.mp v
        rw [if_pos v, nm_eq]
        exact (if_neg (fun z => by have := of_decide_eq_true (of_decide_eq_true z).2; omega)).symm
      · have v' := q_gt v
        rw [if_neg v]
        exact (if_pos (decide_eq_true ⟨u, decide_eq_true (by omega)⟩)).symm
    · rw [if_neg u, nm_eq]
      exact (if_neg (fun z => u (of_decide_eq_true z).1)).symm
/-- the class's labels behind rows -/
noncomputable def rl (s : gS) (w : Int32) (n : Nat) : Nat → Int32 := rP (uB s w) (pO s) (qO s) n
noncomputable def lC (s : gS) (w : Int32) (n : Nat) : Nat → Int32 := cC (cnB s) (fcN s) (rl s w (s.1 15 9).toInt.toNat) n
noncomputable def lM (s : gS) (w : Int32) (n : Nat) : Nat → Int32 := cM (cnB s) (stF s) (rl s w (s.1 15 9).toInt.toNat) n
/-- the class: labels, and what is held by control -/
noncomputable def NC (σ s : gS) (w : Int32) (τ : gS) : Prop := (∀ j, j ≠ 138 → j ≠ 139 → τ.1 j = σ.1 j) ∧ τ.2 = σ.2 ∧ (∀ k, k < 32 → τ.1 138 k = lC s w (s.1 15 7).toInt.toNat k) ∧ ∀ l : Int32, 0 ≤ l.toInt → l.toInt ≤ 31 → (τ.1 139 l.toInt.toNat = 0 ↔ ∀ q : Nat, (q : Int) < (s.1 15 8).toInt → fixK σ q → ¬ lC s w (s.1 15 7).toInt.toNat (12 + q) = l)
theorem rl_s {s : gS} {w : Int32} {n : Nat} (k : Nat) : rl s w (n + 1) k = if uB s w n = true then mg (rl s w n) (pO s n) (12 + qO s n) k else rl s w n k := rfl
theorem lC_s {s : gS} {w : Int32} {n : Nat} (k : Nat) : lC s w (n + 1) k = if cnB s n = true then mg (lC s w n) (fcN s n) n k else lC s w n k := rfl
theorem lC_lb {s : gS} (wf : WF s) (w : Int32) {n : Nat} (hn : (n : Int) ≤ (s.1 15 7).toInt) : LB (lC s w n) := by
  obtain ⟨b9, b8, b7, b6⟩ := wf.1
  unfold lC rl
  have key : ∀ m, m ≤ (s.1 15 9).toInt.toNat → LB (rP (uB s w) (pO s) (qO s) m) := by
    intro m
    induction m with
    | zero => exact fun _ => LB_rP (u := fun _ => false) (p := pO s) (q := qO s) (fun _ h => absurd h (by decide)) 0
    | succ m ih =>
      intro hm
      by_cases z : uB s w m = true
      · have e : rP (uB s w) (pO s) (qO s) (m + 1) = mg (rP (uB s w) (pO s) (qO s) m) (pO s m) (12 + qO s m) := funext fun k => if_pos z
        have W := (wf.2.1 m (by omega)).1
        have W2 := (wf.2.1 m (by omega)).2.1
        rw [e]
        exact LB_mg (ih (by omega)) (by unfold pO; omega)
      · have e : rP (uB s w) (pO s) (qO s) (m + 1) = rP (uB s w) (pO s) (qO s) m := funext fun k => if_neg z
        rw [e]
        exact ih (by omega)
  have key2 : ∀ m, m ≤ n → LB (cC (cnB s) (fcN s) (rP (uB s w) (pO s) (qO s) (s.1 15 9).toInt.toNat) m) := by
    intro m
    induction m with
    | zero => exact fun _ => key _ (Nat.le_refl _)
    | succ m ih =>
      intro hm
      by_cases z : cnB s m = true
      · have e : cC (cnB s) (fcN s) (rP (uB s w) (pO s) (qO s) (s.1 15 9).toInt.toNat) (m + 1) = mg (cC (cnB s) (fcN s) (rP (uB s w) (pO s) (qO s) (s.1 15 9).toInt.toNat) m) (fcN s m) m := funext fun k => if_pos z
        have F := fc_spec wf (p := m) (by omega) z
        rw [e]
        exact LB_mg (ih (by omega)) (by omega)
      · have e : cC (cnB s) (fcN s) (rP (uB s w) (pO s) (qO s) (s.1 15 9).toInt.toNat) (m + 1) = cC (cnB s) (fcN s) (rP (uB s w) (pO s) (qO s) (s.1 15 9).toInt.toNat) m := funext fun k => if_neg z
        rw [e]
        exact ih (by omega)
  exact key2 n (Nat.le_refl _)
set_option maxHeartbeats 1000000 in
theorem k_joinAll {σ s : gS} (h : TRd σ s) (wf : WF s) (dr : ∀ r : Nat, (r : Int) < (s.1 15 9).toInt → σ.1 58 r = s.1 26 r) (w : Int32) : Ok (fX2_joinAll σ w) (NC σ s w) := by
  obtain ⟨b9, b8, b7, b6⟩ := wf.1
  have z0' := z0
  have l12 : (12 : Int32).toInt = 12 := by decide
  have l32 : (32 : Int32).toInt = 32 := by decide
  unfold fX2_joinAll
  refine ok_nm.mpr ?_
  refine ok_lpc (I := fun (m : Nat) (t : Int32 × gS) => m = (32 - t.1.toInt).toNat ∧ 0 ≤ t.1.toInt ∧ t.1.toInt ≤ 32 ∧ (∀ j, j ≠ 138 → t.2.1 j = σ.1 j) ∧ t.2.2 = σ.2 ∧ ∀ k : Nat, (k : Int) < t.1.toInt → t.2.1 138 k = Int32.ofNat k) (fun rec m t hs hrec => ?_) K9 32 (0, σ) ⟨by dsimp only; omega, by dsimp only; omega, by dsimp only; omega, fun _ _ => rfl, rfl, fun k hk => absurd hk (by dsimp only; omega)⟩ (by unfold K9; omega)
  obtain ⟨i, τ⟩ := t
  obtain ⟨hm, i0, i1, h1, h2, h3⟩ := hs
  dsimp only at hm i0 i1 h1 h2 h3 ⊢
  unfold bX2_joinAll_2
  refine ok_ite.mpr ⟨fun hk => ?_, fun hk => ?_⟩
  rotate_left
  · have hlt := q_gt hk
    have ei := i_inc (a := i) (c := 60) (by omega) (by omega) (by decide)
    rw [q_gd (gb_of (by omega) (by omega)), nm_eq, nm_eq]
    refine hrec (32 - (i + 1).toInt).toNat _ (by omega) ⟨rfl, by dsimp only; omega, by dsimp only; omega, fun j hj => (gsI_row hj).trans (h1 j hj), h2, fun k hk => ?_⟩
    dsimp only at hk ⊢
    rw [gsI_at, n_toInt]
    by_cases y : k = i.toInt.toNat
    · rw [if_pos y, y]
      exact (i32_of i0).symm
    · rw [if_neg y]
      exact h3 k (by omega)
  have hk' := Int32.le_iff_toInt_le.mp hk
  clear hrec
  -- rows
  refine ok_nm.mpr ?_
  refine ok_lpc (I := fun (m : Nat) (t : Int32 × gS) => m = ((s.1 15 9).toInt - t.1.toInt).toNat ∧ 0 ≤ t.1.toInt ∧ t.1.toInt ≤ (s.1 15 9).toInt ∧ (∀ j, j ≠ 138 → t.2.1 j = σ.1 j) ∧ t.2.2 = σ.2 ∧ ∀ k : Nat, k < 32 → t.2.1 138 k = rl s w t.1.toInt.toNat k) (fun rec m t hs hrec => ?_) K9 (s.1 15 9).toInt.toNat (0, τ) ⟨by dsimp only; omega, by dsimp only; omega, by dsimp only; omega, h1, h2, fun k hk => h3 k (by omega)⟩ (by unfold K9; omega)
  clear h1 h2 h3 hk hk' hm i0 i1
  obtain ⟨i, τ⟩ := t
  obtain ⟨hm, i0, i1, h1, h2, h3⟩ := hs
  dsimp only at hm i0 i1 h1 h2 h3 ⊢
  have hT : TRd τ s := TR_k h (fun k hk => h1 k (by omega)) (fun _ _ _ => rfl) rfl
  unfold bX2_joinAll_26
  have e3 : τ.1 3 ((3 : Int32).toNatClampNeg) = s.1 15 9 := (tr_n hT).1
  rw [q_gd (by decide), nm_eq, e3]
  refine ok_ite.mpr ⟨fun hk => ?_, fun hk => ?_⟩
  rotate_left
  · have hlt := q_gt hk
    have ei := i_inc (a := i) (c := 60) (by omega) (by omega) (by decide)
    have ek : (i + 1).toInt.toNat = i.toInt.toNat + 1 := by omega
    have W := wf.2.1 i.toInt.toNat (by omega)
    have R := hT.2.2.2.2 i.toInt.toNat (by omega)
    have sk : ¬ uB s w i.toInt.toNat = true → Ok (rec (i + 1, τ)) (NC σ s w) := fun hc => by
      refine hrec ((s.1 15 9).toInt - (i + 1).toInt).toNat _ (by omega) ⟨rfl, by dsimp only; omega, by dsimp only; omega, h1, h2, fun k hk => ?_⟩
      dsimp only
      rw [ek, rl_s, if_neg hc]
      exact h3 k hk
    by_cases x : i = w
    · rw [if_pos x, nm_eq]
      exact sk (fun z => (of_decide_eq_true z).2 (by rw [i32_of i0]; exact x))
    rw [if_neg x, q_bd (c_usesK τ i0 (by omega)), h1 58 (by decide), dr i.toInt.toNat (by omega)]
    by_cases u : s.1 26 i.toInt.toNat = 0
    · rw [if_pos u, if_neg one_ne, q_gd (gb_of (by omega) (by omega)), nm_eq, n_toInt, R.1, q_gd (gb_of (by omega) (by omega)), nm_eq, R.2.1]
      have y1 : (12 + s.1 23 (60 + i.toInt.toNat)).toInt = 12 + (s.1 23 (60 + i.toInt.toNat)).toInt := by rw [iadd_toInt] <;> omega
      have y2 : (12 + s.1 23 (60 + i.toInt.toNat)).toInt.toNat = 12 + qO s i.toInt.toNat := by unfold qO; omega
      refine ok_bd.mpr ((k_join (σ := τ) (a := s.1 22 (60 + i.toInt.toNat)) (b := 12 + s.1 23 (60 + i.toInt.toNat)) (by omega) (by omega) (by omega) (by omega)).mono (fun μ hμ => ok_nm.mpr ?_))
      obtain ⟨q1, q2, q3⟩ := hμ
      rw [y2] at q3
      refine hrec ((s.1 15 9).toInt - (i + 1).toInt).toNat _ (by omega) ⟨rfl, by dsimp only; omega, by dsimp only; omega, fun j hj => (q1 j hj).trans (h1 j hj), q2.trans h2, fun k hk => ?_⟩
      dsimp only
      rw [ek, rl_s, if_pos (show uB s w i.toInt.toNat = true from decide_eq_true ⟨u, by rw [i32_of i0]; exact x⟩), q3 k hk]
      exact mg_eq h3 (by omega) (by unfold qO; omega) k hk
    · rw [if_neg u, if_pos rfl, nm_eq]
      exact sk (fun z => u (of_decide_eq_true z).1)
  have hk' := Int32.le_iff_toInt_le.mp hk
  have en : i.toInt.toNat = (s.1 15 9).toInt.toNat := by omega
  rw [en] at h3
  clear hrec
  -- centres
  refine ok_nm.mpr ?_
  refine ok_lpc (I := fun (m : Nat) (t : Int32 × gS) => m = ((s.1 15 7).toInt - t.1.toInt).toNat ∧ 0 ≤ t.1.toInt ∧ t.1.toInt ≤ (s.1 15 7).toInt ∧ (∀ j, j ≠ 138 → t.2.1 j = σ.1 j) ∧ t.2.2 = σ.2 ∧ ∀ k : Nat, k < 32 → t.2.1 138 k = lC s w t.1.toInt.toNat k) (fun rec m t hs hrec => ?_) K9 (s.1 15 7).toInt.toNat (0, τ) ⟨by dsimp only; omega, by dsimp only; omega, by dsimp only; omega, h1, h2, fun k hk => h3 k hk⟩ (by unfold K9; omega)
  clear h1 h2 h3 hk hk' hm i0 i1 hT e3 en
  obtain ⟨i, τ⟩ := t
  obtain ⟨hm, i0, i1, h1, h2, h3⟩ := hs
  dsimp only at hm i0 i1 h1 h2 h3 ⊢
  have hT : TRd τ s := TR_k h (fun k hk => h1 k (by omega)) (fun _ _ _ => rfl) rfl
  unfold bX2_joinAll_88
  have e7 : τ.1 3 ((1 : Int32).toNatClampNeg) = s.1 15 7 := (tr_n hT).2.2.1
  rw [q_gd (by decide), nm_eq, e7]
  refine ok_ite.mpr ⟨fun hk => ?_, fun hk => ?_⟩
  rotate_left
  · have hlt := q_gt hk
    have ei := i_inc (a := i) (c := 60) (by omega) (by omega) (by decide)
    have ek : (i + 1).toInt.toNat = i.toInt.toNat + 1 := by omega
    have P := hT.2.2.1 i.toInt.toNat (by omega)
    have gi := gb_of (i := i) (n := 12) i0 (by omega)
    have e8 : τ.1 8 i.toInt.toNat = stF s i.toInt.toNat := P.1
    rw [q_gd gi, nm_eq, n_toInt, P.2.2.1]
    by_cases v : s.1 18 (12 + i.toInt.toNat) ≤ 0
    · have v' := Int32.le_iff_toInt_le.mp v
      rw [if_pos v, nm_eq]
      refine hrec ((s.1 15 7).toInt - (i + 1).toInt).toNat _ (by omega) ⟨rfl, by dsimp only; omega, by dsimp only; omega, h1, h2, fun k hk => ?_⟩
      dsimp only
      rw [ek, lC_s, if_neg (fun z => by have := of_decide_eq_true z; omega)]
      exact h3 k hk
    · have v' := q_gt v
      have hc : cnB s i.toInt.toNat = true := decide_eq_true (by omega)
      obtain ⟨F1, F2, F3, F4, F5⟩ := fc_spec wf (p := i.toInt.toNat) (by omega) hc
      have eF : (Int32.ofNat (fcN s i.toInt.toNat)).toInt = fcN s i.toInt.toNat := iofNat_toInt (by omega)
      rw [if_neg v, q_gd gi, nm_eq, e8, q_bd (k_firstCentre hT wf _), F1]
      refine ok_bd.mpr ((k_join (σ := τ) (a := Int32.ofNat (fcN s i.toInt.toNat)) (b := i) (by omega) (by omega) (by omega) (by omega)).mono (fun μ hμ => ok_nm.mpr ?_))
      obtain ⟨q1, q2, q3⟩ := hμ
      rw [show (Int32.ofNat (fcN s i.toInt.toNat)).toInt.toNat = fcN s i.toInt.toNat by omega] at q3
      refine hrec ((s.1 15 7).toInt - (i + 1).toInt).toNat _ (by omega) ⟨rfl, by dsimp only; omega, by dsimp only; omega, fun j hj => (q1 j hj).trans (h1 j hj), q2.trans h2, fun k hk => ?_⟩
      dsimp only
      rw [ek, lC_s, if_pos hc, q3 k hk]
      exact mg_eq h3 (by omega) (by omega) k hk
  have hk' := Int32.le_iff_toInt_le.mp hk
  have en : i.toInt.toNat = (s.1 15 7).toInt.toNat := by omega
  rw [en] at h3
  clear hrec
  have lb := lC_lb wf w (n := (s.1 15 7).toInt.toNat) (by omega)
  -- what is held
  refine ok_bd.mpr ((k_fill (σ := τ) (c := 139) (v := 0) (n := 32) (by decide) (by decide) (by decide)).mono (fun ρ hρ => ok_nm.mpr ?_))
  obtain ⟨f1, f2, f3⟩ := hρ
  refine ok_lpc (I := fun (m : Nat) (t : Int32 × gS) => m = ((s.1 15 8).toInt - t.1.toInt).toNat ∧ 0 ≤ t.1.toInt ∧ t.1.toInt ≤ (s.1 15 8).toInt ∧ (∀ j, j ≠ 139 → t.2.1 j = ρ.1 j) ∧ t.2.2 = ρ.2 ∧ ∀ l : Int32, 0 ≤ l.toInt → l.toInt ≤ 31 → (t.2.1 139 l.toInt.toNat = 0 ↔ ∀ q : Nat, (q : Int) < t.1.toInt → fixK σ q → ¬ lC s w (s.1 15 7).toInt.toNat (12 + q) = l)) (fun rec m t hs hrec => ?_) K9 (s.1 15 8).toInt.toNat (0, ρ) ⟨by dsimp only; omega, by dsimp only; omega, by dsimp only; omega, fun _ _ => rfl, rfl, fun l l0 l1 => ⟨fun _ q hq => absurd hq (by dsimp only; omega), fun _ => f3 _ (by omega)⟩⟩ (by unfold K9; omega)
  obtain ⟨q, μ⟩ := t
  obtain ⟨hm', q0, q1, g1, g2, g3⟩ := hs
  dsimp only at hm' q0 q1 g1 g2 g3 ⊢
  have m138 : ∀ k, k < 32 → μ.1 138 k = lC s w (s.1 15 7).toInt.toNat k := fun k hk => by rw [g1 138 (by decide), f1 138 (by decide)]; exact h3 k hk
  have mr : ∀ j, j ≠ 138 → j ≠ 139 → μ.1 j = σ.1 j := fun j j1 j2 => by rw [g1 j j2, f1 j j2]; exact h1 j j1
  unfold bX2_joinAll_147
  have e2 : μ.1 3 ((2 : Int32).toNatClampNeg) = s.1 15 8 := by rw [mr 3 (by decide) (by decide)]; exact (tr_n h).2.1
  rw [q_gd (by decide), nm_eq, e2]
  refine ok_ite.mpr ⟨fun hk => ok_some.mpr ⟨mr, by rw [g2, f2, h2], m138, fun l l0 l1 => ?_⟩, fun hk => ?_⟩
  · have hk2 := Int32.le_iff_toInt_le.mp hk
    rw [g3 l l0 l1]
    exact ⟨fun y i hi => y i (by omega), fun y i hi => y i (by omega)⟩
  have hlt := q_gt hk
  have ei := i_inc (a := q) (c := 60) (by omega) (by omega) (by decide)
  have fe : fixK μ q.toInt.toNat ↔ fixK σ q.toInt.toNat := by
    unfold fixK
    rw [mr 16 (by decide) (by decide), mr 47 (by decide) (by decide)]
  have x12 : (12 + q).toInt = 12 + q.toInt := by rw [iadd_toInt] <;> omega
  have n12 : (12 + q).toInt.toNat = 12 + q.toInt.toNat := by omega
  rcases c_fixK μ q0 (by omega) with ⟨c1, c2⟩ | ⟨c1, c2⟩
  · rw [q_bd c1, if_pos rfl, nm_eq]
    refine hrec ((s.1 15 8).toInt - (q + 1).toInt).toNat _ (by omega) ⟨rfl, by dsimp only; omega, by dsimp only; omega, g1, g2, fun l l0 l1 => ?_⟩
    dsimp only
    rw [g3 l l0 l1]
    refine ⟨fun y i hi fi => ?_, fun y i hi => y i (by omega)⟩
    by_cases z : i = q.toInt.toNat
    · exact absurd (fe.mpr (by rw [← z]; exact fi)) c2
    · exact y i (by omega) fi
  · have L := lb (12 + q.toInt.toNat) (by omega)
    rw [q_bd c1, if_neg one_ne, q_gd (gb_of (by omega) (by omega)), nm_eq, n_toInt, n12, m138 _ (by omega), q_gd (gb_of (by omega) (by omega)), nm_eq, nm_eq, n_toInt]
    refine hrec ((s.1 15 8).toInt - (q + 1).toInt).toNat _ (by omega) ⟨rfl, by dsimp only; omega, by dsimp only; omega, fun j hj => (gsI_row hj).trans (g1 j hj), g2, fun l l0 l1 => ?_⟩
    dsimp only
    rw [gsI_at]
    by_cases z : l = lC s w (s.1 15 7).toInt.toNat (12 + q.toInt.toNat)
    · rw [if_pos (by rw [z])]
      exact ⟨fun y => absurd y one_ne, fun y => absurd z.symm (y q.toInt.toNat (by omega) (fe.mp c2))⟩
    · have zn : ¬ l.toInt.toNat = (lC s w (s.1 15 7).toInt.toNat (12 + q.toInt.toNat)).toInt.toNat := fun y => z (Int32.toInt_inj.mp (by omega))
      rw [if_neg zn, g3 l l0 l1]
      refine ⟨fun y i hi fi => ?_, fun y i hi => y i (by omega)⟩
      by_cases x : i = q.toInt.toNat
      · rw [x]; exact fun e => z e.symm
      · exact y i (by omega) fi
end P12ZE
