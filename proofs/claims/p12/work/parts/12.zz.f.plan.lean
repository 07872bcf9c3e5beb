/-! THE PLAN -/
section P12ZZF
noncomputable def pC (c : Nat → Int32) : Nat → Int32
  | 0 => 0
  | n + 1 => if c n = 0 then pC c n else pC c n + 1
theorem pC_eq {c d : Nat → Int32} : ∀ n : Nat, (∀ i, i < n → c i = d i) → pC c n = pC d n
  | 0, _ => rfl
  | n + 1, h => by
    unfold pC
    rw [h n (by omega), pC_eq n (fun i hi => h i (by omega))]
theorem pC_tail {c : Nat → Int32} {m : Nat} : ∀ d : Nat, (∀ i, m ≤ i → i < m + d → c i = 0) → pC c (m + d) = pC c m
  | 0, _ => rfl
  | d + 1, h => by
    show (if c (m + d) = 0 then pC c (m + d) else pC c (m + d) + 1) = _
    rw [if_pos (h (m + d) (by omega) (by omega))]
    exact pC_tail d (fun i h1 h2 => h i h1 (by omega))
/-- rows marked, on both sides -/
noncomputable def PL (s κ0 t0 κ t : gS) : Prop := (∀ j, j ≠ 196 → κ.1 j = κ0.1 j) ∧ (∀ j, j ≠ 36 → t.1 j = t0.1 j) ∧ t.2 = t0.2 ∧ JM t ∧ ∀ r : Nat, r < 60 → κ.1 196 r = t.1 36 r ∧ (t.1 36 r = 0 ∨ t.1 36 r = 1) ∧ ((s.1 15 9).toInt ≤ r → t.1 36 r = 0)
theorem PL_w {s κ0 t0 κ t : gS} (h : PL s κ0 t0 κ t) {r : Nat} (hr : (r : Int) < (s.1 15 9).toInt) : PL s κ0 t0 (gsI κ 196 r 1) (gsI t 36 r 1) := by
  obtain ⟨h1, h2, h3, h4, h5⟩ := h
  refine ⟨fun j hj => (gsI_row hj).trans (h1 j hj), fun j hj => (gsI_row hj).trans (h2 j hj), h3, JM_w h4 (Int32.le_toInt _) (Int32.toInt_le _), fun c hc => ?_⟩
  rw [gsI_at, gsI_at]
  by_cases z : c = r
  · rw [if_pos z, if_pos z]
    exact ⟨rfl, .inr rfl, fun y => by omega⟩
  · rw [if_neg z, if_neg z]
    exact h5 c hc
theorem m_cntP (t : gS) : lpc (S := Int32 × Int32) K9 (fun rec x => bX10_plan_153 t (fun a3 a4 => rec (a3, a4)) x.1 x.2) (0, 0) = some (pC (t.1 36) 60, t) := by
  have z0' := z0
  have l1 : (1 : Int32).toInt = 1 := by decide
  have l60 : (60 : Int32).toInt = 60 := by decide
  have key : Ok (lpc (S := Int32 × Int32) K9 (fun rec x => bX10_plan_153 t (fun a3 a4 => rec (a3, a4)) x.1 x.2) (0, 0)) (fun o => o = (pC (t.1 36) 60, t)) := by
    refine ok_lpc (I := fun (n : Nat) (y : Int32 × Int32) => n = (60 - y.2.toInt).toNat ∧ 0 ≤ y.2.toInt ∧ y.2.toInt ≤ 60 ∧ y.1 = pC (t.1 36) y.2.toInt.toNat) (fun G n y hs hrec => ?_) K9 60 (0, 0) ⟨by dsimp only; omega, by dsimp only; omega, by dsimp only; omega, rfl⟩ (by unfold K9; omega)
    obtain ⟨c, r⟩ := y
    obtain ⟨hn, r0, r1, hc⟩ := hs
    dsimp only at hn r0 r1 hc ⊢
    unfold bX10_plan_153
    refine ok_ite.mpr ⟨fun hk => ok_some.mpr ?_, fun hk => ?_⟩
    · have hk' := Int32.le_iff_toInt_le.mp hk
      rw [hc, show r.toInt.toNat = 60 by omega]
    have hlt := q_gt hk
    have e1 := i_inc (a := r) (c := 60) (by omega) (by omega) (by decide)
    have en : (r + 1).toInt.toNat = r.toInt.toNat + 1 := by omega
    have go : ∀ c1 : Int32, c1 = (if t.1 36 r.toInt.toNat = 0 then c else c + 1) → Ok (G (c1, r + 1)) (fun o => o = (pC (t.1 36) 60, t)) := fun c1 h1 => hrec (60 - (r + 1).toInt).toNat (c1, r + 1) (by omega) ⟨rfl, by dsimp only; omega, by dsimp only; omega, by
      dsimp only
      rw [en, h1, hc]
      rfl⟩
    simp only [nm_eq]
    rw [q_gd (gb_of r0 (by omega)), n_toInt]
    refine ok_ite.mpr ⟨fun z => go c (by rw [if_pos z]), fun z => go (c + 1) (by rw [if_neg z])⟩
  obtain ⟨o, e, ho⟩ := key
  rw [e, ho]
theorem k_cntP {s κ : gS} (b : 0 ≤ (s.1 15 9).toInt ∧ (s.1 15 9).toInt ≤ 60) (e3 : κ.1 3 ((3 : Int32).toNatClampNeg) = s.1 15 9) (w : ∀ r : Nat, r < 60 → κ.1 196 r = 0 ∨ κ.1 196 r = 1) : lpc (S := Int32 × Int32) K9 (fun rec x => bX7_countPlanned_45 κ (fun a3 a4 => rec (a3, a4)) x.1 x.2) (0, 0) = some (pC (κ.1 196) (s.1 15 9).toInt.toNat, κ) := by
  have z0' := z0
  have l1 : (1 : Int32).toInt = 1 := by decide
  have key : Ok (lpc (S := Int32 × Int32) K9 (fun rec x => bX7_countPlanned_45 κ (fun a3 a4 => rec (a3, a4)) x.1 x.2) (0, 0)) (fun o => o = (pC (κ.1 196) (s.1 15 9).toInt.toNat, κ)) := by
    refine ok_lpc (I := fun (n : Nat) (y : Int32 × Int32) => n = ((s.1 15 9).toInt - y.2.toInt).toNat ∧ 0 ≤ y.2.toInt ∧ y.2.toInt ≤ (s.1 15 9).toInt ∧ y.1 = pC (κ.1 196) y.2.toInt.toNat) (fun G n y hs hrec => ?_) K9 (s.1 15 9).toInt.toNat (0, 0) ⟨by dsimp only; omega, by dsimp only; omega, by dsimp only; omega, rfl⟩ (by unfold K9; omega)
    obtain ⟨c, r⟩ := y
    obtain ⟨hn, r0, r1, hc⟩ := hs
    dsimp only at hn r0 r1 hc ⊢
    unfold bX7_countPlanned_45
    rw [q_gd (by decide), nm_eq, e3]
    refine ok_ite.mpr ⟨fun hk => ok_some.mpr ?_, fun hk => ?_⟩
    · have hk' := Int32.le_iff_toInt_le.mp hk
      rw [hc, show r.toInt.toNat = (s.1 15 9).toInt.toNat by omega]
    have hlt := q_gt hk
    have e1 := i_inc (a := r) (c := 60) (by omega) (by omega) (by decide)
    have en : (r + 1).toInt.toNat = r.toInt.toNat + 1 := by omega
    simp only [nm_eq]
    rw [q_gd (gb_of r0 (by omega)), n_toInt]
    refine hrec ((s.1 15 9).toInt - (r + 1).toInt).toNat (_, r + 1) (by omega) ⟨rfl, by dsimp only; omega, by dsimp only; omega, ?_⟩
    dsimp only
    rw [en]
    show _ = if κ.1 196 r.toInt.toNat = 0 then pC (κ.1 196) r.toInt.toNat else pC (κ.1 196) r.toInt.toNat + 1
    rw [← hc]
    rcases w r.toInt.toNat (by omega) with z | z
    · rw [z, if_pos rfl]; exact Int32.add_zero c
    · rw [z, if_neg one_ne]
  obtain ⟨o, e, ho⟩ := key
  rw [e, ho]
set_option maxHeartbeats 1000000 in
theorem plan_2 {σ s τ κ0 t0 : gS} {k n : Int32} (hG : GT σ s) (v : SV σ s τ) (T : TGr s τ κ0 t0 k) (z36 : ∀ r : Nat, r < 60 → t0.1 36 r = 0) : Re (fX7_countPlanned κ0 n) (lpc (S := Int32 × gS) K9 (fun rec x => bX10_plan_42 t0 n k (fun a3 σ1 => rec (a3, σ1)) x.1 x.2) (0, t0)) (fun a b => a.1 = b.1) := by
  obtain ⟨b9, b8, b7, b6⟩ := gt_n hG
  obtain ⟨h1, h2, h3, h4, h5, h6, h7, h8, h9, h10, h11, h12, h13⟩ := T
  have z0' := z0
  have l1 : (1 : Int32).toInt = 1 := by decide
  have l100 : (100 : Int32).toInt = 100 := by decide
  have hT := GT_m hG h2 h3 h4
  have w := wf_gt hG
  obtain ⟨κ1, ef, f1, f2, f3⟩ := k_fill (σ := κ0) (c := 196) (v := 0) (n := 60) (by decide) (by decide) (by decide)
  have cells : ∀ κ : gS, (∀ j, j ≠ 196 → κ.1 j = κ0.1 j) → κ.1 140 10 = k ∧ κ.1 194 = κ0.1 194 ∧ κ.1 195 = κ0.1 195 ∧ κ.1 3 ((2 : Int32).toNatClampNeg) = s.1 15 8 ∧ κ.1 3 ((3 : Int32).toNatClampNeg) = s.1 15 9 ∧ ∀ p q : Nat, (p : Int) < (s.1 15 7).toInt → (q : Int) < (s.1 15 8).toInt → κ.1 (142 + p) q = RW9 s (Int32.ofNat p) (Int32.ofNat q) := fun κ hκ => by
    have r3 : κ.1 3 = σ.1 3 := by rw [hκ 3 (by decide), h1 3 (by decide) (by decide) (by decide) (by decide), v.1.1 3 (by decide)]
    refine ⟨by rw [hκ 140 (by decide)]; exact h5, hκ 194 (by decide), hκ 195 (by decide), ?_, ?_, fun p q hp hq => ?_⟩
    · rw [r3]; exact (tr_n hG.2.2.1).2.1
    · rw [r3]; exact (tr_n hG.2.2.1).1
    · rw [hκ _ (by omega), h1 _ (by omega) (by omega) (by omega) (by omega)]
      exact v.2.1 p q hp hq
  unfold fX7_countPlanned
  rw [q_bd ef, nm_eq]
  refine re_lpc (I := fun (m : Nat) (x y : Int32 × gS) => m = (k.toInt - y.1.toInt).toNat ∧ 0 ≤ y.1.toInt ∧ y.1.toInt ≤ k.toInt ∧ x.1 = y.1 ∧ PL s κ0 t0 x.2 y.2) (fun F G m x y hs hrec => ?_) K9 K9 k.toInt.toNat (0, κ1) (0, t0) ⟨by dsimp only; omega, by dsimp only; omega, by dsimp only; omega, rfl, f1, fun _ _ => rfl, rfl, h4, fun r hr => ⟨by dsimp only; rw [f3 r hr, z36 r hr], .inl (z36 r hr), fun _ => z36 r hr⟩⟩ (by unfold K9; omega) (by unfold K9; omega)
  obtain ⟨b', κ⟩ := x
  obtain ⟨b, t⟩ := y
  obtain ⟨hm, b0, b1, eb, pl⟩ := hs
  dsimp only at hm b0 b1 eb pl ⊢
  subst eb
  obtain ⟨c1, c2, c3, c4, c5, c6⟩ := cells κ pl.1
  unfold bX7_countPlanned_10 bX10_plan_42
  rw [c1]
  by_cases hk : k ≤ b'
  · rw [if_pos hk, if_pos hk, nm_eq, nm_eq, nm_eq, nm_eq, m_cntP t, k_cntP b9 c5 (fun r hr => by rw [(pl.2.2.2.2 r hr).1]; exact (pl.2.2.2.2 r hr).2.1)]
    refine ⟨_, _, rfl, rfl, ?_⟩
    show pC (κ.1 196) (s.1 15 9).toInt.toNat = pC (t.1 36) 60
    have tl := pC_tail (c := t.1 36) (m := (s.1 15 9).toInt.toNat) (60 - (s.1 15 9).toInt.toNat) (fun i i0 i1 => (pl.2.2.2.2 i (by omega)).2.2 (by omega))
    rw [show (s.1 15 9).toInt.toNat + (60 - (s.1 15 9).toInt.toNat) = 60 by omega] at tl
    rw [tl]
    exact pC_eq _ (fun i hi => (pl.2.2.2.2 i (by omega)).1)
  have hlt := q_gt hk
  have e1 := i_inc (a := b') (c := 60) (by omega) (by omega) (by decide)
  have gb1 := gb_of (i := b') (n := 12) b0 (by omega)
  obtain ⟨q1, ⟨q2, q3⟩, q4, q5⟩ := h13 b'.toInt.toNat (by omega)
  obtain ⟨A, hA⟩ : ∃ A, A = κ0.1 194 b'.toInt.toNat := ⟨_, rfl⟩
  obtain ⟨B, hB⟩ : ∃ B, B = κ0.1 195 b'.toInt.toNat := ⟨_, rfl⟩
  rw [← hA] at q1 q2 q3
  rw [← hB] at q1 q4 q5
  have m1 : (100 * A).toInt = 100 * A.toInt := imulc (by decide) (by omega) (by omega)
  have m2 : (100 * A + B).toInt = 100 * A.toInt + B.toInt := by rw [iadd_toInt] <;> omega
  have dA : (100 * A + B) / 100 = A := Int32.toInt_inj.mp (by rw [idiv_toInt (n := 100) (by omega) (by decide), m2]; omega)
  have dB : irm (100 * A + B) 100 = B := Int32.toInt_inj.mp (by rw [irm_toInt (n := 100) (by omega) (by decide), m2]; omega)
  rw [if_neg hk, if_neg hk, nm_eq, nm_eq, q_gd gb1, nm_eq, q_gd gb1, nm_eq, n_toInt, c2, c3, ← hA, ← hB]
  have key : Re (fX7_markPlanned κ A B n) (lpc (S := Int32 × Int32 × gS) K9 (fun rec x => bX10_plan_53 t n k b' (fun a3 σ1 => G (a3, σ1)) (fun a4 a5 σ1 => rec (a4, a5, σ1)) x.1 x.2.1 x.2.2) (0, 0, t)) (fun κ' o => Re (F (b' + 1, κ')) (some o) (fun a b => a.1 = b.1)) := by
    unfold fX7_markPlanned
    rw [nm_eq, nm_eq]
    refine re_lpc (I := fun (m : Nat) (x y : Int32 × Int32 × gS) => m = ((s.1 15 8).toInt - y.2.1.toInt).toNat ∧ 0 ≤ y.2.1.toInt ∧ y.2.1.toInt ≤ (s.1 15 8).toInt ∧ x.1 = y.1 ∧ x.2.1 = y.2.1 ∧ PL s κ0 t0 x.2.2 y.2.2) (fun F2 G2 m x y hs hrec2 => ?_) K9 K9 (s.1 15 8).toInt.toNat (0, 0, κ) (0, 0, t) ⟨by dsimp only; omega, by dsimp only; omega, by dsimp only; omega, rfl, rfl, pl⟩ (by unfold K9; omega) (by unfold K9; omega)
    clear pl c1 c2 c3 c4 c5 c6
    obtain ⟨u', q', κ⟩ := x
    obtain ⟨u, q, t⟩ := y
    obtain ⟨hl, r0, r1, eu, eq, pl⟩ := hs
    dsimp only at hl r0 r1 eu eq pl ⊢
    subst eu eq
    obtain ⟨c1, c2, c3, c4, c5, c6⟩ := cells κ pl.1
    have t15 : t.1 15 = s.1 15 := by rw [pl.2.1 15 (by decide)]; exact h2 15 (by decide) (by decide) (by decide)
    have hT2 : GT σ t := GT_m hG (fun j j1 j2 j3 => (pl.2.1 j j3).trans (h2 j j1 j2 j3)) (pl.2.2.1.trans h3) pl.2.2.2.1
    have ro : ∀ p x, fX10_rowOf t p x = some (RW9 s p x) := fun p x => by
      rw [m9_rowOf (wf_gt hT2) p x, rw_m (fun j j1 j2 j3 => (pl.2.1 j j3).trans (h2 j j1 j2 j3))]
    have out : Re (some κ) (G (b' + 1, t)) (fun κ' o => Re (F (b' + 1, κ')) (some o) (fun a b => a.1 = b.1)) := by
      obtain ⟨x, o, ex, eo, hf⟩ := hrec (k.toInt - (b' + 1).toInt).toNat (b' + 1, κ) (b' + 1, t) (by omega) ⟨rfl, by dsimp only; omega, by dsimp only; omega, rfl, pl⟩
      exact ⟨κ, o, rfl, eo, x, o, ex, rfl, hf⟩
    unfold bX7_markPlanned_6 bX10_plan_53
    rw [q_gd (show gb 2 6 = true by decide), nm_eq, c4, q_bd (m_points t), t15]
    by_cases hj : s.1 15 8 ≤ q'
    · rw [if_pos hj, if_pos hj, nm_eq]
      exact out
    have hlt2 := q_gt hj
    have e2 := i_inc (a := q') (c := 60) (by omega) (by omega) (by decide)
    rw [if_neg hj, if_neg hj]
    by_cases hu : n ≤ u'
    · rw [if_pos hu, if_pos hu, nm_eq]
      exact out
    rw [if_neg hu, if_neg hu]
    have gq := gb_of (i := q') (n := 20) r0 (by omega)
    have gA := gb_of (i := A) (n := 12) q2 (by omega)
    have gB := gb_of (i := B) (n := 12) q4 (by omega)
    have M1 := c6 A.toInt.toNat q'.toInt.toNat (by omega) (by omega)
    have M2 := c6 B.toInt.toNat q'.toInt.toNat (by omega) (by omega)
    rw [i32_of q2, i32_of r0] at M1
    rw [i32_of q4, i32_of r0] at M2
    have t34 : t.1 34 b'.toInt.toNat = 100 * A + B := by rw [pl.2.1 34 (by decide)]; exact q1
    have nx : ∀ (u1 : Int32) (κ1 t1 : gS), PL s κ0 t0 κ1 t1 → Re (F2 (u1, q' + 1, κ1)) (G2 (u1, q' + 1, t1)) (fun κ' o => Re (F (b' + 1, κ')) (some o) (fun a b => a.1 = b.1)) := fun u1 κ1 t1 g => hrec2 ((s.1 15 8).toInt - (q' + 1).toInt).toNat (u1, q' + 1, κ1) (u1, q' + 1, t1) (by omega) ⟨rfl, by dsimp only; omega, by dsimp only; omega, rfl, rfl, g⟩
    simp only [nm_eq, q_gd gq, q_gd gA, q_gd gB, q_gd gb1, nb1]
    simp only [n_toInt]
    rw [M1, M2, t34, dA, dB, ro, bd_so, ro, bd_so]
    by_cases y1 : RW9 s A q' = -1
    · rw [if_pos y1, if_pos y1]; exact nx u' κ t pl
    rw [if_neg y1, if_neg y1]
    by_cases y2 : RW9 s B q' = -1
    · rw [if_pos y2, if_pos y2]; exact nx u' κ t pl
    rw [if_neg y2, if_neg y2]
    obtain ⟨ra, ka, ea, -⟩ := ro_in w y1
    obtain ⟨rb, kb, eb, -⟩ := ro_in w y2
    have ia : (RW9 s A q').toInt = ra := by rw [ea, iofNat_toInt (by omega)]
    have ib : (RW9 s B q').toInt = rb := by rw [eb, iofNat_toInt (by omega)]
    have ga := gb_of (i := RW9 s A q') (n := 60) (by omega) (by omega)
    have gb2 := gb_of (i := RW9 s B q') (n := 60) (by omega) (by omega)
    simp only [q_gd ga, q_gd gb2]
    rw [show (RW9 s A q').toInt.toNat = ra by omega, show (RW9 s B q').toInt.toNat = rb by omega]
    exact nx (u' + 1) _ _ (PL_w (PL_w pl ka) kb)
  obtain ⟨κ', o, ek, eo, x, o', ex, eo', hf⟩ := key
  cases eo'
  rw [q_bd ek, nm_eq]
  exact ⟨x, o, ex, eo, hf⟩
end P12ZZF
