/-! THE GEOMETRY: a start, 2: what a picture has of its own; the next picture, on both sides -/
section P12Y2
theorem sW_flip {u v : Nat → Bool} {k : Nat} : ∀ n, k < n → u k = false → v k = true → (∀ j, j < n → j ≠ k → v j = u j) → sW n v (fun _ => 1) = sW n u (fun _ => 1) + 1
  | 0, h, _, _, _ => absurd h (Nat.not_lt_zero _)
  | n + 1, h, hu, hv, e => by
    unfold sW
    by_cases z : k = n
    · subst z
      rw [hu, hv, sW_eq k (fun r hr => ⟨e r (by omega) (by omega), fun _ => rfl⟩)]
      simp
    · rw [sW_flip n (by omega) hu hv (fun j hj hk => e j (by omega) hk), e n (by omega) (by omega)]
      exact Int.add_right_comm _ _ _
theorem sW_0 {u : Nat → Bool} {w : Nat → Int} : ∀ n, (∀ r, r < n → u r = false) → sW n u w = 0
  | 0, _ => rfl
  | n + 1, h => by
    unfold sW
    rw [sW_0 n (fun r hr => h r (by omega)), h n (by omega)]
    rfl
theorem sW_ex {u : Nat → Bool} : ∀ n, 1 ≤ sW n u (fun _ => 1) → ∃ r, r < n ∧ u r = true
  | 0, h => absurd h (by unfold sW; decide)
  | n + 1, h => by
    unfold sW at h
    by_cases z : u n = true
    · exact ⟨n, by omega, z⟩
    · rw [if_neg z] at h
      obtain ⟨r, h1, h2⟩ := sW_ex (u := u) n (by omega)
      exact ⟨r, by omega, h2⟩
theorem sW_b {u : Nat → Bool} (n : Nat) : 0 ≤ sW n u (fun _ => 1) ∧ sW n u (fun _ => 1) ≤ n := by
  induction n with
  | zero => exact ⟨Int.le_refl _, Int.le_refl _⟩
  | succ n ih =>
    unfold sW
    by_cases z : u n = true
    · rw [if_pos z]; dsimp only; omega
    · rw [if_neg z]; omega
noncomputable def OW (σ s τ : gS) (p : Int32) (k : Nat) (m : Int32) : Prop := (∀ j, j ≠ 86 → τ.1 j = σ.1 j) ∧ τ.2 = σ.2 ∧ m.toInt = sW (s.1 15 8).toInt.toNat (fun q => decide (¬ τ.1 86 q = -1)) (fun _ => 1) ∧ ∀ q : Nat, (q : Int) < (s.1 15 8).toInt → (τ.1 86 q = -1 ∧ ∀ r, r < k → ¬ (roB s p (Int32.ofNat q) r = true ∧ ¬ σ.1 85 q = 0)) ∨ ∃ r : Nat, r < k ∧ τ.1 86 q = Int32.ofNat r ∧ roB s p (Int32.ofNat q) r = true ∧ ¬ σ.1 85 q = 0
theorem OW_skip {σ s τ : gS} {p m : Int32} {k : Nat} (h : OW σ s τ p k m) (c : ∀ q : Nat, (q : Int) < (s.1 15 8).toInt → ¬ (roB s p (Int32.ofNat q) k = true ∧ ¬ σ.1 85 q = 0)) : OW σ s τ p (k + 1) m := by
  refine ⟨h.1, h.2.1, h.2.2.1, fun q hq => ?_⟩
  rcases h.2.2.2 q hq with ⟨h1, h2⟩ | ⟨r, h1, h2⟩
  · refine .inl ⟨h1, fun r hr => ?_⟩
    by_cases z : r = k
    · rw [z]; exact c q hq
    · exact h2 r (by omega)
  · exact .inr ⟨r, by omega, h2⟩
theorem ofN_m1 {n : Nat} (h : n < 2147483648) : ¬ Int32.ofNat n = -1 := fun z => by
  have := iofNat_toInt h
  rw [z] at this
  have l : (-1 : Int32).toInt = -1 := by decide
  omega
theorem k_gatherOwn {σ s : gS} (h : SP9 σ s) (p : Int32) : Ok (fX6_gatherOwn σ p) (fun o => OW σ s o.2 p (s.1 15 9).toInt.toNat o.1) := by
  obtain ⟨b9, b8, b7, b6⟩ := h.2.1.1
  have z0' := z0
  unfold fX6_gatherOwn
  refine ok_bd.mpr ((k_fill (σ := σ) (c := 86) (v := -1) (n := 20) (by decide) (by decide) (by decide)).mono (fun ρ hρ => ?_))
  obtain ⟨f1, f2, f3⟩ := hρ
  refine ok_nm.mpr (ok_nm.mpr ?_)
  refine ok_lpc (I := fun (n : Nat) (t : Int32 × Int32 × gS) => n = ((s.1 15 9).toInt - t.2.1.toInt).toNat ∧ 0 ≤ t.2.1.toInt ∧ t.2.1.toInt ≤ (s.1 15 9).toInt ∧ OW σ s t.2.2 p t.2.1.toInt.toNat t.1) (fun rec n t hs hrec => ?_) K9 (s.1 15 9).toInt.toNat (0, 0, ρ) ⟨by dsimp only; omega, by dsimp only; omega, by dsimp only; omega, f1, f2, ?_, fun q hq => .inl ⟨f3 q (by omega), fun r hr => absurd hr (by dsimp only; omega)⟩⟩ (by unfold K9; omega)
  · obtain ⟨m, a, τ⟩ := t
    obtain ⟨hn, a0, a1, hL⟩ := hs
    dsimp only at hn a0 a1 hL ⊢
    have hτ : SP9 τ s := SP_c h (fun k hk => hL.1 k (by omega))
    unfold bX6_gatherOwn_12
    have e3 : τ.1 3 ((3 : Int32).toNatClampNeg) = s.1 15 9 := (tr_n hτ.1).1
    rw [q_gd (by decide), nm_eq, e3]
    refine ok_ite.mpr ⟨fun hk => ok_some.mpr ?_, fun hk => ?_⟩
    · have hk' := Int32.le_iff_toInt_le.mp hk
      have : a.toInt.toNat = (s.1 15 9).toInt.toNat := by omega
      rw [this] at hL
      exact hL
    have hlt := q_gt hk
    have W := h.2.1.2.1 a.toInt.toNat (by omega)
    have R := hτ.1.2.2.2.2 a.toInt.toNat (by omega)
    have e1 := i_inc (a := a) (c := 60) (by omega) (by omega) (by decide)
    have ek : (a + 1).toInt.toNat = a.toInt.toNat + 1 := by omega
    have sk : (∀ q : Nat, (q : Int) < (s.1 15 8).toInt → ¬ (roB s p (Int32.ofNat q) a.toInt.toNat = true ∧ ¬ σ.1 85 q = 0)) → Ok (rec (m, a + 1, τ)) (fun o => OW σ s o.2 p (s.1 15 9).toInt.toNat o.1) := fun hc => by
      refine hrec ((s.1 15 9).toInt - (a + 1).toInt).toNat _ (by omega) ⟨rfl, by dsimp only; omega, by dsimp only; omega, ?_⟩
      dsimp only
      rw [ek]
      exact OW_skip hL hc
    obtain ⟨Q, hQ⟩ : ∃ Q, Q = qO s a.toInt.toNat := ⟨_, rfl⟩
    have hQ2 : (s.1 23 (60 + a.toInt.toNat)).toNatClampNeg = Q := by rw [hQ]; rfl
    have hQ3 : (Q : Int) < (s.1 15 8).toInt := by rw [hQ]; unfold qO; omega
    have hQ4 : s.1 23 (60 + a.toInt.toNat) = Int32.ofNat Q := by rw [hQ]; exact (i32_of W.2.1.1).symm
    rw [q_gd (gb_of (by omega) (by omega)), nm_eq, nm_eq, n_toInt, R.2.1, q_bd (c_usesK τ a0 (by omega)), hτ.2.2.2.2.1 a.toInt.toNat (by omega)]
    by_cases u : s.1 26 a.toInt.toNat = 0
    · rw [if_pos u, if_neg one_ne, q_gd (gb_of (by omega) (by omega)), nm_eq, R.1]
      by_cases e : s.1 22 (60 + a.toInt.toNat) = p
      · rw [if_pos e, q_gd (gb_of (by omega) (by omega)), nm_eq, hQ2, hL.1 85 (by decide)]
        by_cases f : σ.1 85 Q = 0
        · rw [if_pos f, nm_eq]
          refine sk (fun q hq z => ?_)
          have y2 := (of_decide_eq_true z.1).2.2
          rw [hQ4] at y2
          have : q = Q := by
            have := congrArg Int32.toInt y2
            rw [iofNat_toInt (by omega), iofNat_toInt (by omega)] at this
            omega
          exact z.2 (by rw [this]; exact f)
        · rw [if_neg f, q_gd (gb_of (by omega) (by omega)), nm_eq, nm_eq, nm_eq]
          have hold : τ.1 86 Q = -1 := by
            rcases hL.2.2.2 Q hQ3 with ⟨h1, -⟩ | ⟨r, h1, -, h3, -⟩
            · exact h1
            · have hd := of_decide_eq_true h3
              exact absurd ⟨by rw [hd.2.1, e], by rw [hd.2.2, hQ4]⟩ (R.2.2.2.2.2.2 r h1)
          have hm1 := sW_b (u := fun q => decide (¬ τ.1 86 q = -1)) (s.1 15 8).toInt.toNat
          have hm2 := hL.2.2.1
          have em : (m + 1).toInt = m.toInt + 1 := i_inc (c := 60) (by omega) (by omega) (by decide)
          have hne := ofN_m1 (n := a.toInt.toNat) (by omega)
          refine hrec ((s.1 15 9).toInt - (a + 1).toInt).toNat (m + 1, a + 1, _) (by omega) ⟨rfl, by dsimp only; omega, by dsimp only; omega, fun j hj => (gsI_row hj).trans (hL.1 j hj), hL.2.1, ?_, fun q hq => ?_⟩
          · show (m + 1).toInt = sW _ (fun q => decide (¬ (gsI τ 86 Q a).1 86 q = -1)) _
            rw [em, hL.2.2.1]
            refine (sW_flip (k := Q) _ (by omega) ?_ ?_ (fun j hj hk => ?_)).symm
            · exact decide_eq_false (fun z => z hold)
            · show decide (¬ (gsI τ 86 Q a).1 86 Q = -1) = true
              rw [gsI_at, if_pos rfl]
              exact decide_eq_true (fun z => by rw [z] at a0; exact absurd a0 (by decide))
            · show decide (¬ (gsI τ 86 Q a).1 86 j = -1) = decide (¬ τ.1 86 j = -1)
              rw [gsI_at, if_neg hk]
          · show ((gsI τ 86 Q a).1 86 q = -1 ∧ ∀ r, r < (a + 1).toInt.toNat → _) ∨ ∃ r : Nat, r < (a + 1).toInt.toNat ∧ (gsI τ 86 Q a).1 86 q = Int32.ofNat r ∧ _
            rw [gsI_at, ek]
            by_cases z : q = Q
            · rw [if_pos z]
              exact .inr ⟨a.toInt.toNat, by omega, (i32_of a0).symm, decide_eq_true ⟨u, e, by rw [z]; exact hQ4⟩, by rw [z]; exact f⟩
            · rw [if_neg z]
              rcases hL.2.2.2 q hq with ⟨h1, h2⟩ | ⟨r, h1, h2⟩
              · refine .inl ⟨h1, fun r hr y => ?_⟩
                by_cases x : r = a.toInt.toNat
                · have y2 := (of_decide_eq_true y.1).2.2
                  rw [x, hQ4] at y2
                  have := congrArg Int32.toInt y2
                  rw [iofNat_toInt (by omega), iofNat_toInt (by omega)] at this
                  omega
                · exact h2 r (by omega) y
              · exact .inr ⟨r, by omega, h2⟩
      · rw [if_neg e, nm_eq]
        exact sk (fun q _ z => e (of_decide_eq_true z.1).2.1)
    · rw [if_neg u, if_pos rfl, nm_eq]
      exact sk (fun q _ z => u (of_decide_eq_true z.1).1)
  · dsimp only
    rw [sW_0 _ (fun r hr => decide_eq_false (fun z => z (f3 r (by omega))))]
    exact z0
theorem ro_one {σ s : gS} (h : TRd σ s) (w : WF s) {p q : Int32} {r : Nat} (hr : (r : Int) < (s.1 15 9).toInt) (c : roB s p q r = true) : RW9 s p q = Int32.ofNat r := by
  have b9 := w.1.1
  unfold RW9
  rcases fI_spec (roB s p q) (s.1 15 9).toInt.toNat 0 (by omega) with ⟨-, h2⟩ | ⟨j, j0, j1, j2, j3, j4⟩
  · rw [h2 r (by omega) (by omega)] at c
    exact absurd c (by decide)
  · have hj : ¬ r < j := fun z => by
      rw [j4 r (by omega) z] at c
      exact absurd c (by decide)
    have hj2 : ¬ j < r := fun z => by
      have d1 := of_decide_eq_true j2
      have d2 := of_decide_eq_true c
      exact (h.2.2.2.2 r hr).2.2.2.2.2.2 j z ⟨by rw [d1.2.1, d2.2.1], by rw [d1.2.2, d2.2.2]⟩
    have : j = r := by omega
    exact Int32.toInt_inj.mp (by rw [j3, this, iofNat_toInt (by omega)])
theorem ro_none {s : gS} (w : WF s) {p q : Int32} (c : ∀ r : Nat, (r : Int) < (s.1 15 9).toInt → ¬ roB s p q r = true) : RW9 s p q = -1 := by
  have b9 := w.1.1
  unfold RW9
  rcases fI_spec (roB s p q) (s.1 15 9).toInt.toNat 0 (by omega) with ⟨h1, -⟩ | ⟨j, j0, j1, j2, j3, j4⟩
  · exact h1
  · exact absurd j2 (c j (by omega))
/-- what is linked and a picture's own -/
noncomputable def LN (s τ : gS) (p : Int32) : Prop := ∀ q : Nat, (q : Int) < (s.1 15 8).toInt → (SR9 s (Int32.ofNat q) = -1 ∧ τ.1 86 q = -1) ∨ ∃ j : Nat, (j : Int) < (s.1 15 9).toInt ∧ SR9 s (Int32.ofNat q) = Int32.ofNat j ∧ τ.1 86 q = RW9 s p (Int32.ofNat q) ∧ τ.1 88 q = puO s j 0 ∧ τ.1 89 q = puO s j 1
theorem ow_end {σ s τ : gS} {p m : Int32} (h : TRd σ s) (w : WF s) (l : LKv s σ (s.1 15 9).toInt.toNat 0) (o : OW σ s τ p (s.1 15 9).toInt.toNat m) : LN s τ p := by
  have b9 := w.1.1
  intro q hq
  rcases l q hq with ⟨l1, l2⟩ | ⟨j, l0, l1, l2, l3, l4⟩
  · refine .inl ⟨l1, ?_⟩
    rcases o.2.2.2 q hq with ⟨h1, -⟩ | ⟨r, -, -, -, h4⟩
    · exact h1
    · exact absurd l2 h4
  · have hl : ¬ σ.1 85 q = 0 := by rw [l2]; exact one_ne
    refine .inr ⟨j, l0, l1, ?_, by rw [o.1 88 (by decide)]; exact l3, by rw [o.1 89 (by decide)]; exact l4⟩
    rcases o.2.2.2 q hq with ⟨h1, h2⟩ | ⟨r, h1, h2, h3, -⟩
    · rw [h1, ro_none w (fun r hr z => h2 r (by omega) ⟨z, hl⟩)]
    · rw [h2, ro_one h w (by omega) h3]
theorem m_sharedMany {s : gS} (w : WF s) (p : Int32) : Ok (fX10_sharedMany s p) (fun v => v.toInt = sW (s.1 15 8).toInt.toNat (fun q => decide (¬ RW9 s p (Int32.ofNat q) = -1 ∧ ¬ SR9 s (Int32.ofNat q) = -1)) (fun _ => 1)) := by
  obtain ⟨b9, b8, b7, b6⟩ := w.1
  have z0' := z0
  unfold fX10_sharedMany
  refine ok_nm.mpr (ok_nm.mpr ?_)
  refine ok_lpc (I := fun (n : Nat) (t : Int32 × Int32) => n = ((s.1 15 8).toInt - t.2.toInt).toNat ∧ 0 ≤ t.2.toInt ∧ t.2.toInt ≤ (s.1 15 8).toInt ∧ t.1.toInt = sW t.2.toInt.toNat (fun q => decide (¬ RW9 s p (Int32.ofNat q) = -1 ∧ ¬ SR9 s (Int32.ofNat q) = -1)) (fun _ => 1)) (fun rec n t hs hrec => ?_) K9 (s.1 15 8).toInt.toNat (0, 0) ⟨by dsimp only; omega, by dsimp only; omega, by dsimp only; omega, rfl⟩ (by unfold K9; omega)
  obtain ⟨m, a⟩ := t
  obtain ⟨hn, a0, a1, hL⟩ := hs
  dsimp only at hn a0 a1 hL ⊢
  unfold bX10_sharedMany_4
  rw [q_bd (m_points s)]
  refine ok_ite.mpr ⟨fun hk => ok_some.mpr ?_, fun hk => ?_⟩
  · have hk' := Int32.le_iff_toInt_le.mp hk
    rw [hL, show a.toInt.toNat = (s.1 15 8).toInt.toNat by omega]
  have hlt := q_gt hk
  have e1 := i_inc (a := a) (c := 60) (by omega) (by omega) (by decide)
  have ek : (a + 1).toInt.toNat = a.toInt.toNat + 1 := by omega
  have hb := sW_b (u := fun q => decide (¬ RW9 s p (Int32.ofNat q) = -1 ∧ ¬ SR9 s (Int32.ofNat q) = -1)) a.toInt.toNat
  rw [q_bd (m9_rowOf w p a)]
  have sk : ¬ (¬ RW9 s p (Int32.ofNat a.toInt.toNat) = -1 ∧ ¬ SR9 s (Int32.ofNat a.toInt.toNat) = -1) → Ok (rec (m, a + 1)) (fun v => v.toInt = sW (s.1 15 8).toInt.toNat (fun q => decide (¬ RW9 s p (Int32.ofNat q) = -1 ∧ ¬ SR9 s (Int32.ofNat q) = -1)) (fun _ => 1)) := fun hc => by
    refine hrec ((s.1 15 8).toInt - (a + 1).toInt).toNat _ (by omega) ⟨rfl, by dsimp only; omega, by dsimp only; omega, ?_⟩
    dsimp only
    rw [ek, sW_1, if_neg (fun z => hc (of_decide_eq_true z)), hL, Int.add_zero]
  rw [i32_of a0] at sk
  by_cases c1 : RW9 s p a = -1
  · rw [if_pos c1, nm_eq]
    exact sk (fun z => z.1 c1)
  rw [if_neg c1, q_bd (m9_startedRow w a)]
  by_cases c2 : SR9 s a = -1
  · rw [if_pos c2, nm_eq]
    exact sk (fun z => z.2 c2)
  rw [if_neg c2, nm_eq, nm_eq]
  have em : (m + 1).toInt = m.toInt + 1 := i_inc (c := 60) (by omega) (by omega) (by decide)
  refine hrec ((s.1 15 8).toInt - (a + 1).toInt).toNat _ (by omega) ⟨rfl, by dsimp only; omega, by dsimp only; omega, ?_⟩
  dsimp only
  rw [ek, sW_1, if_pos (decide_eq_true (by rw [i32_of a0]; exact ⟨c1, c2⟩)), em, hL]
/-- the next picture that can be started by others -/
noncomputable def FLr (σ s : gS) (o : Int32 × gS) (r : Int32) : Prop := o.1 = r ∧ (∀ j, j ≠ 85 → j ≠ 86 → j ≠ 88 → j ≠ 89 → o.2.1 j = σ.1 j) ∧ o.2.2 = σ.2 ∧ (r = -1 ∨ ((0 ≤ r.toInt ∧ r.toInt < (s.1 15 7).toInt) ∧ s.1 29 r.toInt.toNat = 0 ∧ LN s o.2 r ∧ ∃ q : Nat, (q : Int) < (s.1 15 8).toInt ∧ ¬ o.2.1 86 q = -1))
theorem ln_many {s τ : gS} {p m v : Int32} (w : WF s) (h : LN s τ p) (hm : m.toInt = sW (s.1 15 8).toInt.toNat (fun q => decide (¬ τ.1 86 q = -1)) (fun _ => 1)) (hv : v.toInt = sW (s.1 15 8).toInt.toNat (fun q => decide (¬ RW9 s p (Int32.ofNat q) = -1 ∧ ¬ SR9 s (Int32.ofNat q) = -1)) (fun _ => 1)) : m = v := by
  have b8 := w.1.2.1
  have b9 := w.1.1
  refine Int32.toInt_inj.mp ?_
  rw [hm, hv]
  refine sW_eq _ (fun q hq => ⟨?_, fun _ => rfl⟩)
  rcases h q (by omega) with ⟨l1, l2⟩ | ⟨j, l0, l1, l2, -⟩
  · rw [l1, l2]
    exact (decide_eq_false (fun z => z rfl)).trans (decide_eq_false (fun z => z.2 rfl)).symm
  · rw [l2]
    by_cases z : RW9 s p (Int32.ofNat q) = -1
    · exact (decide_eq_false (fun y => y z)).trans (decide_eq_false (fun y => y.1 z)).symm
    · exact (decide_eq_true z).trans (decide_eq_true ⟨z, by rw [l1]; exact ofN_m1 (by omega)⟩).symm
theorem next_2 {σ s : gS} (h : SP9 σ s) : Re (fX6_findLinked σ) (fX10_nextStarted s) (FLr σ s) := by
  obtain ⟨b9, b8, b7, b6⟩ := h.2.1.1
  have z0' := z0
  have l1' : (1 : Int32).toInt = 1 := by decide
  have l2' : (2 : Int32).toInt = 2 := by decide
  have l12 : (12 : Int32).toInt = 12 := by decide
  have w := h.2.1
  obtain ⟨τ1, e1, L⟩ := k_gatherStarted h
  unfold fX6_findLinked fX10_nextStarted
  rw [q_bd e1, nm_eq, nm_eq]
  refine re_lpc (I := fun (n : Nat) (t : Int32 × gS) (a : Int32) => n = ((s.1 15 7).toInt - a.toInt).toNat ∧ 0 ≤ a.toInt ∧ a.toInt ≤ (s.1 15 7).toInt ∧ t.1 = a ∧ (∀ j, j ≠ 86 → t.2.1 j = τ1.1 j) ∧ t.2.2 = τ1.2) (fun f g n t a hs hrec => ?_) K9 K9 (s.1 15 7).toInt.toNat (0, τ1) 0 ⟨by omega, by omega, by omega, rfl, fun _ _ => rfl, rfl⟩ (by unfold K9; omega) (by unfold K9; omega)
  obtain ⟨a', τ⟩ := t
  obtain ⟨hn, a0, a1, ha, h1, h2⟩ := hs
  dsimp only at ha h1 h2 ⊢
  subst ha
  have hτ : SP9 τ s := SP_c h (fun k hk => by rw [h1 k (by omega), L.1 k (by omega) (by omega) (by omega)])
  have hfr : ∀ j, j ≠ 85 → j ≠ 86 → j ≠ 88 → j ≠ 89 → τ.1 j = σ.1 j := fun j j1 j2 j3 j4 => (h1 j j2).trans (L.1 j j1 j3 j4)
  unfold bX6_findLinked_6 bX10_nextStarted_2
  have e7 : τ.1 3 ((1 : Int32).toNatClampNeg) = s.1 15 7 := (tr_n hτ.1).2.2.1
  rw [q_gd (by decide), nm_eq, e7, q_bd (m_pictures s)]
  by_cases hk : s.1 15 7 ≤ a'
  · rw [if_pos hk, if_pos hk]
    exact ⟨_, _, rfl, rfl, rfl, hfr, h2.trans L.2.1, .inl rfl⟩
  rw [if_neg hk, if_neg hk]
  have hlt := q_gt hk
  have e1' := i_inc (a := a') (c := 60) (by omega) (by omega) (by decide)
  have S := hτ.2.2.2.2.2 a'.toInt.toNat (by omega)
  have P := hτ.1.2.2.1 a'.toInt.toNat (by omega)
  have e12 : (12 + a').toInt = 12 + a'.toInt := by rw [iadd_toInt] <;> omega
  have n12 : (12 + a').toNatClampNeg = 12 + a'.toInt.toNat := n_add (k := 12) (by decide) a0 (by omega)
  rw [q_gd (gb_of (by omega) (by omega)), nm_eq, n_toInt, S.1, q_gd (gb_of (by omega) (by omega)), nm_eq]
  have go : ∀ τ2 : gS, (∀ j, j ≠ 86 → τ2.1 j = τ1.1 j) → τ2.2 = τ1.2 → Re (f (a' + 1, τ2)) (g (a' + 1)) (FLr σ s) := fun τ2 k1 k2 => hrec ((s.1 15 7).toInt - (a' + 1).toInt).toNat _ _ (by omega) ⟨rfl, by omega, by omega, rfl, k1, k2⟩
  rcases S.2 with u | u
  · rw [u, if_neg (by decide), nm_eq, if_pos rfl]
    obtain ⟨o, eo, O⟩ := k_gatherOwn hτ a'
    obtain ⟨v, ev, V⟩ := m_sharedMany w a'
    have Lτ : LKv s τ (s.1 15 9).toInt.toNat 0 := fun q hq => by
      rw [h1 85 (by decide), h1 88 (by decide), h1 89 (by decide)]
      exact L.2.2 q hq
    have N := ow_end hτ.1 w Lτ O
    have em := ln_many w N O.2.2.1 V
    have k1 : ∀ j, j ≠ 86 → o.2.1 j = τ1.1 j := fun j hj => (O.1 j hj).trans (h1 j hj)
    have k2 : o.2.2 = τ1.2 := O.2.1.trans h2
    rw [q_bd2 eo, q_bd ev, nm_eq, q_gd (gb_of (by omega) (by omega)), nm_eq, q_gd (gb_of (by omega) (by omega)), nm_eq, n12, O.1 9 (by decide), P.2.1, em]
    have hj : ∀ z : Int32, (1 ≤ z.toInt) → Re (jX6_findLinked_57 o.2 (fun a2 σ1 => f (a2, σ1)) a' z v) (jX10_nextStarted_42 s (fun a2 => g a2) a' z v) (FLr σ s) := fun z hz => by
      unfold jX6_findLinked_57 jX10_nextStarted_42
      rcases lt_or v z with ⟨y, y'⟩ | ⟨y, y'⟩
      · rw [if_pos y, if_pos y, nm_eq, nm_eq]
        exact go o.2 k1 k2
      · rw [if_neg y, if_neg y]
        refine ⟨_, _, rfl, rfl, rfl, fun j j1 j2 j3 j4 => (O.1 j j2).trans (hfr j j1 j2 j3 j4), k2.trans L.2.1, .inr ⟨⟨a0, hlt⟩, u, N, ?_⟩⟩
        have O3 := O.2.2.1
        rw [em] at O3
        obtain ⟨q, q1, q2⟩ := sW_ex (u := fun q => decide (¬ o.2.1 86 q = -1)) (s.1 15 8).toInt.toNat (by omega)
        exact ⟨q, by omega, of_decide_eq_true q2⟩
    by_cases t4 : s.1 17 (12 + a'.toInt.toNat) = 4
    · rw [if_pos t4, if_pos t4]
      exact hj 2 (by omega)
    · rw [if_neg t4, if_neg t4]
      exact hj 1 (by omega)
  · rw [u, if_pos rfl, nm_eq, nm_eq, if_neg one_ne]
    exact go τ h1 h2
end P12Y2
