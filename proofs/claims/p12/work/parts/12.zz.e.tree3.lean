/-! THE TREE, 3: as a whole; tree -/
section P12ZZE
theorem cN_two {c : Nat → Bool} {p q : Nat} (hp : c p = true) (hq : c q = true) (lt : p < q) : ∀ n : Nat, q < n → 2 ≤ cN c n
  | 0, h => absurd h (Nat.not_lt_zero _)
  | n + 1, h => by
    unfold cN
    by_cases z : q = n
    · have := cN_pos (c := c) (p := p) hp n (by omega)
      rw [← z, if_pos hq, z]
      omega
    · have := cN_two hp hq lt n (by omega)
      omega
theorem cN_tail {c : Nat → Bool} {m : Nat} : ∀ d : Nat, (∀ v, m ≤ v → v < m + d → c v = true) → cN c (m + d) = cN c m + d
  | 0, _ => rfl
  | d + 1, h => by
    have ih := cN_tail (c := c) (m := m) d (fun v h1 h2 => h v h1 (by omega))
    show cN c (m + d) + (if c (m + d) = true then 1 else 0) = _
    rw [if_pos (h (m + d) (by omega) (by omega)), ih]
    omega
/-- behind n7 - 1 ties all is one part -/
theorem one_part {s τ κ t : gS} {k : Int32} (b : 0 ≤ (s.1 15 7).toInt ∧ (s.1 15 7).toInt ≤ 12) (h : TGr s τ κ t k) (hk : (s.1 15 7).toInt ≤ k.toInt + 1) {i j : Nat} (hi : (i : Int) < (s.1 15 7).toInt) (hj : (j : Int) < (s.1 15 7).toInt) : t.1 35 i = t.1 35 j := by
  obtain ⟨h1, h2, h3, h4, h5, h6, h7, h8, h9, h10, h11, h12, h13⟩ := h
  refine Decidable.byContradiction (fun ne => ?_)
  have ti := h8 i (by omega)
  have tj := h8 j (by omega)
  have li := h11 i hi
  have lj := h11 j hj
  have ne' : (t.1 35 i).toInt.toNat ≠ (t.1 35 j).toInt.toNat := fun z => ne (Int32.toInt_inj.mp (by omega))
  have ci := Tv_is h8 (j := i) (by omega)
  have cj := Tv_is h8 (j := j) (by omega)
  obtain ⟨m, hm⟩ : ∃ m, m = (s.1 15 7).toInt.toNat := ⟨_, rfl⟩
  obtain ⟨c, hc⟩ : ∃ c : Nat → Bool, c = fun v => decide (∃ j : Fin 12, t.1 35 j.val = Int32.ofNat v) := ⟨_, rfl⟩
  have e : nTv t = cN c 12 := by rw [hc]; rfl
  have tl := cN_tail (c := c) (m := m) (12 - m) (fun v v0 v1 => by
    rw [hc]
    exact decide_eq_true ⟨⟨v, by omega⟩, h12 v (by omega) (by omega)⟩)
  rw [show m + (12 - m) = 12 by omega] at tl
  have two : 2 ≤ cN c m := by
    rcases Nat.lt_or_gt_of_ne ne' with lt | gt
    · exact cN_two (p := (t.1 35 i).toInt.toNat) (q := (t.1 35 j).toInt.toNat) (by rw [hc]; exact ci) (by rw [hc]; exact cj) lt m (by omega)
    · exact cN_two (p := (t.1 35 j).toInt.toNat) (q := (t.1 35 i).toInt.toNat) (by rw [hc]; exact cj) (by rw [hc]; exact ci) gt m (by omega)
  omega
theorem idle {s t : gS} {k : Int32} (b : 0 ≤ (s.1 15 7).toInt ∧ (s.1 15 7).toInt ≤ 12) (t15 : t.1 15 = s.1 15) (eq : ∀ i j : Nat, (i : Int) < (s.1 15 7).toInt → (j : Int) < (s.1 15 7).toInt → t.1 35 i = t.1 35 j) {g : Int32 × Int32 × gS → Option (Int32 × gS)} {v : Int32 × gS} (hg : g (k, 0, t) = some v) : lpc (S := Int32 × Int32 × Int32) K9 (fun rec x => bX10_treeOf_37 t k (fun a1 a2 σ1 => g (a1, a2, σ1)) (fun a3 a4 a5 => rec (a3, a4, a5)) x.1 x.2.1 x.2.2) (-1, -1, 0) = some v := by
  have z0' := z0
  have l1 : (1 : Int32).toInt = 1 := by decide
  have key : Ok (lpc (S := Int32 × Int32 × Int32) K9 (fun rec x => bX10_treeOf_37 t k (fun a1 a2 σ1 => g (a1, a2, σ1)) (fun a3 a4 a5 => rec (a3, a4, a5)) x.1 x.2.1 x.2.2) (-1, -1, 0)) (fun o => o = v) := by
    refine ok_lpc (I := fun (n : Nat) (y : Int32 × Int32 × Int32) => n = ((s.1 15 7).toInt - y.2.2.toInt).toNat ∧ 0 ≤ y.2.2.toInt ∧ y.2.2.toInt ≤ (s.1 15 7).toInt ∧ y.1 = -1) (fun G n y hs hrec => ?_) K9 (s.1 15 7).toInt.toNat (-1, -1, 0) ⟨by dsimp only; omega, by dsimp only; omega, by dsimp only; omega, rfl⟩ (by unfold K9; omega)
    obtain ⟨a3, a4, i⟩ := y
    obtain ⟨hn, i0, i1, e3⟩ := hs
    dsimp only at hn i0 i1 e3 ⊢
    subst e3
    unfold bX10_treeOf_37
    rw [q_bd (m_pictures t), t15]
    refine ok_ite.mpr ⟨fun hk => ?_, fun hk => ok_nm.mpr ?_⟩
    · rw [if_pos rfl]
      unfold jX10_treeOf_144
      rw [nm_eq, if_pos rfl]
      show Ok (g (k, 0, t)) _
      rw [hg]
      exact ok_some.mpr rfl
    have hlt := q_gt hk
    have e1 := i_inc (a := i) (c := 60) (by omega) (by omega) (by decide)
    refine ok_lpc (I := fun (n : Nat) (y : Int32 × Int32 × Int32) => n = ((s.1 15 7).toInt - y.2.2.toInt).toNat ∧ i.toInt + 1 ≤ y.2.2.toInt ∧ y.2.2.toInt ≤ (s.1 15 7).toInt ∧ y.1 = -1) (fun G2 n y hs hrec2 => ?_) K9 ((s.1 15 7).toInt - (i + 1).toInt).toNat (-1, a4, i + 1) ⟨rfl, by dsimp only; omega, by dsimp only; omega, rfl⟩ (by unfold K9; omega)
    obtain ⟨a3, a4, j⟩ := y
    obtain ⟨hm, j0, j1, e3⟩ := hs
    dsimp only at hm j0 j1 e3 ⊢
    subst e3
    unfold bX10_treeOf_52
    rw [q_bd (m_pictures t), t15]
    refine ok_ite.mpr ⟨fun hj => ok_nm.mpr ?_, fun hj => ?_⟩
    · exact hrec ((s.1 15 7).toInt - (i + 1).toInt).toNat (-1, a4, i + 1) (by omega) ⟨rfl, by dsimp only; omega, by dsimp only; omega, rfl⟩
    have hlt2 := q_gt hj
    have e2 := i_inc (a := j) (c := 60) (by omega) (by omega) (by decide)
    rw [q_gd (gb_of i0 (by omega)), nm_eq, q_gd (gb_of (by omega) (by omega)), nm_eq, n_toInt, n_toInt, if_pos (eq _ _ (by omega) (by omega)), nm_eq]
    exact hrec2 ((s.1 15 7).toInt - (j + 1).toInt).toNat (-1, a4, j + 1) (by omega) ⟨rfl, by dsimp only; omega, by dsimp only; omega, rfl⟩
  obtain ⟨o, e, ho⟩ := key
  rw [e, ho]
set_option maxHeartbeats 1000000 in
theorem tree_2 {σ s τ t0 : gS} (hG : GT σ s) (v : SV σ s τ) (f : ∀ j, j ≠ 34 → j ≠ 35 → j ≠ 36 → t0.1 j = s.1 j) (f2 : t0.2 = s.2) (jM : JM t0) : Re (fX7_growTree τ) (fX10_treeOf t0) (fun κ o => TGr s τ κ o.2 o.1) := by
  obtain ⟨b9, b8, b7, b6⟩ := gt_n hG
  have z0' := z0
  have l1 : (1 : Int32).toInt = 1 := by decide
  have l12 : (12 : Int32).toInt = 12 := by decide
  have e7 : τ.1 3 1 = s.1 15 7 := by rw [v.1.1 3 (by decide)]; exact (tr_n hG.2.2.1).2.2.1
  unfold fX7_growTree fX10_treeOf
  rw [nm_eq, nm_eq, nm_eq]
  refine re_lpc (I := fun (n : Nat) (x y : Int32 × gS) => n = (12 - y.1.toInt).toNat ∧ 0 ≤ y.1.toInt ∧ y.1.toInt ≤ 12 ∧ x.1 = y.1 ∧ (∀ j, j ≠ 140 → j ≠ 193 → x.2.1 j = τ.1 j) ∧ x.2.1 140 10 = 0 ∧ (∀ j, j ≠ 35 → y.2.1 j = t0.1 j) ∧ y.2.2 = t0.2 ∧ JM y.2 ∧ ∀ i : Nat, (i : Int) < y.1.toInt → x.2.1 193 i = Int32.ofNat i ∧ y.2.1 35 i = Int32.ofNat i) (fun F G n x y hs hrec => ?_) K9 K9 12 (0, gsI τ 140 10 0) (0, t0) ⟨by dsimp only; omega, by dsimp only; omega, by dsimp only; omega, rfl, fun j j1 j2 => gsI_row j1, by dsimp only; rw [gsI_at, if_pos rfl], fun _ _ => rfl, rfl, jM, fun i hi => absurd hi (by dsimp only; omega)⟩ (by unfold K9; omega) (by unfold K9; omega)
  obtain ⟨i', κ⟩ := x
  obtain ⟨i, t⟩ := y
  obtain ⟨hn, i0, i1, ei, p1, p2, p3, p4, p5, p6⟩ := hs
  dsimp only at hn i0 i1 ei p1 p2 p3 p4 p5 p6 ⊢
  subst ei
  unfold bX7_growTree_7 bX10_treeOf_2
  by_cases hk : (12 : Int32) ≤ i'
  rotate_left
  · have hlt := q_gt hk
    have e1 := i_inc (a := i') (c := 60) (by omega) (by omega) (by decide)
    have gi := gb_of (i := i') (n := 12) i0 (by omega)
    rw [if_neg hk, if_neg hk]
    simp only [nm_eq, q_gd gi]
    rw [n_toInt]
    refine hrec (12 - (i' + 1).toInt).toNat (i' + 1, _) (i' + 1, _) (by omega) ⟨rfl, by dsimp only; omega, by dsimp only; omega, rfl, fun j j1 j2 => (gsI_row j2).trans (p1 j j1 j2), by dsimp only; rw [gsI_row (by decide)]; exact p2, fun j j1 => (gsI_row j1).trans (p3 j j1), p4, JM_w p5 (Int32.le_toInt _) (Int32.toInt_le _), fun c hc => ?_⟩
    dsimp only at hc ⊢
    rw [gsI_at, gsI_at]
    by_cases z : c = i'.toInt.toNat
    · rw [if_pos z, if_pos z, z]
      exact ⟨(i32_of i0).symm, (i32_of i0).symm⟩
    · rw [if_neg z, if_neg z]
      exact p6 c (by omega)
  have hk' := Int32.le_iff_toInt_le.mp hk
  rw [if_pos hk, if_pos hk, nm_eq, nm_eq, nm_eq]
  have lab : ∀ c : Nat, c < 12 → κ.1 193 c = Int32.ofNat c ∧ t.1 35 c = Int32.ofNat c := fun c hc => p6 c (by omega)
  have tv : Tv t := fun j hj => by
    rw [(lab j hj).2, iofNat_toInt (by omega)]
    omega
  have st0 : TGr s τ κ t 0 := ⟨fun j j1 j2 _ _ => p1 j j1 j2, fun j j1 j2 j3 => (p3 j j2).trans (f j j1 j2 j3), p4.trans f2, p5, p2, by decide, fun c hc => by rw [(lab c hc).1, (lab c hc).2], tv, by
    have : nTv t ≤ 12 := cN_le _ _
    omega, by
    have := tv 0 (by decide)
    exact cN_pos (p := (t.1 35 0).toInt.toNat) (Tv_is tv (by decide)) 12 (by omega), fun c hc => by rw [(lab c (by omega)).2, iofNat_toInt (by omega)]; exact hc, fun c _ hc => (lab c hc).2, fun c hc => absurd hc (by omega)⟩
  clear hrec hn hk hk' p1 p2 p3 p4 p5 p6 lab tv
  refine re_lpc2 (E := fun (y : Int32 × Int32 × gS) (o : Int32 × gS) => y.2.1 = 0 ∧ o = (y.1, y.2.2)) (I := fun (n : Nat) (x : Int32 × gS) (y : Int32 × Int32 × gS) => n = (12 - y.1.toInt).toNat ∧ x.1 = y.1 + 1 ∧ y.2.1 = 1 ∧ TGr s τ x.2 y.2.2 y.1) (fun G y o he => ?_) (fun F G n x y hs he hrec => ?_) K9 K9 12 (1, κ) (0, 1, t) ⟨by dsimp only; omega, by dsimp only; decide, rfl, st0⟩ (by unfold K9; omega) (by unfold K9; omega)
  · unfold bX10_treeOf_25
    rw [if_pos he.1, he.2]
  clear st0
  obtain ⟨a, κ⟩ := x
  obtain ⟨k, w, t⟩ := y
  obtain ⟨hn, ea, ew, T⟩ := hs
  dsimp only at hn ea ew T ⊢
  subst ea ew
  have T' := T
  obtain ⟨h1, h2, h3, h4, h5, h6, h7, h8, h9, h10, h11, h12, h13⟩ := T
  have ek : (k + 1).toInt = k.toInt + 1 := i_inc (c := 12) (by omega) (by omega) (by decide)
  have e3 : κ.1 3 ((1 : Int32).toNatClampNeg) = s.1 15 7 := by rw [h1 3 (by decide) (by decide) (by decide) (by decide)]; exact e7
  have g0 : G (k, 0, t) = some (k, t) := he (k, 0, t) (k, t) ⟨rfl, rfl⟩
  unfold bX7_growTree_28 bX10_treeOf_25
  rw [q_gd (by decide), nm_eq, e3, if_neg one_ne, nm_eq, nm_eq, nm_eq]
  by_cases hk : s.1 15 7 ≤ k + 1
  · have hk' := Int32.le_iff_toInt_le.mp hk
    rw [if_pos hk]
    exact ⟨κ, (k, t), rfl, idle b7 (h2 15 (by decide) (by decide) (by decide)) (fun i j hi hj => one_part b7 T' (by omega) hi hj) g0, T'⟩
  have hlt := q_gt hk
  rw [if_neg hk]
  obtain ⟨x, o, ex, eo, hr⟩ := round_t (g := G) (R := fun a o => Re (if a.1 = 0 then some a.2 else F (k + 1 + 1, a.2)) (some o) (fun κ o => TGr s τ κ o.2 o.1)) hG v.2.2 e7 T' ⟨_, _, rfl, g0, κ, (k, t), by rw [if_pos rfl], rfl, T'⟩ (fun κ' t' T2 => by
    obtain ⟨u, o, eu, eo, hf⟩ := hrec (12 - (k + 1).toInt).toNat (k + 1 + 1, κ') (k + 1, 1, t') (by omega) ⟨rfl, rfl, rfl, T2⟩
    exact ⟨_, o, rfl, eo, u, o, by rw [if_neg one_ne]; exact eu, rfl, hf⟩)
  rw [q_bd2 ex, nm_eq]
  obtain ⟨u, o', eu, eo', hf⟩ := hr
  cases eo'
  exact ⟨u, o, eu, eo, hf⟩
theorem a_26 {σC σM : gS} (h : IG σC σM) (x1 : Int32) : ∃ (oc : Int32 × gS) (om : Int32 × gS), fX9_tree σC x1 = some oc ∧ fX10_tree σM x1 = some om ∧ oc.1 = om.1 ∧ IG oc.2 om.2 := by
  obtain ⟨oc, om, eC, eM, hI⟩ := e_26 h x1
  refine ⟨oc, om, eC, eM, ?_, hI⟩
  have G := gt_ig h
  obtain ⟨b9, b8, b7, b6⟩ := gt_n G
  have z0' := z0
  have l1 : (1 : Int32).toInt = 1 := by decide
  have lm : (-1 : Int32).toInt = -1 := by decide
  obtain ⟨τ, eτ, v⟩ := k_survey G
  obtain ⟨κ, o, eκ, eo, T⟩ := tree_2 G v (fun _ _ _ _ => rfl) rfl h.1.2.1
  obtain ⟨k, t⟩ := o
  obtain ⟨h1, h2, h3, h4, h5, h6, h7, h8, h9, h10, h11, h12, h13⟩ := T
  dsimp only at h1 h2 h3 h4 h5 h6 h7 h8 h9 h10 h11 h12 h13
  unfold fX9_tree at eC
  unfold fX10_tree at eM
  rw [q_bd eτ, q_bd eκ, h5] at eC
  rw [q_bd2 eo, nm_eq] at eM
  by_cases z : x1 = -1
  · rw [if_pos z] at eC eM
    cases eC; cases eM
    rfl
  rw [if_neg z] at eC eM
  have ek : (k - 1).toInt = k.toInt - 1 := by rw [isub_toInt] <;> omega
  rcases lt_or x1 0 with ⟨c, c'⟩ | ⟨c, c'⟩
  · rw [if_pos c] at eC
    rcases in_32 t x1 0 (k - 1) with ⟨d, d1, d2⟩ | ⟨d, d1⟩
    · omega
    rw [q_bd (show fX10_isIn t x1.toInt64 0 (k - 1).toInt64 = some 0 from d), if_pos rfl] at eM
    cases eC; cases eM
    rfl
  rw [if_neg c] at eC
  rcases lt_or x1 k with ⟨c2, c2'⟩ | ⟨c2, c2'⟩
  · have g1 := gb_of (i := x1) (n := 12) (by omega) (by omega)
    rw [if_pos c2, q_gd g1, nm_eq, q_gd g1, nm_eq, n_toInt] at eC
    rcases in_32 t x1 0 (k - 1) with ⟨d, d1, d2⟩ | ⟨d, d1⟩
    rotate_left
    · omega
    rw [q_bd (show fX10_isIn t x1.toInt64 0 (k - 1).toInt64 = some 1 from d), if_neg one_ne, q_gd g1, nm_eq, n_toInt, (h13 x1.toInt.toNat (by omega)).1] at eM
    cases eC; cases eM
    rfl
  · rw [if_neg c2] at eC
    rcases in_32 t x1 0 (k - 1) with ⟨d, d1, d2⟩ | ⟨d, d1⟩
    · omega
    rw [q_bd (show fX10_isIn t x1.toInt64 0 (k - 1).toInt64 = some 0 from d), if_pos rfl] at eM
    cases eC; cases eM
    rfl
end P12ZZE
