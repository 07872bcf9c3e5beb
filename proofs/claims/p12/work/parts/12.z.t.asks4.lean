/-! WHAT IS ASKED, 4: parts, sum, sets -/
section P12ZT
/-- a_14: sets -/
theorem a_14 {σC σM : gS} (h : IG σC σM) (x1 : Int32) : ∃ (oc : Int32 × gS) (om : Int32 × gS), fX9_sets σC x1 = some oc ∧ fX10_sets σM x1 = some om ∧ oc.1 = om.1 ∧ IG oc.2 om.2 := by
  obtain ⟨oc, om, eC, eM, hI⟩ := e_14 h x1
  obtain ⟨pc, pm, dC, dM, e, -⟩ := c_14 h.1 x1
  rw [eC] at dC
  rw [eM] at dM
  cases dC
  cases dM
  exact ⟨oc, om, eC, eM, e, hI⟩
/-- one picture against those before it -/
theorem parts_in {τ u : gS} (L : ∀ k l, k < 32 → l < 32 → (τ.1 138 k = τ.1 138 l ↔ u.1 32 k = u.1 32 l)) {c p : Int32} (p0 : 0 ≤ p.toInt) (p1 : p.toInt ≤ 11) {f g : Int32 × Int32 → Option (Int32 × gS)} {R : Int32 × gS → Int32 × gS → Prop} (go : ∀ c1 : Int32, Re (f (c1, p + 1)) (g (c1, p + 1)) R) : Re (lpc (S := Int32 × Int32) K9 (fun rec s => bX2_countParts_27 τ c p (fun a1 a2 => f (a1, a2)) (fun a3 a4 => rec (a3, a4)) s.1 s.2) (1, 0)) (lpc (S := Int32 × Int32) K9 (fun rec s => bX10_parts_21 u c p (fun a1 a2 => g (a1, a2)) (fun a3 a4 => rec (a3, a4)) s.1 s.2) (1, 0)) R := by
  have z0' := z0
  refine re_lpc (I := fun (n : Nat) (x y : Int32 × Int32) => n = (p.toInt - y.2.toInt).toNat ∧ 0 ≤ y.2.toInt ∧ y.2.toInt ≤ p.toInt ∧ x = y ∧ (y.1 = 0 ∨ y.1 = 1)) (fun F K n x y hs hrec => ?_) K9 K9 p.toInt.toNat (1, 0) (1, 0) ⟨by dsimp only; omega, by dsimp only; omega, by dsimp only; omega, rfl, .inr rfl⟩ (by unfold K9; omega) (by unfold K9; omega)
  obtain ⟨a, q⟩ := y
  obtain ⟨hn, q0, q1, ex, ha⟩ := hs
  subst ex
  dsimp only at hn q0 q1 ha ⊢
  unfold bX2_countParts_27 bX10_parts_21
  simp only [nm_eq]
  by_cases hk : p ≤ q
  · rw [if_pos hk, if_pos hk]
    by_cases z : a = 0
    · rw [if_pos z, if_pos z]; exact go c
    · rw [if_neg z, if_neg z]; exact go (c + 1)
  have hlt := q_gt hk
  have ei := i_inc (a := q) (c := 60) (by omega) (by omega) (by decide)
  have g1 := gb_of (i := q) (n := 32) q0 (by omega)
  have g2 := gb_of (i := p) (n := 32) p0 (by omega)
  have l := L q.toInt.toNat p.toInt.toNat (by omega) (by omega)
  have nx : ∀ a1 : Int32, (a1 = 0 ∨ a1 = 1) → Re (F (a1, q + 1)) (K (a1, q + 1)) R := fun a1 h1 => hrec (p.toInt - (q + 1).toInt).toNat _ _ (by omega) ⟨rfl, by dsimp only; omega, by dsimp only; omega, rfl, h1⟩
  rw [if_neg hk, if_neg hk, q_gd g1, q_gd g2, n_toInt, n_toInt]
  rcases ha with rfl | rfl
  · rw [if_pos rfl]
    by_cases z : τ.1 138 q.toInt.toNat = τ.1 138 p.toInt.toNat
    · rw [if_pos z]; exact nx 0 (.inl rfl)
    · rw [if_neg z]; exact nx 0 (.inl rfl)
  · rw [if_neg one_ne, q_gd g1, q_gd g2]
    by_cases z : τ.1 138 q.toInt.toNat = τ.1 138 p.toInt.toNat
    · rw [if_pos z, if_pos (l.mp z)]; exact nx 0 (.inl rfl)
    · rw [if_neg z, if_neg (fun y => z (l.mpr y))]; exact nx 1 (.inr rfl)
theorem a_15 {σC σM : gS} (h : IG σC σM) : ∃ (oc : Int32 × gS) (om : Int32 × gS), fX9_parts σC = some oc ∧ fX10_parts σM = some om ∧ oc.1 = om.1 ∧ IG oc.2 om.2 := by
  have G := gt_ig h
  obtain ⟨b9, b8, b7, b6⟩ := gt_n G
  have z0' := z0
  obtain ⟨τ, u, j1, j2, nx, L, -⟩ := join_m1 G
  have e7 : τ.1 3 ((1 : Int32).toNatClampNeg) = σM.1 15 7 := by rw [nx.1 3 (by decide) (by decide)]; exact (tr_n G.2.2.1).2.2.1
  have u15 : u.1 15 = σM.1 15 := nx.2.2.1 15 (by decide)
  have key : Re (lpc (S := Int32 × Int32) K9 (fun rec s => bX2_countParts_9 τ (fun a1 a2 => rec (a1, a2)) s.1 s.2) (0, 0)) (lpc (S := Int32 × Int32) K9 (fun rec s => bX10_parts_8 u (fun a1 a2 => rec (a1, a2)) s.1 s.2) (0, 0)) (fun a b => a.1 = b.1 ∧ a.2 = τ ∧ b.2 = u) := by
    refine re_lpc (I := fun (n : Nat) (x y : Int32 × Int32) => n = ((σM.1 15 7).toInt - y.2.toInt).toNat ∧ 0 ≤ y.2.toInt ∧ y.2.toInt ≤ (σM.1 15 7).toInt ∧ x = y) (fun f g n x y hs hrec => ?_) K9 K9 (σM.1 15 7).toInt.toNat (0, 0) (0, 0) ⟨by dsimp only; omega, by dsimp only; omega, by dsimp only; omega, rfl⟩ (by unfold K9; omega) (by unfold K9; omega)
    obtain ⟨c, p⟩ := y
    obtain ⟨hn, p0, p1, ex⟩ := hs
    subst ex
    dsimp only at hn p0 p1 ⊢
    unfold bX2_countParts_9 bX10_parts_8
    rw [q_gd (by decide), nm_eq, e7, q_bd (m_pictures u), u15]
    by_cases hk : σM.1 15 7 ≤ p
    · rw [if_pos hk, if_pos hk]
      exact ⟨_, _, rfl, rfl, rfl, rfl, rfl⟩
    have hlt := q_gt hk
    have ei := i_inc (a := p) (c := 60) (by omega) (by omega) (by decide)
    rw [if_neg hk, if_neg hk, nm_eq, nm_eq, nm_eq, nm_eq]
    exact parts_in L p0 (by omega) (fun c1 => hrec ((σM.1 15 7).toInt - (p + 1).toInt).toNat _ _ (by omega) ⟨rfl, by dsimp only; omega, by dsimp only; omega, rfl⟩)
  obtain ⟨oc, om, eC, eM, hI⟩ := g_15 h.1
  obtain ⟨a, b, ka, kb, k1, k2, k3⟩ := key
  have eC' := eC
  have eM' := eM
  unfold fX9_parts fX2_countParts at eC'
  unfold fX10_parts at eM'
  rw [q_bd j1, nm_eq, nm_eq, ka] at eC'
  rw [q_bd j2, nm_eq, nm_eq, kb] at eM'
  cases eC'
  cases eM'
  have e := NX_2 nx
  rw [← k2, ← k3] at e
  exact ⟨_, _, eC, eM, k1, NX_ig h hI e⟩
end P12ZT
