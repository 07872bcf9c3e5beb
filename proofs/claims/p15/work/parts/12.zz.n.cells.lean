/-! WHOLE, 7: what a tie adds to the equations, on both sides -/
section P12ZZN
/-- so much in one cell -/
def D9 (a b : Nat) (v : Int) (i j : Nat) : Int := if i = a ∧ j = b then v else 0
theorem D9_b {a b : Nat} {v B : Int} {i j : Nat} (h0 : -B ≤ v) (h1 : v ≤ B) : -B ≤ D9 a b v i j ∧ D9 a b v i j ≤ B := by
  unfold D9
  split <;> omega
theorem D9_neg {a b : Nat} {v : Int} {i j : Nat} : D9 a b (-v) i j = -D9 a b v i j := by
  unfold D9
  split <;> omega
theorem D9_n {n ax a : Nat} {v : Int} {i j : Nat} (hn : n ≤ 38) (hj : j ≤ n) : D9 a n v i j = D9 a (38 + ax) v i (cm9 n ax j) := by
  unfold D9 cm9
  by_cases h : j < n
  · rw [if_pos h, if_neg (by omega), if_neg (by omega)]
  · rw [if_neg h]
    by_cases z : i = a
    · rw [if_pos ⟨z, by omega⟩, if_pos ⟨z, rfl⟩]
    · rw [if_neg (fun y => z y.1), if_neg (fun y => z y.1)]
theorem D9_k {n ax a b : Nat} {v : Int} {i j : Nat} (hn : n ≤ 38) (hb : b < n) : D9 a b v i j = D9 a b v i (cm9 n ax j) := by
  unfold D9 cm9
  by_cases h : j < n
  · rw [if_pos h]
  · rw [if_neg h, if_neg (by omega), if_neg (by omega)]
theorem D9_o {n ax ay a : Nat} {v : Int} {i j : Nat} (hn : n ≤ 38) (h : ax ≠ ay) : D9 a (38 + ay) v i (cm9 n ax j) = 0 := by
  unfold D9 cm9
  by_cases y : j < n
  · rw [if_pos y, if_neg (by omega)]
  · rw [if_neg y, if_neg (by omega)]
def MR9 (t : gS) (X : Nat → Nat → Int) : Prop := ∀ i j : Nat, i < 38 → j < 40 → (mC9 t i j).toInt = X i j % 1000003
theorem m_adds9 {t : gS} {X : Nat → Nat → Int} (h : MR9 t X) {a b : Int32} {v : Int64} (a0 : 0 ≤ a.toInt) (a1 : a.toInt ≤ 37) (b0 : 0 ≤ b.toInt) (b1 : b.toInt ≤ 39) (v0 : -1000000000000 ≤ v.toInt) (v1 : v.toInt ≤ 1000000000000) : ∃ u : gS, (u.1 = t.1 ∧ MR9 u (fun i j => X i j + D9 a.toInt.toNat b.toInt.toNat v.toInt i j)) ∧ fX10_adds t a b v = some u := by
  obtain ⟨ga, ea⟩ := ix_40 a0 a1 b0 b1
  have e := h a.toInt.toNat b.toInt.toNat (by omega) (by omega)
  have e' : (t.2 31 (40 * a.toInt.toNat + b.toInt.toNat)).toInt = X a.toInt.toNat b.toInt.toNat % 1000003 := e
  have es : (t.2 31 (40 * a.toInt.toNat + b.toInt.toNat) + v).toInt = X a.toInt.toNat b.toInt.toNat % 1000003 + v.toInt := by rw [ladd_toInt (by omega) (by omega), e']
  obtain ⟨y, hy, y1⟩ := m_mod t (x := t.2 31 (40 * a.toInt.toNat + b.toInt.toNat) + v) (by omega) (by omega)
  unfold fX10_adds
  rw [q_gd ga, nm_eq, ea, q_bd hy, q_gd ga, nm_eq]
  refine ⟨gsL t 31 (40 * a.toInt.toNat + b.toInt.toNat) y, ⟨rfl, fun i j hi hj => ?_⟩, rfl⟩
  rw [mC9_w (by omega) hj]
  dsimp only
  unfold D9
  by_cases z : i = a.toInt.toNat ∧ j = b.toInt.toNat
  · rw [if_pos z, if_pos z, y1, es, z.1, z.2]
    omega
  · rw [if_neg z, if_neg z, h i j hi hj, Int.add_zero]
theorem l_32 {w x : Int32} {W X : Int} (hw : w.toInt = W) (hx : x.toInt = X) (w0 : 0 ≤ W) (w1 : W ≤ 9) : (w.toInt64 * x.toInt64).toInt = W * X ∧ -20000000000 ≤ W * X ∧ W * X ≤ 20000000000 := by
  have x0 := Int32.le_toInt x
  have x1 := Int32.toInt_lt x
  have k : -20000000000 ≤ W * X ∧ W * X ≤ 20000000000 := by
    have hW : W = 0 ∨ W = 1 ∨ W = 2 ∨ W = 3 ∨ W = 4 ∨ W = 5 ∨ W = 6 ∨ W = 7 ∨ W = 8 ∨ W = 9 := by omega
    rcases hW with rfl | rfl | rfl | rfl | rfl | rfl | rfl | rfl | rfl | rfl <;> omega
  refine ⟨?_, k⟩
  rw [lmul_toInt (by rw [i64_of, i64_of, hw, hx]; omega) (by rw [i64_of, i64_of, hw, hx]; omega), i64_of, i64_of, hw, hx]
/-- what addsTie adds, without and with another -/
def T9 (P : Nat) (w x y : Int) (i j : Nat) : Int := D9 P P w i j + D9 P 38 (w * x) i j + D9 P 39 (w * y) i j
theorem m_tieA {t : gS} {X : Nat → Nat → Int} (h : MR9 t X) {p w x y : Int32} {W A B : Int} (p0 : 0 ≤ p.toInt) (p1 : p.toInt ≤ 37) (hw : w.toInt = W) (w0 : 0 ≤ W) (w1 : W ≤ 9) (hx : x.toInt = A) (hy : y.toInt = B) : ∃ u : gS, (u.1 = t.1 ∧ MR9 u (fun i j => X i j + T9 p.toInt.toNat W A B i j)) ∧ fX10_addsTie t p (-1) w x y = some u := by
  have l38 : (38 : Int32).toInt = 38 := by decide
  have l39 : (39 : Int32).toInt = 39 := by decide
  obtain ⟨m1, m2, m3⟩ := l_32 hw hx w0 w1
  obtain ⟨n1, n2, n3⟩ := l_32 hw hy w0 w1
  have w64 : w.toInt64.toInt = W := by rw [i64_of, hw]
  obtain ⟨u1, ⟨a1, a2⟩, a3⟩ := m_adds9 h (a := p) (b := p) (v := w.toInt64) p0 p1 p0 (by omega) (by omega) (by omega)
  obtain ⟨u2, ⟨b1, b2⟩, b3⟩ := m_adds9 a2 (a := p) (b := 38) (v := w.toInt64 * x.toInt64) p0 p1 (by decide) (by decide) (by omega) (by omega)
  obtain ⟨u3, ⟨c1, c2⟩, c3⟩ := m_adds9 b2 (a := p) (b := 39) (v := w.toInt64 * y.toInt64) p0 p1 (by decide) (by decide) (by omega) (by omega)
  unfold fX10_addsTie jX10_addsTie_22
  rw [q_bd a3, if_pos rfl, q_bd b3, q_bd c3]
  refine ⟨u3, ⟨c1.trans (b1.trans a1), fun i j hi hj => ?_⟩, rfl⟩
  rw [c2 i j hi hj]
  unfold T9
  rw [m1, n1, w64, show (38 : Int32).toInt.toNat = 38 by decide, show (39 : Int32).toInt.toNat = 39 by decide]
  congr 1
  dsimp only
  omega
theorem m_tieB {t : gS} {X : Nat → Nat → Int} (h : MR9 t X) {p q w x y : Int32} {W A B : Int} (p0 : 0 ≤ p.toInt) (p1 : p.toInt ≤ 37) (q0 : 0 ≤ q.toInt) (q1 : q.toInt ≤ 37) (hw : w.toInt = W) (w0 : 0 ≤ W) (w1 : W ≤ 9) (hx : x.toInt = A) (hy : y.toInt = B) : ∃ u : gS, (u.1 = t.1 ∧ MR9 u (fun i j => X i j + (T9 p.toInt.toNat W A B i j + D9 p.toInt.toNat q.toInt.toNat (-W) i j))) ∧ fX10_addsTie t p q w x y = some u := by
  have l38 : (38 : Int32).toInt = 38 := by decide
  have l39 : (39 : Int32).toInt = 39 := by decide
  obtain ⟨m1, m2, m3⟩ := l_32 hw hx w0 w1
  obtain ⟨n1, n2, n3⟩ := l_32 hw hy w0 w1
  have w64 : w.toInt64.toInt = W := by rw [i64_of, hw]
  have wn : (-w).toInt64.toInt = -W := by rw [i64_of, ineg_toInt (by omega), hw]
  have qn : ¬ q = -1 := fun z => by rw [z] at q0; exact absurd q0 (by decide)
  obtain ⟨u1, ⟨a1, a2⟩, a3⟩ := m_adds9 h (a := p) (b := p) (v := w.toInt64) p0 p1 p0 (by omega) (by omega) (by omega)
  obtain ⟨u0, ⟨d1, d2⟩, d3⟩ := m_adds9 a2 (a := p) (b := q) (v := (-w).toInt64) p0 p1 q0 (by omega) (by omega) (by omega)
  obtain ⟨u2, ⟨b1, b2⟩, b3⟩ := m_adds9 d2 (a := p) (b := 38) (v := w.toInt64 * x.toInt64) p0 p1 (by decide) (by decide) (by omega) (by omega)
  obtain ⟨u3, ⟨c1, c2⟩, c3⟩ := m_adds9 b2 (a := p) (b := 39) (v := w.toInt64 * y.toInt64) p0 p1 (by decide) (by decide) (by omega) (by omega)
  unfold fX10_addsTie jX10_addsTie_22
  rw [q_bd a3, if_neg qn, q_bd d3, q_bd b3, q_bd c3]
  refine ⟨u3, ⟨c1.trans (b1.trans (d1.trans a1)), fun i j hi hj => ?_⟩, rfl⟩
  rw [c2 i j hi hj]
  unfold T9
  rw [m1, n1, w64, wn, show (38 : Int32).toInt.toNat = 38 by decide, show (39 : Int32).toInt.toNat = 39 by decide]
  congr 1
  dsimp only
  omega
/-- the class's cells: exact numbers, not too great -/
def KR9 (n : Nat) (B : Int) (τ : gS) (Y : Nat → Nat → Int) : Prop := ∀ i j : Nat, i < n → j ≤ n → (kC9 τ i j).toInt = Y i j ∧ -B ≤ Y i j ∧ Y i j ≤ B
theorem k_cell9 {n : Nat} {B C : Int} {τ : gS} {Y : Nat → Nat → Int} (h : KR9 n B τ Y) {a b : Nat} {v : Int64} (ha : a < n) (hb : b ≤ n) (v0 : -C ≤ v.toInt) (v1 : v.toInt ≤ C) (hB : B + C ≤ 1000000000000000) : KR9 n (B + C) (gsL τ (99 + a) b (τ.2 (99 + a) b + v)) (fun i j => Y i j + D9 a b v.toInt i j) := fun i j hi hj => by
  have d := D9_b (a := a) (b := b) (i := i) (j := j) v0 v1
  have y := h i j hi hj
  refine ⟨?_, by dsimp only; omega, by dsimp only; omega⟩
  rw [kC9_w]
  dsimp only
  have q := h a b ha hb
  have q' : (τ.2 (99 + a) b).toInt = Y a b := q.1
  unfold D9
  by_cases z : i = a ∧ j = b
  · rw [if_pos z, if_pos z, ladd_toInt (by omega) (by omega), q', z.1, z.2]
  · rw [if_neg z, if_neg z, y.1, Int.add_zero]
theorem k_hold9 {n : Nat} {B : Int} {τ : gS} {Y : Nat → Nat → Int} (h : KR9 n B τ Y) (n38 : n ≤ 38) (hn : (τ.1 96 4).toInt = n) {p w x : Int32} {L : Nat} {W A : Int} (p0 : 0 ≤ p.toInt) (p1 : p.toInt ≤ 37) (hL : (τ.1 97 p.toInt.toNat).toInt = L) (Ln : L < n) (hw : w.toInt = W) (w0 : 0 ≤ W) (w1 : W ≤ 9) (hx : x.toInt = A) (hB : B + 40000000000 ≤ 1000000000000000) : ∃ υ : gS, (υ.1 = τ.1 ∧ KR9 n (B + 40000000000) υ (fun i j => Y i j + (D9 L L W i j + D9 L n (W * A) i j))) ∧ fX4_addHold τ p w x = some υ := by
  obtain ⟨m1, m2, m3⟩ := l_32 hw hx w0 w1
  have w64 : w.toInt64.toInt = W := by rw [i64_of, hw]
  have lne : ¬ τ.1 97 p.toInt.toNat = -1 := fun z => by rw [z] at hL; have l : (-1 : Int32).toInt = -1 := by decide
                                                        omega
  have lN : (τ.1 97 p.toInt.toNat).toInt.toNat = L := by omega
  have nN : (τ.1 96 4).toInt.toNat = n := by omega
  unfold fX4_addHold
  rw [q_gd (gb_of p0 (by omega)), nm_eq, nm_eq, n_toInt, if_neg lne, q_gd (gb_of (by omega) (by omega)), q_gd (gb_of (by omega) (by omega)), nm_eq, q_gd (gb_of (by omega) (by omega)), nm_eq, n_toInt, lN, q_gd (gb_of (by omega) (by omega))]
  have a2 := k_cell9 h (a := L) (b := L) (v := w.toInt64) (C := 20000000000) Ln (by omega) (by omega) (by omega) (by omega)
  obtain ⟨μ, hμ⟩ : ∃ μ, gsL τ (99 + L) L (τ.2 (99 + L) L + w.toInt64) = μ := ⟨_, rfl⟩
  have μ1 : μ.1 = τ.1 := by rw [← hμ]; rfl
  rw [hμ] at a2
  have b2 := k_cell9 a2 (a := L) (b := n) (v := w.toInt64 * x.toInt64) (C := 20000000000) Ln (Nat.le_refl _) (by omega) (by omega) (by omega)
  rw [hμ, μ1, q_gd (gb_of (by omega) (by omega)), nm_eq, q_gd (gb_of (by omega) (by omega)), nm_eq, n_toInt, nN]
  refine ⟨gsL μ (99 + L) n (μ.2 (99 + L) n + w.toInt64 * x.toInt64), ⟨μ1, fun i j hi hj => ?_⟩, rfl⟩
  have := b2 i j hi hj
  dsimp only at this ⊢
  rw [m1, w64] at this
  exact ⟨by rw [this.1]; omega, by omega, by omega⟩
/-- what addTerm adds -/
def S9 (n L M : Nat) (w a a' : Int) (i j : Nat) : Int := D9 L L w i j + D9 L n (w * a) i j + D9 M M w i j + D9 M n (w * a') i j + D9 L M (-w) i j + D9 M L (-w) i j
theorem k_term9 {n : Nat} {B : Int} {τ : gS} {Y : Nat → Nat → Int} (h : KR9 n B τ Y) (n38 : n ≤ 38) (hn : (τ.1 96 4).toInt = n) {p q w x : Int32} {L M : Nat} {W A A' : Int} (p0 : 0 ≤ p.toInt) (p1 : p.toInt ≤ 37) (q0 : 0 ≤ q.toInt) (q1 : q.toInt ≤ 37) (hL : (τ.1 97 p.toInt.toNat).toInt = L) (Ln : L < n) (hM : (τ.1 97 q.toInt.toNat).toInt = M) (Mn : M < n) (hw : w.toInt = W) (w0 : 0 ≤ W) (w1 : W ≤ 9) (hx : x.toInt = A) (nx : (-x).toInt = A') (hB : B + 120000000000 ≤ 1000000000000000) : ∃ υ : gS, (υ.1 = τ.1 ∧ KR9 n (B + 120000000000) υ (fun i j => Y i j + S9 n L M W A A' i j)) ∧ fX4_addTerm τ p q w x = some υ := by
  have w64 : w.toInt64.toInt = W := by rw [i64_of, hw]
  have l1 : (-1 : Int32).toInt = -1 := by decide
  have Lne : ¬ τ.1 97 p.toInt.toNat = -1 := fun z => by rw [z] at hL; omega
  have Mne : ¬ τ.1 97 q.toInt.toNat = -1 := fun z => by rw [z] at hM; omega
  have LN : (τ.1 97 p.toInt.toNat).toInt.toNat = L := by omega
  have MN : (τ.1 97 q.toInt.toNat).toInt.toNat = M := by omega
  have gL38 := gb_of (i := τ.1 97 p.toInt.toNat) (n := 38) (by omega) (by omega)
  have gL39 := gb_of (i := τ.1 97 p.toInt.toNat) (n := 39) (by omega) (by omega)
  have gM38 := gb_of (i := τ.1 97 q.toInt.toNat) (n := 38) (by omega) (by omega)
  have gM39 := gb_of (i := τ.1 97 q.toInt.toNat) (n := 39) (by omega) (by omega)
  obtain ⟨u1, ⟨a1, a2⟩, a3⟩ := k_hold9 h n38 hn p0 p1 hL Ln hw w0 w1 hx (by omega)
  obtain ⟨u2, ⟨b1, b2⟩, b3⟩ := k_hold9 a2 n38 (by rw [a1]; exact hn) (p := q) q0 q1 (by rw [a1]; exact hM) Mn hw w0 w1 nx (by omega)
  have wm : ∀ v : Int64, v - w.toInt64 = v + -w.toInt64 := fun v => Int64.sub_eq_add_neg v _
  have wn : (-w.toInt64).toInt = -W := by
    have : -w.toInt64 = 0 - w.toInt64 := by rw [wm, Int64.zero_add]
    have l0 : (0 : Int64).toInt = 0 := by decide
    rw [this, lsub_toInt (by omega) (by omega), l0, w64]
    omega
  unfold fX4_addTerm
  rw [q_gd (gb_of p0 (by omega)), nm_eq, nm_eq, q_gd (gb_of q0 (by omega)), nm_eq, nm_eq, n_toInt, n_toInt, if_neg Lne, if_neg Mne, q_bd a3, q_bd b3, q_gd gL38, q_gd gM39, nm_eq, q_gd gM39, nm_eq, q_gd gM38, q_gd gL39, nm_eq, q_gd gL39, nm_eq, n_toInt, n_toInt, LN, MN, wm, wm]
  have c2 := k_cell9 b2 (a := L) (b := M) (v := -w.toInt64) (C := 20000000000) Ln (by omega) (by omega) (by omega) (by omega)
  obtain ⟨μ, hμ⟩ : ∃ μ, gsL u2 (99 + L) M (u2.2 (99 + L) M + -w.toInt64) = μ := ⟨_, rfl⟩
  have μ1 : μ.1 = τ.1 := by rw [← hμ]; exact b1.trans a1
  rw [hμ] at c2 ⊢
  have d2 := k_cell9 c2 (a := M) (b := L) (v := -w.toInt64) (C := 20000000000) Mn (by omega) (by omega) (by omega) (by omega)
  refine ⟨gsL μ (99 + M) L (μ.2 (99 + M) L + -w.toInt64), ⟨μ1, fun i j hi hj => ?_⟩, rfl⟩
  have := d2 i j hi hj
  dsimp only at this ⊢
  rw [wn] at this
  unfold S9
  exact ⟨by rw [this.1]; omega, by omega, by omega⟩
end P12ZZN
