/-! THE GEOMETRY: what stands, on both sides; turned, put, misses, doubts alike -/
section P12H
noncomputable def MSd (σC σM : gS) (r : Nat) : Prop := σC.1 13 r = σM.1 24 (120 + 2 * r) ∧ σC.1 14 r = σM.1 24 (120 + (2 * r + 1)) ∧ (0 ≤ (σM.1 24 (120 + 2 * r)).toInt ∧ (σM.1 24 (120 + 2 * r)).toInt ≤ 9999) ∧ (0 ≤ (σM.1 24 (120 + (2 * r + 1))).toInt ∧ (σM.1 24 (120 + (2 * r + 1))).toInt ≤ 9999)
/-- sets, turns, places, drifts, rows dropped, what was measured -/
noncomputable def GE (σC σM : gS) : Prop := σC.1 47 1 = σM.1 0 36 ∧ (0 ≤ (σM.1 0 36).toInt ∧ (σM.1 0 36).toInt ≤ 3) ∧ (∀ p : Nat, (p : Int) < (σM.1 15 7).toInt → σC.1 48 p = σM.1 27 p ∧ (0 ≤ (σM.1 27 p).toInt ∧ (σM.1 27 p).toInt ≤ 3)) ∧ (∀ a p : Nat, a < 2 → (p : Int) < (σM.1 15 7).toInt → σC.1 (50 + a) p = σM.1 28 (38 * a + p)) ∧ (∀ a q : Nat, a < 2 → (q : Int) < (σM.1 15 8).toInt → σC.1 (53 + a) q = σM.1 28 (38 * a + (12 + q))) ∧ (∀ a s : Nat, a < 2 → (s : Int) < (σM.1 15 6).toInt → σC.1 (56 + a) s = σM.1 28 (38 * a + (32 + s))) ∧ (∀ r : Nat, (r : Int) < (σM.1 15 9).toInt → σC.1 58 r = σM.1 26 r ∧ (σM.1 26 r = 0 ∨ σM.1 26 r = 1)) ∧ ∀ r : Nat, (r : Int) < (σM.1 15 9).toInt → MSd σC σM r
theorem i_4 {t : Int32} (h0 : 0 ≤ t.toInt) (h1 : t.toInt ≤ 3) : t = 0 ∨ t = 1 ∨ t = 2 ∨ t = 3 := by
  have l1 : (1 : Int32).toInt = 1 := by decide
  have l2 : (2 : Int32).toInt = 2 := by decide
  have l3 : (3 : Int32).toInt = 3 := by decide
  have z0' := z0
  by_cases e0 : t.toInt = 0
  · exact .inl (Int32.toInt_inj.mp (by omega))
  by_cases e1 : t.toInt = 1
  · exact .inr (.inl (Int32.toInt_inj.mp (by omega)))
  by_cases e2 : t.toInt = 2
  · exact .inr (.inr (.inl (Int32.toInt_inj.mp (by omega))))
  · exact .inr (.inr (.inr (Int32.toInt_inj.mp (by omega))))
theorem ax_2 {a : Int32} (h0 : 0 ≤ a.toInt) (h1 : a.toInt ≤ 1) : a = 0 ∨ a = 1 := by
  have l1 : (1 : Int32).toInt = 1 := by decide
  have z0' := z0
  by_cases e0 : a.toInt = 0
  · exact .inl (Int32.toInt_inj.mp (by omega))
  · exact .inr (Int32.toInt_inj.mp (by omega))
/-- what is TURNED: by a turn and an axis -/
noncomputable def tV (t a u v : Int32) : Int32 := if a = 0 then (if t = 0 then 100 * u else if t = 1 then -(100 * v) else if t = 2 then -(100 * u) else 100 * v) else (if t = 0 then 100 * v else if t = 1 then 100 * u else if t = 2 then -(100 * v) else -(100 * u))
theorem c_turnedBy {σ : gS} {t r a : Int32} (h0 : 0 ≤ t.toInt) (h1 : t.toInt ≤ 3) (a0 : 0 ≤ a.toInt) (a1 : a.toInt ≤ 1) (r0 : 0 ≤ r.toInt) (r1 : r.toInt ≤ 59) : fX8_turnedBy_2 σ t r a = some (tV t a (σ.1 13 r.toInt.toNat) (σ.1 14 r.toInt.toNat)) := by
  have g := gb_of (i := r) (n := 60) (by omega) (by omega)
  have j : ∀ z : Int32, jX8_turnedBy_2_15 σ r z = if z = 0 then some (100 * σ.1 13 r.toInt.toNat) else if z = 1 then some (-(100 * σ.1 14 r.toInt.toNat)) else if z = 2 then some (-(100 * σ.1 13 r.toInt.toNat)) else some (100 * σ.1 14 r.toInt.toNat) := fun z => by
    unfold jX8_turnedBy_2_15
    rw [nm_eq, q_gd (by decide), q_gd g, nm_eq, nm_eq, q_gd (by decide), q_gd g, nm_eq, nm_eq]
    rfl
  unfold fX8_turnedBy_2
  rw [j, j]
  unfold tV
  rcases ax_2 a0 a1 with rfl | rfl <;> rcases i_4 h0 h1 with rfl | rfl | rfl | rfl <;> rfl
theorem m_turnedBy {σ : gS} {t r a : Int32} (h0 : 0 ≤ t.toInt) (h1 : t.toInt ≤ 3) (a0 : 0 ≤ a.toInt) (a1 : a.toInt ≤ 1) (r0 : 0 ≤ r.toInt) (r1 : r.toInt ≤ 59) : fX10_turnedBy σ r t a = some (tV t a (σ.1 24 (120 + 2 * r.toInt.toNat)) (σ.1 24 (120 + (2 * r.toInt.toNat + 1)))) := by
  have l1 : (1 : Int32).toInt = 1 := by decide
  have l120 : (120 : Int32).toInt = 120 := by decide
  have m2 : (2 * r).toInt = 2 * r.toInt := imulc (by decide) (by omega) (by omega)
  have m120 : (120 + 2 * r).toInt = 120 + 2 * r.toInt := by rw [iadd_toInt] <;> omega
  have m121 : (120 + 2 * r + 1).toInt = 121 + 2 * r.toInt := by rw [iadd_toInt] <;> omega
  have k1 : (120 + 2 * r).toNatClampNeg = 120 + 2 * r.toInt.toNat := by rw [n_toInt]; omega
  have k2 : (120 + 2 * r + 1).toNatClampNeg = 120 + (2 * r.toInt.toNat + 1) := by rw [n_toInt]; omega
  unfold fX10_turnedBy
  rw [q_gd (gb_of (by omega) (by omega)), nm_eq, nm_eq, q_gd (gb_of (by omega) (by omega)), nm_eq, nm_eq, k1, k2]
  generalize σ.1 24 (120 + 2 * r.toInt.toNat) = u
  generalize σ.1 24 (120 + (2 * r.toInt.toNat + 1)) = v
  unfold jX10_turnedBy_38 tV
  have nu : 100 * (-u) = -(100 * u) := Int32.mul_neg _ _
  have nv : 100 * (-v) = -(100 * v) := Int32.mul_neg _ _
  rw [nu, nv]
  rcases ax_2 a0 a1 with rfl | rfl <;> rcases i_4 h0 h1 with rfl | rfl | rfl | rfl <;> rfl
/-- of a row by number: its picture, its point; what is TURNED, put, missed, DOUBT -/
noncomputable def pO (σ : gS) (r : Nat) : Nat := (σ.1 22 (60 + r)).toInt.toNat
noncomputable def qO (σ : gS) (r : Nat) : Nat := (σ.1 23 (60 + r)).toInt.toNat
noncomputable def tO (σ : gS) (r : Nat) (a : Int32) : Int32 := tV (σ.1 27 (pO σ r)) a (σ.1 24 (120 + 2 * r)) (σ.1 24 (120 + (2 * r + 1)))
noncomputable def puO (σ : gS) (r : Nat) (a : Int32) : Int32 := σ.1 28 (38 * a.toInt.toNat + pO σ r) + tO σ r a
noncomputable def miO (σ : gS) (r : Nat) (a : Int32) : Int32 := σ.1 28 (38 * a.toInt.toNat + (12 + qO σ r)) - puO σ r a
noncomputable def dbO (σ : gS) (r : Nat) : Int64 := (σ.1 25 (60 + r)).toInt64 * ((miO σ r 0).toInt64 * (miO σ r 0).toInt64 + (miO σ r 1).toInt64 * (miO σ r 1).toInt64)
theorem ix_38 {a x : Int32} {k : Int} (a0 : 0 ≤ a.toInt) (a1 : a.toInt ≤ 1) (hx : x.toInt = k) (x0 : 0 ≤ k) (x1 : k ≤ 40) : (38 * a + x).toInt = 38 * a.toInt + k := by
  have m : (38 * a).toInt = 38 * a.toInt := imulc (by decide) (by omega) (by omega)
  rw [iadd_toInt] <;> omega
theorem ix_38b {a x y : Int32} {k l : Int} (a0 : 0 ≤ a.toInt) (a1 : a.toInt ≤ 1) (hx : x.toInt = k) (x0 : 0 ≤ k) (x1 : k ≤ 40) (hy : y.toInt = l) (y0 : 0 ≤ l) (y1 : l ≤ 40) : (38 * a + x + y).toInt = 38 * a.toInt + k + l := by
  have m := ix_38 a0 a1 hx x0 x1
  rw [iadd_toInt] <;> omega
/-- what is told of a row, as both sides read it -/
theorem rw_in {σC σM : gS} (h : JM σM ∧ TRd σC σM) {r : Int32} (r0 : 0 ≤ r.toInt) (r1 : r.toInt < (σM.1 15 9).toInt) : fX10_pictureOf σM r = some (σM.1 22 (60 + r.toInt.toNat)) ∧ fX10_pointOf σM r = some (σM.1 23 (60 + r.toInt.toNat)) ∧ fX10_weightOf σM r = some (σM.1 25 (60 + r.toInt.toNat)) ∧ (0 ≤ (σM.1 22 (60 + r.toInt.toNat)).toInt ∧ (σM.1 22 (60 + r.toInt.toNat)).toInt < (σM.1 15 7).toInt) ∧ (0 ≤ (σM.1 23 (60 + r.toInt.toNat)).toInt ∧ (σM.1 23 (60 + r.toInt.toNat)).toInt < (σM.1 15 8).toInt) ∧ r.toInt ≤ 59 ∧ RTd σC σM r.toInt.toNat := by
  have l60 : (60 : Int32).toInt = 60 := by decide
  obtain ⟨b9, -⟩ := JM_n h.1
  have e : (60 + r).toNatClampNeg = 60 + r.toInt.toNat := n_add (k := 60) (by decide) r0 (by omega)
  have e2 : (60 + r).toInt = 60 + r.toInt := by rw [iadd_toInt] <;> omega
  have g := gb_of (i := 60 + r) (n := 120) (by omega) (by omega)
  have R := h.2.2.2.2.2 r.toInt.toNat (by omega)
  refine ⟨?_, ?_, ?_, ⟨(h.1 22 _).1, R.2.2.1⟩, ⟨(h.1 23 _).1, R.2.2.2.1⟩, by omega, R⟩
  · unfold fX10_pictureOf
    rw [q_gd g, nm_eq, e]
  · unfold fX10_pointOf
    rw [q_gd g, nm_eq, e]
  · unfold fX10_weightOf
    rw [q_gd g, nm_eq, e]
theorem tu_2 {σC σM : gS} (h : JM σM ∧ TRd σC σM) (g : GE σC σM) {r a : Int32} (r0 : 0 ≤ r.toInt) (r1 : r.toInt < (σM.1 15 9).toInt) (a0 : 0 ≤ a.toInt) (a1 : a.toInt ≤ 1) : fX5_turned_47 σC r a = some (tO σM r.toInt.toNat a) ∧ fX10_turned σM r a = some (tO σM r.toInt.toNat a) := by
  obtain ⟨w1, w2, w3, ⟨p0, p1⟩, q1, r59, R⟩ := rw_in h r0 r1
  obtain ⟨-, -, gt, -, -, -, -, gm⟩ := g
  obtain ⟨-, b8, b7, -⟩ := JM_n h.1
  have T := gt (pO σM r.toInt.toNat) (by unfold pO; omega)
  have M := gm r.toInt.toNat (by omega)
  constructor
  · unfold fX5_turned_47
    rw [q_gd (gb_of (by omega) (by omega)), nm_eq, n_toInt, R.1, q_gd (gb_of (by omega) (by omega)), nm_eq, n_toInt]
    have T1 : σC.1 48 (σM.1 22 (60 + r.toInt.toNat)).toInt.toNat = σM.1 27 (pO σM r.toInt.toNat) := T.1
    rw [T1, q_bd (c_turnedBy T.2.1 T.2.2 a0 a1 r0 r59), M.1, M.2.1]
    rfl
  · unfold fX10_turned
    rw [q_bd w1, q_gd (gb_of (by omega) (by omega)), nm_eq, n_toInt]
    have z := m_turnedBy (σ := σM) (t := σM.1 27 (pO σM r.toInt.toNat)) T.2.1 T.2.2 a0 a1 r0 r59
    unfold pO at z
    rw [q_bd z]
    rfl
theorem pu_2 {σC σM : gS} (h : JM σM ∧ TRd σC σM) (g : GE σC σM) {r a : Int32} (r0 : 0 ≤ r.toInt) (r1 : r.toInt < (σM.1 15 9).toInt) (a0 : 0 ≤ a.toInt) (a1 : a.toInt ≤ 1) : fX5_putAt_47 σC r a = some (puO σM r.toInt.toNat a) ∧ fX10_put σM r a = some (puO σM r.toInt.toNat a) := by
  obtain ⟨w1, w2, w3, ⟨p0, p1⟩, q1, r59, R⟩ := rw_in h r0 r1
  have tu := tu_2 h g r0 r1 a0 a1
  obtain ⟨-, -, gt, gp, -, -, -, gm⟩ := g
  obtain ⟨-, b8, b7, -⟩ := JM_n h.1
  have T := gt (pO σM r.toInt.toNat) (by unfold pO; omega)
  have M := gm r.toInt.toNat (by omega)
  have P := gp a.toInt.toNat (pO σM r.toInt.toNat) (by omega) (by unfold pO; omega)
  constructor
  · unfold fX5_putAt_47
    rw [q_gd (gb_of (by omega) (by omega)), nm_eq, nm_eq, n_toInt, R.1, q_gd (gb_of (by omega) (by omega)), q_gd (gb_of (by omega) (by omega)), nm_eq, q_gd (gb_of (by omega) (by omega)), nm_eq, n_toInt, n_toInt]
    have T1 : σC.1 48 (σM.1 22 (60 + r.toInt.toNat)).toInt.toNat = σM.1 27 (pO σM r.toInt.toNat) := T.1
    have P1 : σC.1 (50 + a.toInt.toNat) (σM.1 22 (60 + r.toInt.toNat)).toInt.toNat = σM.1 28 (38 * a.toInt.toNat + pO σM r.toInt.toNat) := P
    rw [T1, P1, q_bd (c_turnedBy T.2.1 T.2.2 a0 a1 r0 r59), M.1, M.2.1]
    rfl
  · unfold fX10_put
    have e := ix_38 (a := a) (x := σM.1 22 (60 + r.toInt.toNat)) a0 a1 rfl p0 (by omega)
    have en : (38 * a + σM.1 22 (60 + r.toInt.toNat)).toNatClampNeg = 38 * a.toInt.toNat + pO σM r.toInt.toNat := by rw [n_toInt]; unfold pO; omega
    rw [q_bd w1, q_gd (gb_of (by omega) (by omega)), nm_eq, q_bd tu.2, en]
    rfl
theorem mi_2 {σC σM : gS} (h : JM σM ∧ TRd σC σM) (g : GE σC σM) {r a : Int32} (r0 : 0 ≤ r.toInt) (r1 : r.toInt < (σM.1 15 9).toInt) (a0 : 0 ≤ a.toInt) (a1 : a.toInt ≤ 1) : fX5_miss_47 σC r a = some (miO σM r.toInt.toNat a) ∧ fX10_miss σM r a = some (miO σM r.toInt.toNat a) := by
  obtain ⟨w1, w2, w3, p1, ⟨q0, q1⟩, r59, R⟩ := rw_in h r0 r1
  have pu := pu_2 h g r0 r1 a0 a1
  obtain ⟨-, -, gt, -, gq, -, -, gm⟩ := g
  obtain ⟨-, b8, b7, -⟩ := JM_n h.1
  have l12 : (12 : Int32).toInt = 12 := by decide
  have Q := gq a.toInt.toNat (qO σM r.toInt.toNat) (by omega) (by unfold qO; omega)
  constructor
  · unfold fX5_miss_47
    rw [q_gd (gb_of (by omega) (by omega)), q_gd (gb_of (by omega) (by omega)), nm_eq, n_toInt, R.2.1, q_gd (gb_of (by omega) (by omega)), nm_eq, n_toInt, n_toInt]
    have Q1 : σC.1 (53 + a.toInt.toNat) (σM.1 23 (60 + r.toInt.toNat)).toInt.toNat = σM.1 28 (38 * a.toInt.toNat + (12 + qO σM r.toInt.toNat)) := Q
    rw [Q1, q_bd pu.1]
    rfl
  · unfold fX10_miss
    have e := ix_38b (a := a) (x := 12) (y := σM.1 23 (60 + r.toInt.toNat)) a0 a1 l12 (by decide) (by decide) rfl q0 (by omega)
    have en : (38 * a + 12 + σM.1 23 (60 + r.toInt.toNat)).toNatClampNeg = 38 * a.toInt.toNat + (12 + qO σM r.toInt.toNat) := by rw [n_toInt]; unfold qO; omega
    rw [q_bd w2, q_gd (gb_of (by omega) (by omega)), nm_eq, q_bd pu.2, en]
    rfl
theorem db_2 {σC σM : gS} (h : JM σM ∧ TRd σC σM) (g : GE σC σM) {r : Int32} (r0 : 0 ≤ r.toInt) (r1 : r.toInt < (σM.1 15 9).toInt) : fX5_doubtOf_47 σC r = some (dbO σM r.toInt.toNat) ∧ fX10_doubtOf σM r = some (dbO σM r.toInt.toNat) := by
  obtain ⟨w1, w2, w3, p1, q1, r59, R⟩ := rw_in h r0 r1
  have m0 := mi_2 h g (a := 0) r0 r1 (by decide) (by decide)
  have m1 := mi_2 h g (a := 1) r0 r1 (by decide) (by decide)
  constructor
  · unfold fX5_doubtOf_47
    rw [q_bd m0.1, nm_eq, q_bd m1.1, nm_eq, q_gd (gb_of (by omega) (by omega)), nm_eq, n_toInt, R.2.2.2.2.1]
    rfl
  · unfold fX10_doubtOf
    rw [q_bd m0.2, nm_eq, q_bd m1.2, nm_eq, q_bd w3]
    rfl
end P12H
