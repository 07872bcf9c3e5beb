/-! THE GEOMETRY: a start, 3: how unlike; a picture started by others, on both sides -/
section P12Y3
theorem lp_2 {S β : Type} {B : (S → Option β) → S → Option β} {s0 s1 s2 : S} {o : Option β} (h0 : ∀ rec, B rec s0 = rec s1) (h1 : ∀ rec, B rec s1 = rec s2) (h2 : ∀ rec, B rec s2 = o) : lpc K9 B s0 = o := by
  rw [lpc_pos (by unfold K9; omega), h0, lpc_pos (by unfold K9; omega), h1, lpc_pos (by unfold K9; omega), h2]
theorem lp_3 {S β : Type} {B : (S → Option β) → S → Option β} {s0 s1 s2 s3 : S} {o : Option β} (h0 : ∀ rec, B rec s0 = rec s1) (h1 : ∀ rec, B rec s1 = rec s2) (h2 : ∀ rec, B rec s2 = rec s3) (h3 : ∀ rec, B rec s3 = o) : lpc K9 B s0 = o := by
  rw [lpc_pos (by unfold K9; omega), h0, lpc_pos (by unfold K9; omega), h1, lpc_pos (by unfold K9; omega), h2, lpc_pos (by unfold K9; omega), h3]
/-- a loop that goes on to F, where something else begins -/
theorem lp_scan {β : Type} {B : (Int32 → Option β) → Int32 → Option β} {o : Option β} {F : Nat} (hF : F < 1000) (h : ∀ (rec : Int32 → Option β) (j : Nat), j < F → B rec (Int32.ofNat j) = rec (Int32.ofNat (j + 1))) (h2 : ∀ rec, B rec (Int32.ofNat F) = o) : ∀ (d K j : Nat), d = F - j → j ≤ F → d < K → lpc K B (Int32.ofNat j) = o := by
  intro d
  induction d with
  | zero =>
    intro K j hd hj hK
    rw [lpc_pos hK, show j = F by omega, h2]
  | succ d ih =>
    intro K j hd hj hK
    rw [lpc_pos (by omega), h _ j (by omega)]
    exact ih (K - 1) (j + 1) (by omega) (by omega) (by omega)
theorem ofN_s (j : Nat) : Int32.ofNat j + 1 = Int32.ofNat (j + 1) := by
  rw [Int32.ofNat_add]
  rfl
theorem ab_eq (s : gS) {x y : Int32} (h0 : -2147483648 ≤ x.toInt - y.toInt) (h1 : x.toInt - y.toInt ≤ 2147483647) (h2 : -2147483647 ≤ x.toInt - y.toInt) : fX10_apart s x.toInt64 y.toInt64 = some ((if 0 ≤ (x - y) then (x - y) else 0 - (x - y)).toInt64) := by
  have z0' := z0
  have e : (x - y).toInt = x.toInt - y.toInt := by rw [isub_toInt] <;> omega
  unfold fX10_apart
  by_cases h : x.toInt64 ≤ y.toInt64
  · have h' := Int64.le_iff_toInt_le.mp h
    rw [i64_of, i64_of] at h'
    rw [if_pos h]
    refine congrArg some (Int64.toInt_inj.mp ?_)
    rw [lsub_toInt (by rw [i64_of, i64_of]; omega) (by rw [i64_of, i64_of]; omega), i64_of, i64_of, i64_of]
    by_cases g : 0 ≤ x - y
    · have g' := Int32.le_iff_toInt_le.mp g
      rw [if_pos g]
      omega
    · rw [if_neg g, isub_toInt (by omega) (by omega)]
      omega
  · have h' := q_lgt h
    rw [i64_of, i64_of] at h'
    rw [if_neg h]
    refine congrArg some (Int64.toInt_inj.mp ?_)
    rw [lsub_toInt (by rw [i64_of, i64_of]; omega) (by rw [i64_of, i64_of]; omega), i64_of, i64_of, i64_of]
    have g : 0 ≤ x - y := q_le (by omega)
    rw [if_pos g]
    omega
/-- what was measured is in its bounds -/
noncomputable def MB (s : gS) : Prop := ∀ r : Nat, (r : Int) < (s.1 15 9).toInt → (0 ≤ (s.1 24 (120 + 2 * r)).toInt ∧ (s.1 24 (120 + 2 * r)).toInt ≤ 9999) ∧ (0 ≤ (s.1 24 (120 + (2 * r + 1))).toInt ∧ (s.1 24 (120 + (2 * r + 1))).toInt ≤ 9999)
theorem MB_eq {s t : gS} (h : MB s) (a : t.1 15 = s.1 15) (b : t.1 24 = s.1 24) : MB t := by
  unfold MB
  rw [a, b]
  exact h
theorem tV_in {t a u v : Int32} (u0 : 0 ≤ u.toInt ∧ u.toInt ≤ 9999) (v0 : 0 ≤ v.toInt ∧ v.toInt ≤ 9999) : -999900 ≤ (tV t a u v).toInt ∧ (tV t a u v).toInt ≤ 999900 := by
  have l : (100 : Int32).toInt = 100 := by decide
  have mu : (100 * u).toInt = 100 * u.toInt := imulc l (by omega) (by omega)
  have mv : (100 * v).toInt = 100 * v.toInt := imulc l (by omega) (by omega)
  have nu : (-(100 * u)).toInt = -(100 * u.toInt) := by rw [← Int32.zero_sub, isub_toInt] <;> (have := z0; omega)
  have nv : (-(100 * v)).toInt = -(100 * v.toInt) := by rw [← Int32.zero_sub, isub_toInt] <;> (have := z0; omega)
  unfold tV
  split <;> split <;> (try split) <;> (try split) <;> omega
noncomputable def PBd (s : gS) (B : Int) : Prop := ∀ i : Nat, i < 12 ∨ 38 ≤ i ∧ i < 50 → -B ≤ (s.1 28 i).toInt ∧ (s.1 28 i).toInt ≤ B
theorem pu_in {s : gS} {B : Int} (w : WF s) (m : MB s) (hp : PBd s B) (hB : B ≤ 500000000) {r : Nat} (hr : (r : Int) < (s.1 15 9).toInt) {a : Int32} (a0 : 0 ≤ a.toInt) (a1 : a.toInt ≤ 1) : -(B + 999900) ≤ (puO s r a).toInt ∧ (puO s r a).toInt ≤ B + 999900 := by
  have b7 := w.1.2.2.1
  have W := (w.2.1 r hr).1
  have P := hp (38 * a.toInt.toNat + pO s r) (by unfold pO; omega)
  have T := tV_in (t := s.1 27 (pO s r)) (a := a) (m r hr).1 (m r hr).2
  have T' : -999900 ≤ (tO s r a).toInt ∧ (tO s r a).toInt ≤ 999900 := T
  unfold puO
  rw [iadd_toInt] <;> omega
/-- one term of what is unlike -/
noncomputable def uT (s : gS) (t : Int32) (r1 r2 j1 j2 : Nat) (a : Int32) : Int64 := (if 0 ≤ (tV t a (s.1 24 (120 + 2 * r1)) (s.1 24 (120 + (2 * r1 + 1))) - tV t a (s.1 24 (120 + 2 * r2)) (s.1 24 (120 + (2 * r2 + 1))) - (puO s j1 a - puO s j2 a)) then (tV t a (s.1 24 (120 + 2 * r1)) (s.1 24 (120 + (2 * r1 + 1))) - tV t a (s.1 24 (120 + 2 * r2)) (s.1 24 (120 + (2 * r2 + 1))) - (puO s j1 a - puO s j2 a)) else 0 - (tV t a (s.1 24 (120 + 2 * r1)) (s.1 24 (120 + (2 * r1 + 1))) - tV t a (s.1 24 (120 + 2 * r2)) (s.1 24 (120 + (2 * r2 + 1))) - (puO s j1 a - puO s j2 a))).toInt64
theorem ap_uT {s : gS} {B : Int} (w : WF s) (m : MB s) (hp : PBd s B) (hB : B ≤ 500000000) (t : Int32) {r1 r2 : Nat} (k1 : (r1 : Int) < (s.1 15 9).toInt) (k2 : (r2 : Int) < (s.1 15 9).toInt) {j1 j2 : Nat} (h1 : (j1 : Int) < (s.1 15 9).toInt) (h2 : (j2 : Int) < (s.1 15 9).toInt) {a : Int32} (a0 : 0 ≤ a.toInt) (a1 : a.toInt ≤ 1) : fX10_apart s (tV t a (s.1 24 (120 + 2 * r1)) (s.1 24 (120 + (2 * r1 + 1))) - tV t a (s.1 24 (120 + 2 * r2)) (s.1 24 (120 + (2 * r2 + 1)))).toInt64 (puO s j1 a - puO s j2 a).toInt64 = some (uT s t r1 r2 j1 j2 a) := by
  have A1 := tV_in (t := t) (a := a) (m r1 k1).1 (m r1 k1).2
  have A2 := tV_in (t := t) (a := a) (m r2 k2).1 (m r2 k2).2
  have P1 := pu_in w m hp hB h1 a0 a1
  have P2 := pu_in w m hp hB h2 a0 a1
  have e1 : (tV t a (s.1 24 (120 + 2 * r1)) (s.1 24 (120 + (2 * r1 + 1))) - tV t a (s.1 24 (120 + 2 * r2)) (s.1 24 (120 + (2 * r2 + 1)))).toInt = (tV t a (s.1 24 (120 + 2 * r1)) (s.1 24 (120 + (2 * r1 + 1)))).toInt - (tV t a (s.1 24 (120 + 2 * r2)) (s.1 24 (120 + (2 * r2 + 1)))).toInt := by rw [isub_toInt] <;> omega
  have e2 : (puO s j1 a - puO s j2 a).toInt = (puO s j1 a).toInt - (puO s j2 a).toInt := by rw [isub_toInt] <;> omega
  exact ab_eq s (by omega) (by omega) (by omega)
theorem ro_in {s : gS} (w : WF s) {p q : Int32} (h : ¬ RW9 s p q = -1) : ∃ r : Nat, (r : Int) < (s.1 15 9).toInt ∧ RW9 s p q = Int32.ofNat r ∧ roB s p q r = true := by
  have b9 := w.1.1
  unfold RW9 at h ⊢
  rcases fI_spec (roB s p q) (s.1 15 9).toInt.toNat 0 (by omega) with ⟨h1, -⟩ | ⟨j, j0, j1, j2, j3, j4⟩
  · exact absurd h1 h
  · exact ⟨j, by omega, Int32.toInt_inj.mp (by rw [j3, iofNat_toInt (by omega)]), j2⟩
/-- at a point that is linked and the picture's own -/
theorem ln_at {s τ : gS} {p : Int32} (w : WF s) (h : LN s τ p) {q : Nat} (hq : (q : Int) < (s.1 15 8).toInt) (hn : ¬ τ.1 86 q = -1) : ∃ r j : Nat, (r : Int) < (s.1 15 9).toInt ∧ (j : Int) < (s.1 15 9).toInt ∧ RW9 s p (Int32.ofNat q) = Int32.ofNat r ∧ roB s p (Int32.ofNat q) r = true ∧ SR9 s (Int32.ofNat q) = Int32.ofNat j ∧ τ.1 86 q = Int32.ofNat r ∧ τ.1 88 q = puO s j 0 ∧ τ.1 89 q = puO s j 1 := by
  rcases h q hq with ⟨-, l2⟩ | ⟨j, l0, l1, l2, l3, l4⟩
  · exact absurd l2 hn
  · obtain ⟨r, r0, r1, r2⟩ := ro_in w (show ¬ RW9 s p (Int32.ofNat q) = -1 by rw [← l2]; exact hn)
    exact ⟨r, j, r0, l0, r1, r2, l1, by rw [l2, r1], l3, l4⟩
/-- at a point that isn't -/
theorem ln_no {s τ : gS} {p : Int32} (h : LN s τ p) {q : Nat} (hq : (q : Int) < (s.1 15 8).toInt) (hn : τ.1 86 q = -1) : RW9 s p (Int32.ofNat q) = -1 ∨ SR9 s (Int32.ofNat q) = -1 := by
  rcases h q hq with ⟨l1, -⟩ | ⟨j, l0, l1, l2, -⟩
  · exact .inr l1
  · exact .inl (by rw [← l2, hn])
/-- the first such point -/
noncomputable def FP (s τ : gS) (F : Nat) : Prop := (F : Int) < (s.1 15 8).toInt ∧ ¬ τ.1 86 F = -1 ∧ ∀ q, q < F → τ.1 86 q = -1
theorem fp_ex {s τ : gS} (h : ∃ q : Nat, (q : Int) < (s.1 15 8).toInt ∧ ¬ τ.1 86 q = -1) : ∃ F, FP s τ F := by
  obtain ⟨q, h1, h2⟩ := h
  induction q using Nat.strongRecOn with
  | _ q ih =>
    by_cases z : ∃ k, k < q ∧ ¬ τ.1 86 k = -1
    · obtain ⟨k, k1, k2⟩ := z
      exact ih k k1 (by omega) k2
    · exact ⟨q, h1, h2, fun k hk => Decidable.not_not.mp (fun y => z ⟨k, hk, y⟩)⟩
theorem tb_C {τ s : gS} (h : SP9 τ s) {t a : Int32} (t0 : 0 ≤ t.toInt) (t1 : t.toInt ≤ 3) {r : Nat} (hr : (r : Int) < (s.1 15 9).toInt) (a0 : 0 ≤ a.toInt) (a1 : a.toInt ≤ 1) : fX8_turnedBy_2 τ t (Int32.ofNat r) a = some (tV t a (s.1 24 (120 + 2 * r)) (s.1 24 (120 + (2 * r + 1)))) := by
  have b9 := h.2.1.1.1
  have e : (Int32.ofNat r).toInt = r := iofNat_toInt (by omega)
  have M := h.2.2.1.2 r hr
  rw [c_turnedBy t0 t1 a0 a1 (by omega) (by omega), show (Int32.ofNat r).toInt.toNat = r by omega, M.1, M.2.1]
theorem tb_M {s : gS} (w : WF s) {t a : Int32} (t0 : 0 ≤ t.toInt) (t1 : t.toInt ≤ 3) {r : Nat} (hr : (r : Int) < (s.1 15 9).toInt) (a0 : 0 ≤ a.toInt) (a1 : a.toInt ≤ 1) : fX10_turnedBy s (Int32.ofNat r) t a = some (tV t a (s.1 24 (120 + 2 * r)) (s.1 24 (120 + (2 * r + 1)))) := by
  have b9 := w.1.1
  have e : (Int32.ofNat r).toInt = r := iofNat_toInt (by omega)
  rw [m_turnedBy t0 t1 a0 a1 (by omega) (by omega), show (Int32.ofNat r).toInt.toNat = r by omega]
theorem pu_M {s : gS} (w : WF s) {r : Nat} (hr : (r : Int) < (s.1 15 9).toInt) {a : Int32} (a0 : 0 ≤ a.toInt) (a1 : a.toInt ≤ 1) : fX10_put s (Int32.ofNat r) a = some (puO s r a) := by
  have b9 := w.1.1
  have e : (Int32.ofNat r).toInt = r := iofNat_toInt (by omega)
  rw [wf_put w (by omega) (by omega) a0 a1, show (Int32.ofNat r).toInt.toNat = r by omega]
set_option maxHeartbeats 1000000 in
theorem unlike_2 {τ s : gS} {B : Int} {p t : Int32} {F : Nat} (h : SP9 τ s) (m : MB s) (hp : PBd s B) (hB : B ≤ 500000000) (N : LN s τ p) (hF : FP s τ F) (t0 : 0 ≤ t.toInt) (t1 : t.toInt ≤ 3) : Re (fX6_unlikeness τ t (Int32.ofNat F)) (fX10_unlike s p t) (fun a b => a = b) := by
  have w := h.2.1
  obtain ⟨b9, b8, b7, b6⟩ := w.1
  have z0' := z0
  have l1 : (1 : Int32).toInt = 1 := by decide
  have lm1 : (-1 : Int32).toInt = -1 := by decide
  obtain ⟨f1, f2, f3⟩ := hF
  obtain ⟨rF, jF, x1, x2, x3, x4, x5, x6, x7, x8⟩ := ln_at w N f1 f2
  have eF : (Int32.ofNat F).toInt = F := iofNat_toInt (by omega)
  have nF : (Int32.ofNat F).toNatClampNeg = F := by rw [n_toInt]; omega
  unfold fX6_unlikeness fX10_unlike
  rw [nm_eq, nm_eq, nm_eq, nm_eq, nm_eq]
  refine re_lpc (I := fun (n : Nat) (u : Int64 × Int32) (v : Int32 × Int64 × Int32) => n = ((s.1 15 8).toInt - u.2.toInt).toNat ∧ 0 ≤ u.2.toInt ∧ u.2.toInt ≤ (s.1 15 8).toInt ∧ v.2.1 = u.1 ∧ v.2.2 = u.2 ∧ ((u.2.toInt ≤ F ∧ v.1 = -1) ∨ (F < u.2.toInt ∧ v.1 = Int32.ofNat F))) (fun f g n u v hs hrec => ?_) K9 K9 (s.1 15 8).toInt.toNat (0, 0) (-1, 0, 0) ⟨by dsimp only; omega, by dsimp only; omega, by dsimp only; omega, rfl, rfl, .inl ⟨by dsimp only; omega, rfl⟩⟩ (by unfold K9; omega) (by unfold K9; omega)
  obtain ⟨y, a⟩ := u
  obtain ⟨c, y', a'⟩ := v
  obtain ⟨hn, a0, a1, e1, e2, hc⟩ := hs
  dsimp only at hn a0 a1 e1 e2 hc ⊢
  subst e1 e2
  unfold bX6_unlikeness_5 bX10_unlike_8
  have e3 : τ.1 3 ((2 : Int32).toNatClampNeg) = s.1 15 8 := (tr_n h.1).2.1
  rw [q_gd (by decide), nm_eq, e3, q_bd (m_points s)]
  by_cases hk : s.1 15 8 ≤ a'
  · rw [if_pos hk, if_pos hk]
    exact ⟨_, _, rfl, rfl, rfl⟩
  rw [if_neg hk, if_neg hk]
  have hlt := q_gt hk
  have ei := i_inc (a := a') (c := 60) (by omega) (by omega) (by decide)
  rw [q_gd (gb_of (by omega) (by omega)), nm_eq, n_toInt, q_bd (m9_rowOf w p a'), nm_eq, nm_eq, nm_eq, q_bd (m9_startedRow w a'), nm_eq]
  by_cases c86 : τ.1 86 a'.toInt.toNat = -1
  · have hne : ¬ a'.toInt.toNat = F := fun z => f2 (by rw [← z]; exact c86)
    have hno := ln_no N (q := a'.toInt.toNat) (by omega) c86
    rw [i32_of a0] at hno
    have go : Re (f (y', a' + 1)) (g (c, y', a' + 1)) (fun a b => a = b) := hrec ((s.1 15 8).toInt - (a' + 1).toInt).toNat _ _ (by omega) ⟨rfl, by dsimp only; omega, by dsimp only; omega, rfl, rfl, by
      dsimp only
      rcases hc with ⟨q1, q2⟩ | ⟨q1, q2⟩
      · exact .inl ⟨by omega, q2⟩
      · exact .inr ⟨by omega, q2⟩⟩
    rw [if_pos c86]
    by_cases r1 : RW9 s p a' = -1
    · rw [if_pos r1, nm_eq]
      exact go
    · rw [if_neg r1, if_pos (hno.resolve_left r1), nm_eq]
      exact go
  · obtain ⟨r, j, y1, y2, y3, y4, y5, y6, y7, y8⟩ := ln_at w N (q := a'.toInt.toNat) (by omega) c86
    rw [i32_of a0] at y3 y5
    have hge : F ≤ a'.toInt.toNat := Nat.le_of_not_lt (fun z => c86 (f3 _ z))
    rw [if_neg c86, y3, if_neg (ofN_m1 (by omega)), y5, if_neg (ofN_m1 (by omega))]
    -- the two axes, on the class's side
    have eC : lpc (S := Int64 × Int32) K9 (fun rec s' => bX6_unlikeness_36 τ t (Int32.ofNat F) a' (fun a3 a5 => f (a3, a5)) (fun a3 a6 => rec (a3, a6)) s'.1 s'.2) (y', 0) = f (y' + uT s t r rF j jF 0 + uT s t r rF j jF 1, a' + 1) := by
      have st : ∀ (rec : Int64 × Int32 → Option Int64) (v : Int64) (a : Int32), a = 0 ∨ a = 1 → bX6_unlikeness_36 τ t (Int32.ofNat F) a' (fun a3 a5 => f (a3, a5)) (fun a3 a6 => rec (a3, a6)) v a = rec (v + uT s t r rF j jF a, a + 1) := fun rec v a ha => by
        have a00 : 0 ≤ a.toInt := by rcases ha with rfl | rfl <;> decide
        have a11 : a.toInt ≤ 1 := by rcases ha with rfl | rfl <;> decide
        have l2 : (2 : Int32).toInt = 2 := by decide
        have k88 : τ.1 (88 + a.toNatClampNeg) a'.toInt.toNat = puO s j a := by
          rcases ha with rfl | rfl
          · exact y7
          · exact y8
        have k88F : τ.1 (88 + a.toNatClampNeg) F = puO s jF a := by
          rcases ha with rfl | rfl
          · exact x7
          · exact x8
        unfold bX6_unlikeness_36
        rw [if_neg (q_nle (by omega)), q_gd (gb_of (by omega) (by omega)), nm_eq, n_toInt, y6, q_bd (tb_C h t0 t1 y1 a00 a11), q_gd (gb_of (by omega) (by omega)), nm_eq, nF, x6, q_bd (tb_C h t0 t1 x1 a00 a11), nm_eq, q_gd (gb_of (by omega) (by omega)), q_gd (gb_of (by omega) (by omega)), nm_eq, k88, q_gd (gb_of (by omega) (by omega)), q_gd (gb_of (by omega) (by omega)), nm_eq, k88F, nm_eq, nm_eq, nm_eq]
        rfl
      refine lp_2 (s1 := (y' + uT s t r rF j jF 0, 1)) (s2 := (y' + uT s t r rF j jF 0 + uT s t r rF j jF 1, 2)) (fun rec => st rec _ 0 (.inl rfl)) (fun rec => st rec _ 1 (.inr rfl)) (fun rec => ?_)
      show bX6_unlikeness_36 τ t (Int32.ofNat F) a' _ _ _ 2 = _
      unfold bX6_unlikeness_36
      rw [if_pos (by decide), nm_eq]
    have eM : lpc (S := Int64 × Int32) K9 (fun rec s' => bX10_unlike_60 s p t (Int32.ofNat F) a' (Int32.ofNat r) (Int32.ofNat j) (fun a3 a4 a6 => g (a3, a4, a6)) (fun a4 a9 => rec (a4, a9)) s'.1 s'.2) (y', 0) = g (Int32.ofNat F, y' + uT s t r rF j jF 0 + uT s t r rF j jF 1, a' + 1) := by
      have st : ∀ (rec : Int64 × Int32 → Option Int64) (v : Int64) (a : Int32), a = 0 ∨ a = 1 → bX10_unlike_60 s p t (Int32.ofNat F) a' (Int32.ofNat r) (Int32.ofNat j) (fun a3 a4 a6 => g (a3, a4, a6)) (fun a4 a9 => rec (a4, a9)) v a = rec (v + uT s t r rF j jF a, a + 1) := fun rec v a ha => by
        have a00 : 0 ≤ a.toInt := by rcases ha with rfl | rfl <;> decide
        have a11 : a.toInt ≤ 1 := by rcases ha with rfl | rfl <;> decide
        have l2 : (2 : Int32).toInt = 2 := by decide
        unfold bX10_unlike_60
        rw [if_neg (q_nle (by omega)), q_bd (tb_M w t0 t1 y1 a00 a11), q_bd (m9_rowOf w p (Int32.ofNat F)), x3, q_bd (tb_M w t0 t1 x1 a00 a11), q_bd (pu_M w y2 a00 a11), q_bd (m9_startedRow w (Int32.ofNat F)), x5, q_bd (pu_M w x2 a00 a11), q_bd (ap_uT w m hp hB t y1 x1 y2 x2 a00 a11), nm_eq, nm_eq]
      refine lp_2 (s1 := (y' + uT s t r rF j jF 0, 1)) (s2 := (y' + uT s t r rF j jF 0 + uT s t r rF j jF 1, 2)) (fun rec => st rec _ 0 (.inl rfl)) (fun rec => st rec _ 1 (.inr rfl)) (fun rec => ?_)
      show bX10_unlike_60 s p t (Int32.ofNat F) a' (Int32.ofNat r) (Int32.ofNat j) _ _ _ 2 = _
      unfold bX10_unlike_60
      rw [if_pos (by decide), nm_eq]
    have go : Re (f (y' + uT s t r rF j jF 0 + uT s t r rF j jF 1, a' + 1)) (g (Int32.ofNat F, y' + uT s t r rF j jF 0 + uT s t r rF j jF 1, a' + 1)) (fun a b => a = b) := hrec ((s.1 15 8).toInt - (a' + 1).toInt).toNat _ _ (by omega) ⟨rfl, by dsimp only; omega, by dsimp only; omega, rfl, rfl, .inr ⟨by dsimp only; omega, rfl⟩⟩
    rw [eC]
    by_cases z : c = -1
    · have : a' = Int32.ofNat F := by
        refine Int32.toInt_inj.mp ?_
        rcases hc with ⟨q1, -⟩ | ⟨-, q2⟩
        · omega
        · exact absurd (q2.symm.trans z) (ofN_m1 (by omega))
      rw [if_pos z, nm_eq, nm_eq]
      rw [← this] at eM go
      rw [eM]
      exact go
    · have : c = Int32.ofNat F := by
        rcases hc with ⟨-, q2⟩ | ⟨-, q2⟩
        · exact absurd q2 z
        · exact q2
      rw [if_neg z, nm_eq, this, eM]
      exact go
end P12Y3
