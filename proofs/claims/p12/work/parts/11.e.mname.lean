/-! THE TWO READERS, 5: names, the reference's side -/
section PE
theorem lpc_pos {S β : Type} {B : (S → Option β) → S → Option β} {K : Nat} {s : S} (h : 0 < K) : lpc K B s = B (lpc (K - 1) B) s := by
  cases K with
  | zero => exact absurd h (by decide)
  | succ k => rfl
theorem one_ne : ¬ (1 : Int32) = 0 := by decide
theorem K9_pos : 0 < K9 := by unfold K9; decide
theorem r_look0 {σ : gS} (hI : JM σ) (ha : (σ.1 0 2).toInt < (σ.1 0 3).toInt → ¬ BL (σ.1 1 (σ.1 0 2).toInt.toNat)) : ∃ r, fX10_look σ = some (r, σ) := by
  have jb := jm_tape hI
  unfold fX10_look
  rw [lpc_pos K9_pos]
  unfold bX10_look_0
  have j52 : ∃ r, jX10_look_52 σ = some (r, σ) := by
    unfold jX10_look_52
    by_cases h : σ.1 0 3 ≤ σ.1 0 2
    · exact ⟨-1, if_pos h⟩
    · have := q_gt h
      exact ⟨_, (if_neg h).trans ((q_gd (gb_of (by omega) (by omega))).trans (q_nm rfl))⟩
  obtain ⟨r, j52⟩ := j52
  by_cases h : σ.1 0 3 ≤ σ.1 0 2
  · exact ⟨r, (if_pos h).trans j52⟩
  · have hlt := q_gt h
    have g := gb_of (i := σ.1 0 2) (n := 1600) (by omega) (by omega)
    have nb := ha hlt
    exact ⟨r, (if_neg h).trans ((q_gd g).trans ((q_nm rfl).trans ((if_neg (fun z => nb (.inl z))).trans ((q_gd g).trans ((q_nm rfl).trans ((if_neg (fun z => nb (.inr z))).trans j52))))))⟩
theorem r_isHere0 {σ : gS} (hI : JM σ) {p L : Nat} (hp : p ≠ 0) (hg : gis zM.1 0 1 p = true) (hz : gsz zM.1 0 1 p = L) (hL : L ≤ 7) (hb : σ.1 0 5 = 0) (ha : (σ.1 0 2).toInt < (σ.1 0 3).toInt → ¬ BL (σ.1 1 (σ.1 0 2).toInt.toNat)) : (fX10_isHere σ p = some (1, σ) ∧ HW (σ.1 1) (σ.1 0 3).toInt (σ.1 0 4).toInt (σ.1 0 2).toInt (σ.1 p) L) ∨ (fX10_isHere σ p = some (0, σ) ∧ ¬ HW (σ.1 1) (σ.1 0 3).toInt (σ.1 0 4).toInt (σ.1 0 2).toInt (σ.1 p) L) := by
  obtain ⟨⟨r, τ⟩, e, h1, h2, ⟨r', h3⟩, h4, h5⟩ := r_isHere hI hp hg hz hL hb
  obtain ⟨r2, e2⟩ := r_look0 hI ha
  have h9 : τ = σ := (Prod.mk.inj (Option.some.inj (h3.symm.trans e2))).2
  dsimp only at h5
  rw [h9] at e h5
  rcases h5 with ⟨h5, h6⟩ | ⟨h5, h6⟩
  · exact .inl ⟨e.trans (congrArg (fun x => some (x, σ)) h5), h6⟩
  · exact .inr ⟨e.trans (congrArg (fun x => some (x, σ)) h5), h6⟩
noncomputable def tkM (σ : gS) (L : Nat) : gS := gsI (gsI σ 0 2 (σ.1 0 2 + Int32.ofNat L)) 0 4 (σ.1 0 2 + Int32.ofNat L)
theorem r_takes0 {σ : gS} (hI : JM σ) {p L : Nat} (hp : p ≠ 0) (hg : gis zM.1 0 1 p = true) (hz : gsz zM.1 0 1 p = L) (hL : L ≤ 7) (hb : σ.1 0 5 = 0) (ha : (σ.1 0 2).toInt < (σ.1 0 3).toInt → ¬ BL (σ.1 1 (σ.1 0 2).toInt.toNat)) : (fX10_takes σ p = some (1, tkM σ L) ∧ HW (σ.1 1) (σ.1 0 3).toInt (σ.1 0 4).toInt (σ.1 0 2).toInt (σ.1 p) L) ∨ (fX10_takes σ p = some (0, σ) ∧ ¬ HW (σ.1 1) (σ.1 0 3).toInt (σ.1 0 4).toInt (σ.1 0 2).toInt (σ.1 p) L) := by
  unfold fX10_takes
  rcases r_isHere0 hI hp hg hz hL hb ha with ⟨h, w⟩ | ⟨h, w⟩
  · refine .inl ⟨(q_bd2 h).trans ((if_neg one_ne).trans ((q_gd hg).trans ?_)), w⟩
    rw [hz]
    rfl
  · exact .inr ⟨(q_bd2 h).trans (if_pos rfl), w⟩
/-- the reference's words are what they are -/
noncomputable def WM (σ : gS) : Prop := ∀ q ∈ [(2, 0), (3, 1), (4, 6), (5, 7), (6, 8), (7, 2), (8, 3), (9, 9), (10, 10), (11, 4), (12, 11), (13, 5)], ∀ i : Nat, i < lenC.getD q.2 0 → σ.1 q.1 i = bytC q.2 i
theorem nb1 : vp_nar .boolean 1 = 1 := by decide
theorem HW_of {T : Nat → Int32} {n le a x : Int} {W V : Nat → Int32} {L : Nat} (hW : ∀ i, i < L → W i = V i) (hx : Wh (RG 97 122) T n a x) (n1 : a ≠ x) (n2 : a ≠ le) : HW T n le a W L ↔ WD T a x V L := by
  constructor
  · rintro ⟨e, h1, h2, h3, h4, h5⟩
    obtain rfl := Wh_uniq h1 hx
    exact ⟨h4, fun i hi => (h5 i hi).trans (hW i hi)⟩
  · exact fun h => ⟨x, hx, n1, n2, h.1, fun i hi => (h.2 i hi).trans (hW i hi).symm⟩
theorem r_isOwnHere {σ : gS} (hI : JM σ) (hw : WM σ) (hb : σ.1 0 5 = 0) (ha : (σ.1 0 2).toInt < (σ.1 0 3).toInt → ¬ BL (σ.1 1 (σ.1 0 2).toInt.toNat)) {x : Int} (hx : Wh (RG 97 122) (σ.1 1) (σ.1 0 3).toInt (σ.1 0 2).toInt x) (n1 : (σ.1 0 2).toInt ≠ x) (n2 : (σ.1 0 2).toInt ≠ (σ.1 0 4).toInt) : (fX10_isOwnHere σ = some (1, σ) ∧ OWN (σ.1 1) (σ.1 0 2).toInt x) ∨ (fX10_isOwnHere σ = some (0, σ) ∧ ¬ OWN (σ.1 1) (σ.1 0 2).toInt x) := by
  have p1 : jX10_isOwnHere_71 σ 1 = some (1, σ) := by
    unfold jX10_isOwnHere_71
    refine (q_nm rfl).trans ((if_neg one_ne).trans ((q_nm rfl).trans ?_))
    rw [nb1]
  unfold fX10_isOwnHere
  have g2 := r_isHere0 hI (p := 2) (L := 5) (by decide) (by decide) (by decide) (by decide) hb ha
  rw [HW_of (V := bytC 0) (show ∀ i : Nat, i < 5 → σ.1 2 i = bytC 0 i from hw (2, 0) (by decide)) hx n1 n2] at g2
  rcases g2 with ⟨h2, w2⟩ | ⟨h2, w2⟩
  · exact .inl ⟨(q_bd2 h2).trans ((if_neg one_ne).trans p1), 0, by decide, w2⟩
  rw [q_bd2 h2, if_pos rfl]
  have g3 := r_isHere0 hI (p := 3) (L := 7) (by decide) (by decide) (by decide) (by decide) hb ha
  rw [HW_of (V := bytC 1) (show ∀ i : Nat, i < 7 → σ.1 3 i = bytC 1 i from hw (3, 1) (by decide)) hx n1 n2] at g3
  rcases g3 with ⟨h3, w3⟩ | ⟨h3, w3⟩
  · exact .inl ⟨(q_bd2 h3).trans ((if_neg one_ne).trans p1), 1, by decide, w3⟩
  rw [q_bd2 h3, if_pos rfl]
  have g4 := r_isHere0 hI (p := 4) (L := 2) (by decide) (by decide) (by decide) (by decide) hb ha
  rw [HW_of (V := bytC 6) (show ∀ i : Nat, i < 2 → σ.1 4 i = bytC 6 i from hw (4, 6) (by decide)) hx n1 n2] at g4
  rcases g4 with ⟨h4, w4⟩ | ⟨h4, w4⟩
  · exact .inl ⟨(q_bd2 h4).trans ((if_neg one_ne).trans p1), 6, by decide, w4⟩
  rw [q_bd2 h4, if_pos rfl]
  have g5 := r_isHere0 hI (p := 5) (L := 4) (by decide) (by decide) (by decide) (by decide) hb ha
  rw [HW_of (V := bytC 7) (show ∀ i : Nat, i < 4 → σ.1 5 i = bytC 7 i from hw (5, 7) (by decide)) hx n1 n2] at g5
  rcases g5 with ⟨h5, w5⟩ | ⟨h5, w5⟩
  · exact .inl ⟨(q_bd2 h5).trans ((if_neg one_ne).trans p1), 7, by decide, w5⟩
  rw [q_bd2 h5, if_pos rfl]
  have g6 := r_isHere0 hI (p := 6) (L := 3) (by decide) (by decide) (by decide) (by decide) hb ha
  rw [HW_of (V := bytC 8) (show ∀ i : Nat, i < 3 → σ.1 6 i = bytC 8 i from hw (6, 8) (by decide)) hx n1 n2] at g6
  rcases g6 with ⟨h6, w6⟩ | ⟨h6, w6⟩
  · exact .inl ⟨(q_bd2 h6).trans ((if_neg one_ne).trans p1), 8, by decide, w6⟩
  rw [q_bd2 h6, if_pos rfl]
  have g7 := r_isHere0 hI (p := 7) (L := 5) (by decide) (by decide) (by decide) (by decide) hb ha
  rw [HW_of (V := bytC 2) (show ∀ i : Nat, i < 5 → σ.1 7 i = bytC 2 i from hw (7, 2) (by decide)) hx n1 n2] at g7
  rcases g7 with ⟨h7, w7⟩ | ⟨h7, w7⟩
  · exact .inl ⟨(q_bd2 h7).trans ((if_neg one_ne).trans p1), 2, by decide, w7⟩
  rw [q_bd2 h7, if_pos rfl]
  show (jX10_isOwnHere_71 σ 0 = _ ∧ _) ∨ (jX10_isOwnHere_71 σ 0 = _ ∧ _)
  unfold jX10_isOwnHere_71
  rw [q_nm (w := (0 : Int32)) rfl, if_pos rfl]
  have g8 := r_isHere0 hI (p := 8) (L := 3) (by decide) (by decide) (by decide) (by decide) hb ha
  rw [HW_of (V := bytC 3) (show ∀ i : Nat, i < 3 → σ.1 8 i = bytC 3 i from hw (8, 3) (by decide)) hx n1 n2] at g8
  rcases g8 with ⟨h8, w8⟩ | ⟨h8, w8⟩
  · refine .inl ⟨(q_bd2 h8).trans ((if_neg one_ne).trans ((q_nm rfl).trans ?_)), 3, by decide, w8⟩
    rw [nb1]
  rw [q_bd2 h8, if_pos rfl]
  have g9 := r_isHere0 hI (p := 9) (L := 2) (by decide) (by decide) (by decide) (by decide) hb ha
  rw [HW_of (V := bytC 9) (show ∀ i : Nat, i < 2 → σ.1 9 i = bytC 9 i from hw (9, 9) (by decide)) hx n1 n2] at g9
  rcases g9 with ⟨h9, w9⟩ | ⟨h9, w9⟩
  · refine .inl ⟨(q_bd2 h9).trans ((if_neg one_ne).trans ((q_nm rfl).trans ?_)), 9, by decide, w9⟩
    rw [nb1]
  rw [q_bd2 h9, if_pos rfl]
  have g10 := r_isHere0 hI (p := 10) (L := 6) (by decide) (by decide) (by decide) (by decide) hb ha
  rw [HW_of (V := bytC 10) (show ∀ i : Nat, i < 6 → σ.1 10 i = bytC 10 i from hw (10, 10) (by decide)) hx n1 n2] at g10
  rcases g10 with ⟨h10, w10⟩ | ⟨h10, w10⟩
  · refine .inl ⟨(q_bd2 h10).trans ((if_neg one_ne).trans ((q_nm rfl).trans ?_)), 10, by decide, w10⟩
    rw [nb1]
  rw [q_bd2 h10, if_pos rfl]
  have g11 := r_isHere0 hI (p := 11) (L := 7) (by decide) (by decide) (by decide) (by decide) hb ha
  rw [HW_of (V := bytC 4) (show ∀ i : Nat, i < 7 → σ.1 11 i = bytC 4 i from hw (11, 4) (by decide)) hx n1 n2] at g11
  rcases g11 with ⟨h11, w11⟩ | ⟨h11, w11⟩
  · refine .inl ⟨(q_bd2 h11).trans ((if_neg one_ne).trans ((q_nm rfl).trans ?_)), 4, by decide, w11⟩
    rw [nb1]
  rw [q_bd2 h11, if_pos rfl]
  have g12 := r_isHere0 hI (p := 12) (L := 3) (by decide) (by decide) (by decide) (by decide) hb ha
  rw [HW_of (V := bytC 11) (show ∀ i : Nat, i < 3 → σ.1 12 i = bytC 11 i from hw (12, 11) (by decide)) hx n1 n2] at g12
  rcases g12 with ⟨h12, w12⟩ | ⟨h12, w12⟩
  · refine .inl ⟨(q_bd2 h12).trans ((if_neg one_ne).trans ((q_nm rfl).trans ?_)), 11, by decide, w12⟩
    rw [nb1]
  rw [q_bd2 h12, if_pos rfl]
  have g13 := r_isHere0 hI (p := 13) (L := 6) (by decide) (by decide) (by decide) (by decide) hb ha
  rw [HW_of (V := bytC 5) (show ∀ i : Nat, i < 6 → σ.1 13 i = bytC 5 i from hw (13, 5) (by decide)) hx n1 n2] at g13
  rcases g13 with ⟨h13, w13⟩ | ⟨h13, w13⟩
  · refine .inl ⟨(q_bd2 h13).trans ((if_neg one_ne).trans ((q_nm rfl).trans ?_)), 5, by decide, w13⟩
    rw [nb1]
  rw [q_bd2 h13, if_pos rfl]
  refine .inr ⟨(q_nm rfl).trans (by rw [nb0]), fun ⟨j, hj, w⟩ => ?_⟩
  have hj' : j = 0 ∨ j = 1 ∨ j = 2 ∨ j = 3 ∨ j = 4 ∨ j = 5 ∨ j = 6 ∨ j = 7 ∨ j = 8 ∨ j = 9 ∨ j = 10 ∨ j = 11 := by omega
  rcases hj' with rfl | rfl | rfl | rfl | rfl | rfl | rfl | rfl | rfl | rfl | rfl | rfl
  · exact w2 w
  · exact w3 w
  · exact w7 w
  · exact w8 w
  · exact w11 w
  · exact w13 w
  · exact w4 w
  · exact w5 w
  · exact w6 w
  · exact w9 w
  · exact w10 w
  · exact w12 w
noncomputable def NMP (σ : gS) (out : Int64 × gS) : Prop := JM out.2 ∧ Fr fr_fX10_name σ out.2 ∧ ∃ f p e L v, XO (σ.1 1) (σ.1 0 3).toInt (σ.1 0 4).toInt (σ.1 0 2).toInt f p e L v ∧ MO σ out.2 f p e ∧ (f = 0 → out.1.toInt = v ∧ (out.2.1 0 21).toInt = p)
theorem r_name {σ : gS} (hI : JM σ) (hw : WM σ) (hb : σ.1 0 5 = 0) : Ok (fX10_name σ) (NMP σ) := by
  unfold fX10_name
  refine ok_ite.mpr ⟨fun _ => ok_bd2.mpr ((r_look hI).mono (fun o ho => ?_)), fun z => absurd hb z⟩
  obtain ⟨r, τ⟩ := o
  obtain ⟨kI, kF, kW, kr⟩ := ho
  dsimp only at kI kF kW kr ⊢
  have t1 : τ.1 1 = σ.1 1 := Fr_row kF 1 (by decide)
  have u : ∀ i, i ≠ 2 → τ.1 0 i = σ.1 0 i := fun i hi => (kF 0 i (by decide) (by simp [fr_fX10_look]; exact hi)).1
  have kF' : Fr fr_fX10_name σ τ := Fr_c Fr_r kF (by decide)
  have jb := jm_tape kI
  rw [u 3 (by decide)] at jb
  have tb : τ.1 0 5 = 0 := (u 5 (by decide)).trans hb
  obtain ⟨x, hx⟩ := Wh_ex (RG 97 122) (σ.1 1) (σ.1 0 3).toInt _ (τ.1 0 2).toInt rfl
  have b37 : ((τ.1 0 2).toInt = x ∨ (τ.1 0 2).toInt = (σ.1 0 4).toInt ∨ OWN (σ.1 1) (τ.1 0 2).toInt x) → Ok (jX10_name_37 τ) (NMP σ) := fun z => by
    unfold jX10_name_37
    rw [r_fail 1 _ tb]
    exact ok_some.mpr ⟨JM_f kI, Fr_w (Fr_w kF' (by decide)) (by decide), 1, (τ.1 0 2).toInt, 0, 0, 0, ⟨_, _, kW, hx, .inl ⟨z, rfl, rfl⟩⟩, .inr ⟨by decide, rfl, rfl⟩, fun y => absurd y (by decide)⟩
  rcases r_isLetter τ r with ⟨h, hr⟩ | ⟨h, hr⟩
  · rw [q_bd h]
    refine ok_ite.mpr ⟨fun z => absurd z (by decide), fun _ => ok_ite.mpr ⟨fun z => b37 (.inr (.inl (by rw [z, u 4 (by decide)]))), fun z => ?_⟩⟩
    have n2 : (τ.1 0 2).toInt ≠ (σ.1 0 4).toInt := fun y => z (Int32.toInt_inj.mp (by rw [u 4 (by decide)]; exact y))
    rcases kr with ⟨kr1, kr2⟩ | ⟨kr1, kr2⟩
    · rw [kr2] at hr
      have n1 : (τ.1 0 2).toInt ≠ x := fun y => hx.2.2.1 (by omega) (by rw [← y]; exact hr)
      have x0 := hx.1
      have wt : WM τ := fun q hq i hi => by
        rw [Fr_row kF q.1 (by intro y hy; simp [fr_fX10_look] at hy; rw [hy]; simp at hq; rcases hq with rfl | rfl | rfl | rfl | rfl | rfl | rfl | rfl | rfl | rfl | rfl | rfl <;> decide)]
        exact hw q hq i hi
      have own := r_isOwnHere kI wt tb (by rw [t1, u 3 (by decide)]; exact kW.2.2.1) (x := x) (by rw [t1, u 3 (by decide)]; exact hx) n1 (by rw [u 4 (by decide)]; exact n2)
      rw [t1] at own
      rcases own with ⟨h5, ho⟩ | ⟨h5, ho⟩
      · rw [q_bd2 h5]
        exact ok_ite.mpr ⟨fun z => absurd z one_ne, fun _ => b37 (.inr (.inr ho))⟩
      rw [q_bd2 h5]
      refine ok_ite.mpr ⟨fun _ => ok_nm.mpr (ok_nm.mpr ?_), fun z => absurd rfl z⟩
      dsimp only
      obtain ⟨ω, hω⟩ : ∃ ω, ω = gsI τ 0 21 (τ.1 0 2) := ⟨_, rfl⟩
      rw [← hω]
      have oI : JM ω := by rw [hω]; exact JM_w kI (Int32.le_toInt _) (Int32.toInt_le _)
      have oF : Fr fr_fX10_name σ ω := by rw [hω]; exact Fr_w kF' (by decide)
      have o1 : ω.1 1 = σ.1 1 := by rw [hω]; exact t1
      have o21 : ω.1 0 21 = τ.1 0 2 := by rw [hω]; rfl
      have o2 : ω.1 0 2 = τ.1 0 2 := by rw [hω]; rfl
      have ou : ∀ i, i ≠ 2 → i ≠ 21 → ω.1 0 i = σ.1 0 i := fun i hi hj => by rw [hω, gsI_1, if_neg (fun z => hj z.2)]; exact u i hi
      clear hω
      have ob := jm_tape oI
      have hl := XO_letters hx (by omega)
      refine ok_lpc (I := fun (n : Nat) (s : Int64 × gS) => n = (1600 - (s.2.1 0 2).toInt).toNat ∧ (τ.1 0 2).toInt ≤ (s.2.1 0 2).toInt ∧ (s.2.1 0 2).toInt ≤ (τ.1 0 2).toInt + 6 ∧ (s.2.1 0 2).toInt ≤ (σ.1 0 3).toInt ∧ (∀ i : Int, (τ.1 0 2).toInt ≤ i → i < (s.2.1 0 2).toInt → RG 97 122 (σ.1 1 i.toNat)) ∧ JM s.2 ∧ Fr [(0, 3)] ω s.2 ∧ s.1.toInt = naF (σ.1 1) (τ.1 0 2).toInt.toNat ((s.2.1 0 2).toInt - (τ.1 0 2).toInt).toNat) (fun rec n s hs hrec => ?_) K9 (1600 - (ω.1 0 2).toInt).toNat (0, ω) ⟨rfl, by rw [o2]; exact Int.le_refl _, by rw [o2]; omega, by rw [o2]; omega, fun i h1 h2 => absurd h2 (by rw [o2]; omega), oI, Fr_r, ?_⟩ (by unfold K9; omega)
      · obtain ⟨a1, s⟩ := s
        obtain ⟨hn, j0, j1, j2, j3, jI, jF, jv⟩ := hs
        dsimp only at hn j0 j1 j2 j3 jI jF jv ⊢
        have s1 : s.1 1 = σ.1 1 := (Fr_row jF 1 (by decide)).trans o1
        have su : ∀ i, i ≠ 2 → i ≠ 21 → s.1 0 i = σ.1 0 i := fun i hi hj => ((jF 0 i (by decide) (by simp; exact hi)).1).trans (ou i hi hj)
        have s21 : s.1 0 21 = τ.1 0 2 := ((jF 0 21 (by decide) (by decide)).1).trans o21
        have sF : Fr fr_fX10_name σ s := Fr_c oF jF (by decide)
        have far := Wh_far hx j3 j2
        have ed : (s.1 0 2 - s.1 0 21).toInt = (s.1 0 2).toInt - (τ.1 0 2).toInt := by rw [s21, isub_toInt] <;> omega
        have l6 : (6 : Int32).toInt = 6 := by decide
        have fin : ((s.1 0 2).toInt < (σ.1 0 3).toInt → ¬ RG 97 122 (σ.1 1 (s.1 0 2).toInt.toNat)) → Ok (nm (gsI s 0 4 (s.1 0 2)) fun σ18 => some (a1, σ18)) (NMP σ) := by
          intro y
          have ex := Wh_uniq (⟨j0, j3, y, .inl j2⟩ : Wh (RG 97 122) (σ.1 1) (σ.1 0 3).toInt (τ.1 0 2).toInt (s.1 0 2).toInt) hx
          refine ok_nm.mpr (ok_some.mpr ⟨JM_w jI (Int32.le_toInt _) (Int32.toInt_le _), Fr_w sF (by decide), 0, (τ.1 0 2).toInt, x, (x - (τ.1 0 2).toInt).toNat, naF (σ.1 1) (τ.1 0 2).toInt.toNat (x - (τ.1 0 2).toInt).toNat, ⟨_, _, kW, hx, .inr (.inr ⟨n1, n2, ho, by omega, rfl, rfl, rfl, rfl, rfl⟩)⟩, .inl ⟨rfl, (su 5 (by decide) (by decide)).trans hb, ex, rfl, su 6 (by decide) (by decide)⟩, fun _ => ⟨?_, ?_⟩⟩)
          · rw [← ex]; exact jv
          · show (s.1 0 21).toInt = _
            rw [s21]
        unfold bX10_name_58
        rw [su 3 (by decide) (by decide)]
        refine ok_ite.mpr ⟨fun g => fin (fun y => ?_), fun g => ?_⟩
        · have := Int32.le_iff_toInt_le.mp g
          omega
        have hlt := q_gt g
        refine ok_gd.mpr ⟨gb_of (by omega) (by omega), ok_nm.mpr ?_⟩
        rw [s1, n_toInt]
        rcases r_isLetter s (σ.1 1 (s.1 0 2).toInt.toNat) with ⟨h5, hr5⟩ | ⟨h5, hr5⟩
        · rw [q_bd h5]
          have j3' := all_ext j3 hr5
          have far' := Wh_far hx j3' (by omega)
          refine ok_ite.mpr ⟨fun y => absurd y (by decide), fun _ => ok_ite.mpr ⟨fun y => ?_, fun y => ?_⟩⟩
          · have hd : (s.1 0 2).toInt - (τ.1 0 2).toInt = 6 := by rw [← ed, y]; exact l6
            rw [r_fail 1 _ ((su 5 (by decide) (by decide)).trans hb)]
            exact ok_some.mpr ⟨JM_f jI, Fr_w (Fr_w sF (by decide)) (by decide), 1, (τ.1 0 2).toInt + 6, 0, 0, 0, ⟨_, _, kW, hx, .inr (.inl ⟨n1, n2, ho, by omega, rfl, rfl⟩)⟩, .inr ⟨by decide, rfl, show (s.1 0 2).toInt = _ by omega⟩, fun y => absurd y (by decide)⟩
          · have hd : (s.1 0 2).toInt - (τ.1 0 2).toInt ≠ 6 := fun w => y (q_of 6 (by rw [ed, l6]; exact w))
            have e1 := i_inc (a := s.1 0 2) (c := 1600) (by omega) (by omega) (by decide)
            refine ok_gd.mpr ⟨gb_of (by omega) (by omega), ok_nm.mpr (ok_nm.mpr (ok_nm.mpr ?_))⟩
            refine hrec (1600 - (s.1 0 2 + 1).toInt).toNat (_, gsI s 0 2 (s.1 0 2 + 1)) (by omega) ⟨rfl, show _ ≤ (s.1 0 2 + 1).toInt by omega, show (s.1 0 2 + 1).toInt ≤ _ by omega, show (s.1 0 2 + 1).toInt ≤ _ by omega, ?_, JM_w jI (show 0 ≤ _ by omega) (show _ ≤ 1600 by omega), Fr_w jF (by decide), ?_⟩
            · show ∀ i : Int, (τ.1 0 2).toInt ≤ i → i < (s.1 0 2 + 1).toInt → RG 97 122 (σ.1 1 i.toNat)
              rw [e1]
              exact j3'
            · have en : ((s.1 0 2 + 1).toInt - (τ.1 0 2).toInt).toNat = ((s.1 0 2).toInt - (τ.1 0 2).toInt).toNat + 1 := by omega
              have em : (s.1 0 2).toInt.toNat = (τ.1 0 2).toInt.toNat + ((s.1 0 2).toInt - (τ.1 0 2).toInt).toNat := by omega
              show ((27 * a1 + (σ.1 1 (s.1 0 2).toInt.toNat).toInt64 - 97) + 1).toInt = naF (σ.1 1) (τ.1 0 2).toInt.toNat ((s.1 0 2 + 1).toInt - (τ.1 0 2).toInt).toNat
              rw [en]
              show _ = 27 * naF (σ.1 1) (τ.1 0 2).toInt.toNat ((s.1 0 2).toInt - (τ.1 0 2).toInt).toNat + (σ.1 1 ((τ.1 0 2).toInt.toNat + ((s.1 0 2).toInt - (τ.1 0 2).toInt).toNat)).toInt - 96
              rw [← em]
              have hlet := RG_let hr5
              generalize σ.1 1 (s.1 0 2).toInt.toNat = t9 at hlet ⊢
              have nb := naF_b (σ.1 1) (τ.1 0 2).toInt.toNat ((s.1 0 2).toInt - (τ.1 0 2).toInt).toNat (fun i hi => hl i (by omega))
              rw [← jv] at nb ⊢
              have hp : (27 : Int) ^ ((s.1 0 2).toInt - (τ.1 0 2).toInt).toNat ≤ 387420489 := by
                have hj : ((s.1 0 2).toInt - (τ.1 0 2).toInt).toNat = 0 ∨ ((s.1 0 2).toInt - (τ.1 0 2).toInt).toNat = 1 ∨ ((s.1 0 2).toInt - (τ.1 0 2).toInt).toNat = 2 ∨ ((s.1 0 2).toInt - (τ.1 0 2).toInt).toNat = 3 ∨ ((s.1 0 2).toInt - (τ.1 0 2).toInt).toNat = 4 ∨ ((s.1 0 2).toInt - (τ.1 0 2).toInt).toNat = 5 ∨ ((s.1 0 2).toInt - (τ.1 0 2).toInt).toNat = 6 := by omega
                rcases hj with hj | hj | hj | hj | hj | hj | hj <;> rw [hj] <;> decide
              have l27 : (27 : Int64).toInt = 27 := by decide
              have l97 : (97 : Int64).toInt = 97 := by decide
              have l1 : (1 : Int64).toInt = 1 := by decide
              have q1 : t9.toInt64.toInt = t9.toInt := Int32.toInt_toInt64 _
              have d0 : (27 * a1).toInt = 27 * a1.toInt := by rw [lmul_toInt, l27] <;> rw [l27] <;> omega
              have d1 : (27 * a1 + t9.toInt64).toInt = 27 * a1.toInt + t9.toInt := by rw [ladd_toInt, d0, q1] <;> omega
              have d2 : (27 * a1 + t9.toInt64 - 97).toInt = 27 * a1.toInt + t9.toInt - 97 := by rw [lsub_toInt, d1, l97] <;> omega
              rw [ladd_toInt, d2, l1] <;> omega
        · rw [q_bd h5]
          exact ok_ite.mpr ⟨fun _ => fin (fun _ => hr5), fun y => absurd rfl y⟩
      · show (0 : Int64).toInt = naF (σ.1 1) (τ.1 0 2).toInt.toNat ((ω.1 0 2).toInt - (τ.1 0 2).toInt).toNat
        rw [o2, Int.sub_self]
        rfl
    · exact absurd hr.1 (by rw [kr2]; decide)
  · rw [q_bd h]
    refine ok_ite.mpr ⟨fun _ => b37 (.inl ?_), fun z => absurd rfl z⟩
    refine Wh_uniq (Wh_self (fun z => ?_)) hx
    rcases kr with ⟨kr1, kr2⟩ | ⟨kr1, kr2⟩
    · rw [← kr2]; exact hr
    · omega
end PE
