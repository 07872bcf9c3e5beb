/-! WHAT OMEGA MAY KNOW OF NUMBERS; which cells a method writes -/
section IV
theorem i32_lo (x : Int32) : -2147483648 ≤ x.toInt := by have := Int32.le_toInt x; simpa using this
theorem i32_hi (x : Int32) : x.toInt ≤ 2147483647 := by have := Int32.toInt_lt x; omega
theorem ok_nm2 {β γ : Type} {v : γ} {E : γ → Option β} {P : β → Prop} (k : ∀ y, y = v → Ok (E y) P) : Ok (nm v E) P := k v rfl
theorem nar_bool (x : Int32) : 0 ≤ (vp_nar .boolean x).toInt ∧ (vp_nar .boolean x).toInt ≤ 1 := by
  show 0 ≤ (x &&& 1).toInt ∧ (x &&& 1).toInt ≤ 1
  have h : x &&& 1 = 0 ∨ x &&& 1 = 1 := by
    have e : (x &&& 1).toBitVec = x.toBitVec &&& 1#32 := rfl
    rw [← Int32.toBitVec_inj, ← Int32.toBitVec_inj, e, BitVec.and_one_eq_setWidth_ofBool_getLsbD]
    cases x.toBitVec.getLsbD 0
    · exact Or.inl rfl
    · exact Or.inr rfl
  rcases h with h | h <;> rw [h] <;> decide
theorem nar_bool2 {x : Int32} (h0 : 0 ≤ x.toInt) (h1 : x.toInt ≤ 1) : (vp_nar .boolean x).toInt = x.toInt := by
  have h : x.toInt = 0 ∨ x.toInt = 1 := by omega
  rcases h with h | h
  · obtain rfl : x = 0 := Int32.toInt_inj.mp (h.trans (by decide))
    decide
  · obtain rfl : x = 1 := Int32.toInt_inj.mp (h.trans (by decide))
    decide
theorem ineg_toInt {x : Int32} (h : -2147483648 < x.toInt) : (-x).toInt = -x.toInt := by
  have := i32_hi x
  rw [Int32.toInt_neg, Int.bmod_eq_of_le] <;> simp <;> omega
theorem imulc {x y : Int32} {c : Int} (hc : x.toInt = c) (h0 : -2147483648 ≤ c * y.toInt) (h1 : c * y.toInt < 2147483648) : (x * y).toInt = c * y.toInt := by
  rw [← hc] at h0 h1 ⊢
  exact imul_toInt h0 h1
theorem iand_toInt {x c : Int32} {n : Int} (hc : c.toInt = n) (hn : 0 ≤ n) : 0 ≤ (x &&& c).toInt ∧ (x &&& c).toInt ≤ n := by
  have e : (x &&& c).toInt = (x.toBitVec &&& c.toBitVec).toInt := rfl
  have e2 : c.toInt = c.toBitVec.toInt := rfl
  have hle : (x.toBitVec &&& c.toBitVec).toNat ≤ c.toBitVec.toNat := by rw [BitVec.toNat_and]; exact Nat.and_le_right
  rw [e]
  rw [e2] at hc
  rw [BitVec.toInt_eq_toNat_cond] at hc ⊢
  have := c.toBitVec.isLt
  split at hc <;> split <;> omega
theorem idiv_toInt {x c : Int32} {n : Int} (hx : 0 ≤ x.toInt) (hc : c.toInt = n ∧ 0 < n) : (x / c).toInt = x.toInt / n := by
  rw [Int32.toInt_div, hc.1, Int.tdiv_eq_ediv_of_nonneg hx]
  have h2 := i32_hi x
  have h1 : x.toInt / n ≤ x.toInt := Int.ediv_le_self _ hx
  have h0 : 0 ≤ x.toInt / n := Int.ediv_nonneg hx (by omega)
  rw [Int.bmod_eq_of_le] <;> simp <;> omega
theorem irm_toInt {x c : Int32} {n : Int} (hx : 0 ≤ x.toInt) (hc : c.toInt = n ∧ 0 < n) : (irm x c).toInt = x.toInt % n := by
  have h := idiv_toInt hx hc
  have h2 := i32_hi x
  have h3 : x.toInt / n * n ≤ x.toInt := Int.ediv_mul_le _ (by omega)
  have h4 : 0 ≤ x.toInt / n * n := Int.mul_nonneg (Int.ediv_nonneg hx (by omega)) (by omega)
  have h5 : (x / c * c).toInt = x.toInt / n * n := by
    rw [imul_toInt, h, hc.1]
    · rw [h, hc.1]; omega
    · rw [h, hc.1]; omega
  unfold irm
  rw [isub_toInt (by omega) (by omega), h5, Int.emod_def, Int.mul_comm n]
theorem iofNat_toInt {n : Nat} (h : n < 2147483648) : (Int32.ofNat n).toInt = (n : Int) := Int32.toInt_ofNat_of_lt h
noncomputable def Fr (L : List (Nat × Nat)) (σ σ' : gS) : Prop := ∀ k i, (k, 0) ∉ L → (k, i + 1) ∉ L → σ'.1 k i = σ.1 k i ∧ σ'.2 k i = σ.2 k i
theorem Fr_r {L : List (Nat × Nat)} {σ : gS} : Fr L σ σ := fun _ _ _ _ => ⟨rfl, rfl⟩
theorem Fr_w {L : List (Nat × Nat)} {σ σ1 : gS} {k i : Nat} {x : Int32} (h : Fr L σ σ1) (hm : (k, i + 1) ∈ L) : Fr L σ (gsI σ1 k i x) := fun a j h1 h2 => by
  refine ⟨?_, (h a j h1 h2).2⟩
  rw [gsI_1, if_neg (by rintro ⟨rfl, rfl⟩; exact h2 hm)]
  exact (h a j h1 h2).1
theorem Fr_w0 {L : List (Nat × Nat)} {σ σ1 : gS} {k i : Nat} {x : Int32} (h : Fr L σ σ1) (hm : (k, 0) ∈ L) : Fr L σ (gsI σ1 k i x) := fun a j h1 h2 => by
  refine ⟨?_, (h a j h1 h2).2⟩
  rw [gsI_1, if_neg (by rintro ⟨rfl, rfl⟩; exact h1 hm)]
  exact (h a j h1 h2).1
theorem Fr_l {L : List (Nat × Nat)} {σ σ1 : gS} {k i : Nat} {x : Int64} (h : Fr L σ σ1) (hm : (k, i + 1) ∈ L) : Fr L σ (gsL σ1 k i x) := fun a j h1 h2 => by
  refine ⟨(h a j h1 h2).1, ?_⟩
  rw [gsL_2, if_neg (by rintro ⟨rfl, rfl⟩; exact h2 hm)]
  exact (h a j h1 h2).2
theorem Fr_l0 {L : List (Nat × Nat)} {σ σ1 : gS} {k i : Nat} {x : Int64} (h : Fr L σ σ1) (hm : (k, 0) ∈ L) : Fr L σ (gsL σ1 k i x) := fun a j h1 h2 => by
  refine ⟨(h a j h1 h2).1, ?_⟩
  rw [gsL_2, if_neg (by rintro ⟨rfl, rfl⟩; exact h1 hm)]
  exact (h a j h1 h2).2
theorem Fr_c {L Lc : List (Nat × Nat)} {σ σ1 σ2 : gS} (h : Fr L σ σ1) (hc : Fr Lc σ1 σ2) (hs : ∀ q ∈ Lc, q ∈ L ∨ (q.1, 0) ∈ L) : Fr L σ σ2 := fun a j h1 h2 => by
  have h3 : (a, 0) ∉ Lc := fun z => (hs _ z).elim h1 h1
  have h4 : (a, j + 1) ∉ Lc := fun z => (hs _ z).elim h2 h1
  exact ⟨(hc a j h3 h4).1.trans (h a j h1 h2).1, (hc a j h3 h4).2.trans (h a j h1 h2).2⟩
end IV
noncomputable def kbM : Nat → Nat → Int × Int
  | 0, i => ([(-2147483648, 2147483647), (0, 1600), (0, 1600), (0, 1600), (-2147483648, 2147483647), (-2147483648, 2147483647), (-2147483648, 2147483647), (-2147483648, 2147483647), (-2147483648, 2147483647), (-2147483648, 2147483647), (-2147483648, 2147483647), (-2147483648, 2147483647), (-2147483648, 2147483647), (-2147483648, 2147483647), (-2147483648, 2147483647), (-2147483648, 2147483647), (-2147483648, 2147483647), (-2147483648, 2147483647), (-2147483648, 2147483647), (-2147483648, 2147483647), (-2147483648, 2147483647), (-2147483648, 2147483647), (-2147483648, 2147483647), (-2147483648, 2147483647), (-2147483648, 2147483647), (-2147483648, 2147483647), (-2147483648, 2147483647), (-2147483648, 2147483647), (-2147483648, 2147483647), (-2147483648, 2147483647), (-2147483648, 2147483647), (-2147483648, 2147483647), (-2147483648, 2147483647), (-2147483648, 2147483647), (0, 120), (-2147483648, 2147483647), (-2147483648, 2147483647), (-2147483648, 2147483647), (-2147483648, 2147483647), (-2147483648, 2147483647), (-2147483648, 2147483647), (-2147483648, 2147483647), (-2147483648, 2147483647), (0, 38), (-2147483648, 2147483647), (-2147483648, 2147483647), (-2147483648, 2147483647), (-2147483648, 2147483647), (-2147483648, 2147483647), (-2147483648, 2147483647), (-2147483648, 2147483647), (-2147483648, 2147483647), (-2147483648, 2147483647), (-2147483648, 2147483647), (-2147483648, 2147483647), (-2147483648, 2147483647), (0, 378)] : List (Int × Int)).getD i (-2147483648, 2147483647)
  | 1, _ => (0, 255)
  | 15, i => ([(0, 6), (0, 12), (0, 20), (0, 60), (-2147483648, 2147483647), (-2147483648, 2147483647), (0, 6), (0, 12), (0, 20), (0, 60), (-2147483648, 2147483647), (-2147483648, 2147483647)] : List (Int × Int)).getD i (-2147483648, 2147483647)
  | 16, _ => (0, 5)
  | 18, _ => (0, 9999)
  | 22, _ => (0, 11)
  | 23, _ => (0, 19)
  | _, _ => (-2147483648, 2147483647)
noncomputable def JM (σ : gS) : Prop := ∀ k i, (kbM k i).1 ≤ (σ.1 k i).toInt ∧ (σ.1 k i).toInt ≤ (kbM k i).2
theorem JM_w {σ : gS} {k i : Nat} {x : Int32} (h : JM σ) (h0 : (kbM k i).1 ≤ x.toInt) (h1 : x.toInt ≤ (kbM k i).2) : JM (gsI σ k i x) := fun a j => by
  rw [gsI_1]
  by_cases e : a = k ∧ j = i
  · rw [if_pos e, e.1, e.2]; exact ⟨h0, h1⟩
  · rw [if_neg e]; exact h a j
theorem JM_l {σ : gS} {k i : Nat} {x : Int64} (h : JM σ) : JM (gsL σ k i x) := h
noncomputable def fr_fX10_feed : List (Nat × Nat) := [(0, 2), (1, 0)]
noncomputable def fr_fX10_end : List (Nat × Nat) := [(0, 2)]
noncomputable def fr_fX10_pictures : List (Nat × Nat) := []
noncomputable def fr_fX10_firstNotStarted : List (Nat × Nat) := []
noncomputable def fr_fX10_points : List (Nat × Nat) := []
noncomputable def fr_fX10_isControl : List (Nat × Nat) := []
noncomputable def fr_fX10_standControls : List (Nat × Nat) := [(28, 0)]
noncomputable def fr_fX10_rows : List (Nat × Nat) := []
noncomputable def fr_fX10_pointOf : List (Nat × Nat) := []
noncomputable def fr_fX10_pictureOf : List (Nat × Nat) := []
noncomputable def fr_fX10_startedRow : List (Nat × Nat) := []
noncomputable def fr_fX10_turnedBy : List (Nat × Nat) := []
noncomputable def fr_fX10_turned : List (Nat × Nat) := []
noncomputable def fr_fX10_put : List (Nat × Nat) := []
noncomputable def fr_fX10_rowOf : List (Nat × Nat) := []
noncomputable def fr_fX10_sharedMany : List (Nat × Nat) := []
noncomputable def fr_fX10_nextStarted : List (Nat × Nat) := []
noncomputable def fr_fX10_apart : List (Nat × Nat) := []
noncomputable def fr_fX10_unlike : List (Nat × Nat) := []
noncomputable def fr_fX10_startsBy : List (Nat × Nat) := [(27, 0), (28, 0), (29, 0)]
noncomputable def fr_fX10_starts : List (Nat × Nat) := [(27, 0), (28, 0), (29, 0)]
noncomputable def fr_fX10_stands : List (Nat × Nat) := [(0, 37), (14, 0), (15, 0), (16, 0), (17, 0), (18, 0), (19, 0), (20, 0), (21, 0), (22, 0), (23, 0), (24, 0), (25, 0), (26, 0), (27, 0), (28, 0), (29, 0)]
noncomputable def fr_fX10_look : List (Nat × Nat) := [(0, 3)]
noncomputable def fr_fX10_isLetter : List (Nat × Nat) := []
noncomputable def fr_fX10_isHere : List (Nat × Nat) := [(0, 3)]
noncomputable def fr_fX10_takes : List (Nat × Nat) := [(0, 3), (0, 5)]
noncomputable def fr_fX10_fail : List (Nat × Nat) := [(0, 6), (0, 7)]
noncomputable def fr_fX10_asks : List (Nat × Nat) := [(0, 3), (0, 5), (0, 6), (0, 7)]
noncomputable def fr_fX10_takesSign : List (Nat × Nat) := [(0, 3)]
noncomputable def fr_fX10_asksSign : List (Nat × Nat) := [(0, 3), (0, 6), (0, 7)]
noncomputable def fr_fX10_isOwnHere : List (Nat × Nat) := [(0, 3)]
noncomputable def fr_fX10_name : List (Nat × Nat) := [(0, 3), (0, 5), (0, 6), (0, 7), (0, 22)]
noncomputable def fr_fX10_nameOf : List (Nat × Nat) := []
noncomputable def fr_fX10_oneOf : List (Nat × Nat) := [(0, 3), (0, 5), (0, 6), (0, 7), (0, 22)]
noncomputable def fr_fX10_isDigit : List (Nat × Nat) := []
noncomputable def fr_fX10_isIn : List (Nat × Nat) := []
noncomputable def fr_fX10_number : List (Nat × Nat) := [(0, 3), (0, 5), (0, 6), (0, 7)]
noncomputable def fr_fX10_centreTold : List (Nat × Nat) := [(0, 3), (0, 5), (0, 6), (0, 7), (0, 22), (15, 0), (18, 0), (19, 0)]
noncomputable def fr_fX10_isFull : List (Nat × Nat) := [(0, 6), (0, 7)]
noncomputable def fr_fX10_controlTold : List (Nat × Nat) := [(0, 3), (0, 5), (0, 6), (0, 7), (0, 22), (15, 0), (20, 0), (21, 0)]
noncomputable def fr_fX10_rowTold : List (Nat × Nat) := [(0, 3), (0, 5), (0, 6), (0, 7), (0, 22), (15, 0), (22, 0), (23, 0), (24, 0), (25, 0)]
noncomputable def fr_fX10_newName : List (Nat × Nat) := [(0, 3), (0, 5), (0, 6), (0, 7), (0, 22), (14, 0), (15, 0)]
noncomputable def fr_fX10_pointTold : List (Nat × Nat) := [(0, 3), (0, 5), (0, 6), (0, 7), (0, 22), (14, 0), (15, 0), (20, 0)]
noncomputable def fr_fX10_pictureTold : List (Nat × Nat) := [(0, 3), (0, 5), (0, 6), (0, 7), (0, 22), (14, 0), (15, 0), (16, 0), (17, 0), (18, 0)]
noncomputable def fr_fX10_blockTold : List (Nat × Nat) := [(0, 3), (0, 5), (0, 6), (0, 7), (0, 22), (0, 35), (14, 0), (15, 0), (16, 0), (17, 0), (18, 0), (19, 0), (20, 0), (21, 0), (22, 0), (23, 0), (24, 0), (25, 0)]
noncomputable def fr_fX10_block : List (Nat × Nat) := [(0, 2), (0, 3), (0, 4), (0, 5), (0, 6), (0, 7), (0, 8), (0, 9), (0, 22), (0, 35), (0, 37), (14, 0), (15, 0), (16, 0), (17, 0), (18, 0), (19, 0), (20, 0), (21, 0), (22, 0), (23, 0), (24, 0), (25, 0), (26, 0), (27, 0), (28, 0), (29, 0)]
noncomputable def fr_fX10_fault : List (Nat × Nat) := []
noncomputable def fr_fX10_dropped : List (Nat × Nat) := []
noncomputable def fr_fX10_controls : List (Nat × Nat) := []
noncomputable def fr_fX10_has : List (Nat × Nat) := []
noncomputable def fr_fX10_letter : List (Nat × Nat) := []
noncomputable def fr_fX10_isPicture : List (Nat × Nat) := []
noncomputable def fr_fX10_strip : List (Nat × Nat) := []
noncomputable def fr_fX10_rowsOf : List (Nat × Nat) := []
noncomputable def fr_fX10_centreOf : List (Nat × Nat) := []
noncomputable def fr_fX10_joins : List (Nat × Nat) := [(32, 0)]
noncomputable def fr_fX10_hangs : List (Nat × Nat) := [(32, 0)]
noncomputable def fr_fX10_isLoose : List (Nat × Nat) := []
noncomputable def fr_fX10_picture : List (Nat × Nat) := [(32, 0)]
noncomputable def fr_fX10_isPoint : List (Nat × Nat) := []
noncomputable def fr_fX10_point : List (Nat × Nat) := [(32, 0)]
noncomputable def fr_fX10_isRow : List (Nat × Nat) := []
noncomputable def fr_fX10_weightOf : List (Nat × Nat) := []
noncomputable def fr_fX10_miss : List (Nat × Nat) := []
noncomputable def fr_fX10_canShow : List (Nat × Nat) := [(26, 0), (32, 0)]
noncomputable def fr_fX10_row : List (Nat × Nat) := [(26, 0), (32, 0)]
noncomputable def fr_fX10_hasDrift : List (Nat × Nat) := []
noncomputable def fr_fX10_drift : List (Nat × Nat) := []
noncomputable def fr_fX10_start : List (Nat × Nat) := [(27, 0), (28, 0), (29, 0)]
noncomputable def fr_fX10_noMean : List (Nat × Nat) := [(0, 41), (0, 42)]
noncomputable def fr_fX10_becomes : List (Nat × Nat) := [(28, 0)]
noncomputable def fr_fX10_mean : List (Nat × Nat) := [(0, 41), (0, 42)]
noncomputable def fr_fX10_isDriftAltered : List (Nat × Nat) := [(0, 41), (0, 42), (28, 0)]
noncomputable def fr_fX10_isPictureAltered : List (Nat × Nat) := [(0, 41), (0, 42), (28, 0)]
noncomputable def fr_fX10_isPointAltered : List (Nat × Nat) := [(0, 41), (0, 42), (28, 0)]
noncomputable def fr_fX10_isRound : List (Nat × Nat) := [(0, 41), (0, 42), (28, 0)]
noncomputable def fr_fX10_rests : List (Nat × Nat) := [(0, 41), (0, 42), (28, 0)]
noncomputable def fr_fX10_rounds : List (Nat × Nat) := [(0, 41), (0, 42), (28, 0)]
noncomputable def fr_fX10_doubtOf : List (Nat × Nat) := []
noncomputable def fr_fX10_sum : List (Nat × Nat) := []
noncomputable def fr_fX10_isUsed : List (Nat × Nat) := []
noncomputable def fr_fX10_numberOf : List (Nat × Nat) := []
noncomputable def fr_fX10_modulo : List (Nat × Nat) := []
noncomputable def fr_fX10_adds : List (Nat × Nat) := [(31, 0)]
noncomputable def fr_fX10_addsTie : List (Nat × Nat) := [(31, 0)]
noncomputable def fr_fX10_equations : List (Nat × Nat) := [(0, 44), (30, 0), (31, 0)]
noncomputable def fr_fX10_swaps : List (Nat × Nat) := [(31, 0)]
noncomputable def fr_fX10_inverse : List (Nat × Nat) := []
noncomputable def fr_fX10_isSolved : List (Nat × Nat) := [(0, 44), (30, 0), (31, 0)]
noncomputable def fr_fX10_whole : List (Nat × Nat) := [(0, 44), (30, 0), (31, 0)]
noncomputable def fr_fX10_sets : List (Nat × Nat) := [(0, 37), (28, 0)]
noncomputable def fr_fX10_parts : List (Nat × Nat) := [(32, 0)]
noncomputable def fr_fX10_hang : List (Nat × Nat) := [(32, 0)]
noncomputable def fr_fX10_blind : List (Nat × Nat) := [(26, 0), (32, 0)]
noncomputable def fr_fX10_looseMany : List (Nat × Nat) := [(32, 0)]
noncomputable def fr_fX10_needs : List (Nat × Nat) := [(26, 0), (32, 0)]
noncomputable def fr_fX10_doubt : List (Nat × Nat) := []
noncomputable def fr_fX10_worstNow : List (Nat × Nat) := [(26, 0), (32, 0)]
noncomputable def fr_fX10_worst : List (Nat × Nat) := [(26, 0), (32, 0)]
noncomputable def fr_fX10_drop : List (Nat × Nat) := [(26, 0)]
noncomputable def fr_fX10_clean : List (Nat × Nat) := [(0, 41), (0, 42), (26, 0), (28, 0), (32, 0), (33, 0)]
noncomputable def fr_fX10_areTwo : List (Nat × Nat) := []
noncomputable def fr_fX10_tiePoints : List (Nat × Nat) := []
noncomputable def fr_fX10_step : List (Nat × Nat) := []
noncomputable def fr_fX10_tie : List (Nat × Nat) := []
noncomputable def fr_fX10_isLoop : List (Nat × Nat) := []
noncomputable def fr_fX10_loopOf : List (Nat × Nat) := []
noncomputable def fr_fX10_loop : List (Nat × Nat) := []
noncomputable def fr_fX10_gap : List (Nat × Nat) := []
noncomputable def fr_fX10_treeOf : List (Nat × Nat) := [(34, 0), (35, 0)]
noncomputable def fr_fX10_tree : List (Nat × Nat) := [(34, 0), (35, 0)]
noncomputable def fr_fX10_plan : List (Nat × Nat) := [(34, 0), (35, 0), (36, 0)]
noncomputable def fr_fX10_putsAside : List (Nat × Nat) := [(0, 53), (37, 0), (38, 0)]
noncomputable def fr_fX10_takesBack : List (Nat × Nat) := [(0, 37), (27, 0), (28, 0)]
noncomputable def fr_fX10_placeBy : List (Nat × Nat) := [(0, 37), (0, 41), (0, 42), (0, 53), (27, 0), (28, 0), (29, 0), (37, 0), (38, 0)]
noncomputable def fr_fX10_differ : List (Nat × Nat) := [(0, 37), (0, 41), (0, 42), (0, 53), (27, 0), (28, 0), (29, 0), (37, 0), (38, 0)]
noncomputable def fr_fX10_canMeasure : List (Nat × Nat) := []
noncomputable def fr_fX10_measures : List (Nat × Nat) := [(24, 0)]
noncomputable def fr_fX10_alters : List (Nat × Nat) := [(0, 37), (0, 41), (0, 42), (0, 53), (24, 0), (27, 0), (28, 0), (37, 0), (38, 0), (39, 0)]
noncomputable def fr_fX10_measure : List (Nat × Nat) := [(24, 0)]
noncomputable def fr_fX10_drawOf : List (Nat × Nat) := [(0, 55)]
noncomputable def fr_fX10_within : List (Nat × Nat) := []
noncomputable def fr_fX10_slips : List (Nat × Nat) := [(0, 55), (24, 0)]
noncomputable def fr_fX10_writes : List (Nat × Nat) := [(0, 57), (40, 0)]
noncomputable def fr_fX10_checked : List (Nat × Nat) := []
noncomputable def fr_fX10_writesFour : List (Nat × Nat) := [(0, 57), (40, 0)]
noncomputable def fr_fX10_writesPlace : List (Nat × Nat) := [(0, 57), (40, 0)]
noncomputable def fr_fX10_image : List (Nat × Nat) := [(0, 57), (40, 0)]
noncomputable def fr_fX10_octet : List (Nat × Nat) := []
noncomputable def fr_fX10_fourAt : List (Nat × Nat) := []
noncomputable def fr_fX10_canBe : List (Nat × Nat) := []
noncomputable def fr_fX10_isTold : List (Nat × Nat) := []
noncomputable def fr_fX10_tells : List (Nat × Nat) := [(28, 0)]
noncomputable def fr_fX10_on : List (Nat × Nat) := [(0, 2), (0, 37), (26, 0), (27, 0), (28, 0)]
/-! THE REFERENCE'S SEEKERS AS NUMBERS: the first place that fits -/
section FI
theorem q_bd {β γ : Type} {o : Option γ} {E : γ → Option β} {x : γ} (h : o = some x) : bd o E = E x := by rw [h]; rfl
theorem q_bd2 {β γ : Type} {o : Option (γ × gS)} {E : γ → gS → Option β} {x : γ × gS} (h : o = some x) : bd2 o E = E x.1 x.2 := by rw [h]; rfl
theorem q_gd {β : Type} {b : Bool} {E : Option β} (h : b = true) : gd b E = E := by rw [h]; rfl
theorem q_nm {β γ : Type} {v w : β} {E : β → γ} (h : v = w) : nm v E = E w := by rw [h]; rfl
theorem z0 : (0 : Int32).toInt = 0 := by decide
theorem q_of {x : Int32} (c : Int32) (h : x.toInt = c.toInt) : x = c := Int32.toInt_inj.mp h
theorem q_le {x y : Int32} (h : x.toInt ≤ y.toInt) : x ≤ y := Int32.le_iff_toInt_le.mpr h
theorem q_nle {x y : Int32} (h : y.toInt < x.toInt) : ¬ x ≤ y := fun z => by have := Int32.le_iff_toInt_le.mp z; omega
theorem q_gt {x y : Int32} (h : ¬ x ≤ y) : y.toInt < x.toInt := by
  by_cases c : x.toInt ≤ y.toInt
  · exact absurd (q_le c) h
  · omega
theorem q_ne {x y : Int32} (h : x.toInt ≠ y.toInt) : x ≠ y := fun z => h (by rw [z])
theorem n_add {c a : Int32} {k : Nat} (hc : c.toInt = (k : Int)) (h0 : 0 ≤ a.toInt) (h1 : a.toInt + k < 2147483648) : (c + a).toNatClampNeg = k + a.toInt.toNat := by
  show (c + a).toInt.toNat = _
  rw [iadd_toInt (by omega) (by omega)]
  omega
theorem n_toInt {a : Int32} : a.toNatClampNeg = a.toInt.toNat := rfl
/-- the first place from k on, d of them, that fits; -1 without -/
noncomputable def fI (c : Nat → Bool) : Nat → Nat → Int32
  | 0, _ => -1
  | d + 1, k => if c k then Int32.ofNat k else fI c d (k + 1)
theorem fI_spec (c : Nat → Bool) : ∀ d k : Nat, k + d < 2147483648 → (fI c d k = -1 ∧ ∀ j, k ≤ j → j < k + d → c j = false) ∨ ∃ j, k ≤ j ∧ j < k + d ∧ c j = true ∧ (fI c d k).toInt = (j : Int) ∧ ∀ i, k ≤ i → i < j → c i = false := by
  intro d
  induction d with
  | zero => exact fun k _ => .inl ⟨rfl, fun j h1 h2 => absurd h2 (by omega)⟩
  | succ d ih =>
    intro k hk
    unfold fI
    cases h : c k with
    | true => exact .inr ⟨k, Nat.le_refl _, by omega, h, by simp only [if_true]; exact iofNat_toInt (by omega), fun i h1 h2 => absurd h2 (by omega)⟩
    | false =>
      rcases ih (k + 1) (by omega) with ⟨h1, h2⟩ | ⟨j, h1, h2, h3, h4, h5⟩
      · refine .inl ⟨by simpa using h1, fun j a b => ?_⟩
        by_cases e : j = k
        · rw [e]; exact h
        · exact h2 j (by omega) (by omega)
      · refine .inr ⟨j, by omega, by omega, h3, by simpa using h4, fun i a b => ?_⟩
        by_cases e : i = k
        · rw [e]; exact h
        · exact h5 i (by omega) b
theorem fI_lo (c : Nat → Bool) (d : Nat) (h : d < 2147483648) : -1 ≤ (fI c d 0).toInt ∧ (fI c d 0).toInt < (d : Int) := by
  have l1 : (-1 : Int32).toInt = -1 := by decide
  rcases fI_spec c d 0 (by omega) with ⟨h1, -⟩ | ⟨j, -, h2, -, h4, -⟩
  · rw [h1]
    omega
  · omega
/-- a loop that seeks the first place -/
theorem fI_lpc {n : Int32} {c : Nat → Bool} {B : (Int32 → Option Int32) → Int32 → Option Int32} (hE : ∀ rec a, 0 ≤ a.toInt → n.toInt ≤ a.toInt → B rec a = some (-1)) (hS : ∀ rec a, 0 ≤ a.toInt → a.toInt < n.toInt → B rec a = if c a.toInt.toNat then some a else rec (a + 1)) : ∀ (d K : Nat) (a : Int32), d = (n.toInt - a.toInt).toNat → 0 ≤ a.toInt → d < K → lpc K B a = some (fI c d a.toInt.toNat) := by
  intro d
  induction d with
  | zero =>
    intro K a hd h0 hK
    obtain ⟨K, rfl⟩ : ∃ K', K = K' + 1 := ⟨K - 1, by omega⟩
    exact hE _ a h0 (by omega)
  | succ d ih =>
    intro K a hd h0 hK
    obtain ⟨K, rfl⟩ : ∃ K', K = K' + 1 := ⟨K - 1, by omega⟩
    refine (hS _ a h0 (by omega)).trans ?_
    unfold fI
    cases h : c a.toInt.toNat with
    | true =>
      simp only [if_true]
      exact congrArg some (Int32.toInt_inj.mp (by rw [iofNat_toInt (by have := i32_hi a; omega)]; omega))
    | false =>
      have l1 : (1 : Int32).toInt = 1 := by decide
      have e : (a + 1).toInt = a.toInt + 1 := by
        have := i32_hi n
        rw [iadd_toInt] <;> omega
      refine (if_neg (by decide)).trans ((ih K (a + 1) (by omega) (by omega) (by omega)).trans ?_)
      rw [e]
      have : (a.toInt + 1).toNat = a.toInt.toNat + 1 := by omega
      rw [this]
      simp
end FI
theorem m_rows (σ : gS) : fX10_rows σ = some (σ.1 15 9) := rfl
theorem m_points (σ : gS) : fX10_points σ = some (σ.1 15 8) := rfl
theorem m_pictures (σ : gS) : fX10_pictures σ = some (σ.1 15 7) := rfl
theorem m_pictureOf (σ : gS) {r : Int32} (h0 : 0 ≤ r.toInt) (h1 : r.toInt ≤ 59) : fX10_pictureOf σ r = some (σ.1 22 (60 + r.toInt.toNat)) := by
  have l : (60 : Int32).toInt = 60 := by decide
  have e : (60 + r).toInt = 60 + r.toInt := by rw [iadd_toInt] <;> omega
  unfold fX10_pictureOf
  refine (q_gd (gb_of (by omega) (by omega))).trans ?_
  rw [n_add (k := 60) (by decide) h0 (by omega)]
  rfl
theorem m_pointOf (σ : gS) {r : Int32} (h0 : 0 ≤ r.toInt) (h1 : r.toInt ≤ 59) : fX10_pointOf σ r = some (σ.1 23 (60 + r.toInt.toNat)) := by
  have l : (60 : Int32).toInt = 60 := by decide
  have e : (60 + r).toInt = 60 + r.toInt := by rw [iadd_toInt] <;> omega
  unfold fX10_pointOf
  refine (q_gd (gb_of (by omega) (by omega))).trans ?_
  rw [n_add (k := 60) (by decide) h0 (by omega)]
  rfl
theorem m_strip (σ : gS) {p : Int32} (h0 : 0 ≤ p.toInt) (h1 : p.toInt ≤ 11) : fX10_strip σ p = some (σ.1 16 (12 + p.toInt.toNat)) := by
  have l : (12 : Int32).toInt = 12 := by decide
  have e : (12 + p).toInt = 12 + p.toInt := by rw [iadd_toInt] <;> omega
  unfold fX10_strip
  refine (q_gd (gb_of (by omega) (by omega))).trans ?_
  rw [n_add (k := 12) (by decide) h0 (by omega)]
  rfl
theorem m_centreOf (σ : gS) {p : Int32} (h0 : 0 ≤ p.toInt) (h1 : p.toInt ≤ 11) : fX10_centreOf σ p = some (σ.1 18 (12 + p.toInt.toNat)) := by
  have l : (12 : Int32).toInt = 12 := by decide
  have e : (12 + p).toInt = 12 + p.toInt := by rw [iadd_toInt] <;> omega
  unfold fX10_centreOf
  refine (q_gd (gb_of (by omega) (by omega))).trans ?_
  rw [n_add (k := 12) (by decide) h0 (by omega)]
  rfl
/-- the row of a picture and a point, in use -/
noncomputable def RO (σ : gS) (p q : Int32) : Int32 := fI (fun r => decide (σ.1 26 r = 0 ∧ σ.1 22 (60 + r) = p ∧ σ.1 23 (60 + r) = q)) (σ.1 15 9).toInt.toNat 0
/-- the first row of a point in a started picture, in use -/
noncomputable def SR (σ : gS) (q : Int32) : Int32 := fI (fun r => decide (σ.1 26 r = 0 ∧ σ.1 23 (60 + r) = q ∧ ¬ σ.1 29 (σ.1 22 (60 + r)).toInt.toNat = 0)) (σ.1 15 9).toInt.toNat 0
theorem JM_n {σ : gS} (h : JM σ) : (0 ≤ (σ.1 15 9).toInt ∧ (σ.1 15 9).toInt ≤ 60) ∧ (0 ≤ (σ.1 15 8).toInt ∧ (σ.1 15 8).toInt ≤ 20) ∧ (0 ≤ (σ.1 15 7).toInt ∧ (σ.1 15 7).toInt ≤ 12) ∧ 0 ≤ (σ.1 15 6).toInt ∧ (σ.1 15 6).toInt ≤ 6 := ⟨h 15 9, h 15 8, h 15 7, h 15 6⟩
theorem JM_pic {σ : gS} (h : JM σ) (r : Nat) : 0 ≤ (σ.1 22 r).toInt ∧ (σ.1 22 r).toInt ≤ 11 := h 22 r
theorem JM_pt {σ : gS} (h : JM σ) (r : Nat) : 0 ≤ (σ.1 23 r).toInt ∧ (σ.1 23 r).toInt ≤ 19 := h 23 r
theorem RO_lo {σ : gS} (h : JM σ) (p q : Int32) : -1 ≤ (RO σ p q).toInt ∧ (RO σ p q).toInt ≤ 59 := by
  have h1 := (JM_n h).1
  have h2 := fI_lo (fun r => decide (σ.1 26 r = 0 ∧ σ.1 22 (60 + r) = p ∧ σ.1 23 (60 + r) = q)) (σ.1 15 9).toInt.toNat (by omega)
  unfold RO
  omega
theorem SR_lo {σ : gS} (h : JM σ) (q : Int32) : -1 ≤ (SR σ q).toInt ∧ (SR σ q).toInt ≤ 59 := by
  have h1 := (JM_n h).1
  have h2 := fI_lo (fun r => decide (σ.1 26 r = 0 ∧ σ.1 23 (60 + r) = q ∧ ¬ σ.1 29 (σ.1 22 (60 + r)).toInt.toNat = 0)) (σ.1 15 9).toInt.toNat (by omega)
  unfold SR
  omega
theorem m_rowOf {σ : gS} (h : JM σ) (p q : Int32) : fX10_rowOf σ p q = some (RO σ p q) := by
  have hn := (JM_n h).1
  unfold fX10_rowOf RO
  refine (q_nm rfl).trans ?_
  refine fI_lpc (n := σ.1 15 9) (c := fun r => decide (σ.1 26 r = 0 ∧ σ.1 22 (60 + r) = p ∧ σ.1 23 (60 + r) = q)) (fun rec a h0 h1 => ?_) (fun rec a h0 h1 => ?_) _ K9 0 (by have := z0; omega) (by decide) (by unfold K9; omega)
  · unfold bX10_rowOf_2
    exact (q_bd (m_rows σ)).trans (if_pos (q_le h1))
  · unfold bX10_rowOf_2
    refine (q_bd (m_rows σ)).trans ((if_neg (q_nle h1)).trans ((q_gd (gb_of h0 (by omega))).trans ((q_nm rfl).trans ?_)))
    rw [n_toInt]
    by_cases c1 : σ.1 26 a.toInt.toNat = 0
    · refine (if_pos c1).trans ((q_bd (m_pictureOf σ h0 (by omega))).trans ?_)
      by_cases c2 : σ.1 22 (60 + a.toInt.toNat) = p
      · refine (if_pos c2).trans ((q_bd (m_pointOf σ h0 (by omega))).trans ?_)
        by_cases c3 : σ.1 23 (60 + a.toInt.toNat) = q
        · exact (if_pos c3).trans (if_pos (decide_eq_true ⟨c1, c2, c3⟩)).symm
        · exact (if_neg c3).trans (if_neg (fun z => c3 (of_decide_eq_true z).2.2)).symm
      · exact (if_neg c2).trans (if_neg (fun z => c2 (of_decide_eq_true z).2.1)).symm
    · exact (if_neg c1).trans (if_neg (fun z => c1 (of_decide_eq_true z).1)).symm
theorem m_startedRow {σ : gS} (h : JM σ) (q : Int32) : fX10_startedRow σ q = some (SR σ q) := by
  have hn := (JM_n h).1
  unfold fX10_startedRow SR
  refine (q_nm rfl).trans ?_
  refine fI_lpc (n := σ.1 15 9) (c := fun r => decide (σ.1 26 r = 0 ∧ σ.1 23 (60 + r) = q ∧ ¬ σ.1 29 (σ.1 22 (60 + r)).toInt.toNat = 0)) (fun rec a h0 h1 => ?_) (fun rec a h0 h1 => ?_) _ K9 0 (by have := z0; omega) (by decide) (by unfold K9; omega)
  · unfold bX10_startedRow_2
    exact (q_bd (m_rows σ)).trans (if_pos (q_le h1))
  · unfold bX10_startedRow_2
    refine (q_bd (m_rows σ)).trans ((if_neg (q_nle h1)).trans ((q_gd (gb_of h0 (by omega))).trans ((q_nm rfl).trans ?_)))
    rw [n_toInt]
    have hp := JM_pic h (60 + a.toInt.toNat)
    by_cases c1 : σ.1 26 a.toInt.toNat = 0
    · refine (if_pos c1).trans ((q_bd (m_pointOf σ h0 (by omega))).trans ?_)
      by_cases c2 : σ.1 23 (60 + a.toInt.toNat) = q
      · refine (if_pos c2).trans ((q_bd (m_pictureOf σ h0 (by omega))).trans ((q_gd (gb_of hp.1 (by omega))).trans ((q_nm rfl).trans ?_)))
        rw [n_toInt]
        by_cases c3 : σ.1 29 (σ.1 22 (60 + a.toInt.toNat)).toInt.toNat = 0
        · exact (if_pos c3).trans (if_neg (fun z => (of_decide_eq_true z).2.2 c3)).symm
        · exact (if_neg c3).trans (if_pos (decide_eq_true ⟨c1, c2, c3⟩)).symm
      · exact (if_neg c2).trans (if_neg (fun z => c2 (of_decide_eq_true z).2.1)).symm
    · exact (if_neg c1).trans (if_neg (fun z => c1 (of_decide_eq_true z).1)).symm
theorem ok_is {β : Type} {o : Option β} {x : β} {P : β → Prop} (h : o = some x) (hp : P x) : Ok o P := ⟨x, h, hp⟩
theorem ok_bde {β γ : Type} {o : Option γ} {E : γ → Option β} {x : γ} {P : β → Prop} (h : o = some x) (hp : Ok (E x) P) : Ok (bd o E) P := ok_bd.mpr (ok_is h hp)
theorem i_inc {a : Int32} {c : Int} (h0 : -5 ≤ a.toInt) (h1 : a.toInt ≤ c) (hc : c ≤ 1000000) : (a + 1).toInt = a.toInt + 1 := by
  have l1 : (1 : Int32).toInt = 1 := by decide
  rw [iadd_toInt] <;> omega
/-- a point that a picture shares with a started one -/
noncomputable def SH (σ : gS) (p : Int32) : Prop := ∃ q : Int32, 0 ≤ q.toInt ∧ q.toInt < (σ.1 15 8).toInt ∧ RO σ p q ≠ -1 ∧ SR σ q ≠ -1
/-- a point that two pictures share -/
noncomputable def SP (σ : gS) (a b : Int32) : Prop := ∃ q : Int32, 0 ≤ q.toInt ∧ q.toInt < (σ.1 15 8).toInt ∧ RO σ a q ≠ -1 ∧ RO σ b q ≠ -1
theorem RO_ok {σ : gS} (h : JM σ) {p q : Int32} (hn : RO σ p q ≠ -1) : 0 ≤ (RO σ p q).toInt ∧ (RO σ p q).toInt ≤ 59 := by
  have h1 := RO_lo h p q
  have : (RO σ p q).toInt ≠ -1 := fun z => hn (q_of (-1) (z.trans (by decide)))
  omega
theorem SR_ok {σ : gS} (h : JM σ) {q : Int32} (hn : SR σ q ≠ -1) : 0 ≤ (SR σ q).toInt ∧ (SR σ q).toInt ≤ 59 := by
  have h1 := SR_lo h q
  have : (SR σ q).toInt ≠ -1 := fun z => hn (q_of (-1) (z.trans (by decide)))
  omega
/-- how many of the first n fit -/
noncomputable def cN (c : Nat → Bool) : Nat → Nat
  | 0 => 0
  | n + 1 => cN c n + (if c n then 1 else 0)
theorem cN_le (c : Nat → Bool) : ∀ n, cN c n ≤ n
  | 0 => Nat.le_refl _
  | n + 1 => by
    have := cN_le c n
    unfold cN
    split <;> omega
theorem cN_mono {c c' : Nat → Bool} (h : ∀ j, c' j = true → c j = true) : ∀ n, cN c' n ≤ cN c n
  | 0 => Nat.le_refl _
  | n + 1 => by
    have h1 := cN_mono h n
    have h2 := h n
    unfold cN
    cases e : c' n with
    | true => rw [e] at h2; rw [h2 rfl]; simp only [if_true]; omega
    | false => simp only [Bool.false_eq_true, if_false]; omega
theorem cN_dec {c c' : Nat → Bool} {p : Nat} (h : ∀ j, c' j = true → c j = true) (h1 : c p = true) (h2 : c' p = false) : ∀ n, p < n → cN c' n + 1 ≤ cN c n
  | 0, z => absurd z (Nat.not_lt_zero _)
  | n + 1, z => by
    unfold cN
    by_cases e : p = n
    · subst e
      have := cN_mono h p
      rw [h1, h2]
      simp only [if_true, Bool.false_eq_true, if_false]
      omega
    · have h3 := cN_dec h h1 h2 n (by omega)
      have h4 := h n
      cases e2 : c' n with
      | true => rw [e2] at h4; rw [h4 rfl]; simp only [if_true]; omega
      | false => simp only [Bool.false_eq_true, if_false]; omega
theorem cN_pos {c : Nat → Bool} {p : Nat} (h1 : c p = true) : ∀ n, p < n → 1 ≤ cN c n
  | 0, z => absurd z (Nat.not_lt_zero _)
  | n + 1, z => by
    unfold cN
    by_cases e : p = n
    · subst e
      rw [h1]
      simp only [if_true]
      omega
    · have := cN_pos h1 n (by omega)
      omega
/-- the first picture that is not started -/
noncomputable def fnS (σ : gS) : Int32 := fI (fun p => decide (σ.1 29 p = 0)) (σ.1 15 7).toInt.toNat 0
/-- how many pictures are not started -/
noncomputable def nSt (σ : gS) : Nat := cN (fun p => decide (σ.1 29 p = 0)) 12
theorem nSt_le (σ : gS) : nSt σ ≤ 12 := cN_le _ _
theorem nSt_dec {σ τ : gS} {p : Nat} (hp : p < 12) (h0 : σ.1 29 p = 0) (h1 : ∀ j, τ.1 29 j = if j = p then 1 else σ.1 29 j) : nSt τ < nSt σ := by
  have := cN_dec (c := fun p => decide (σ.1 29 p = 0)) (c' := fun p => decide (τ.1 29 p = 0)) (p := p) (fun j hj => by
    have hj := of_decide_eq_true hj
    rw [h1] at hj
    by_cases e : j = p
    · rw [e]; exact decide_eq_true h0
    · rw [if_neg e] at hj; exact decide_eq_true hj) (decide_eq_true h0) (by
    rw [h1, if_pos rfl]
    decide) 12 hp
  unfold nSt
  omega
theorem nSt_fr {L : List (Nat × Nat)} {σ τ : gS} (h : Fr L σ τ) (hL : (29, 0) ∉ L) (hL2 : ∀ i, (29, i + 1) ∉ L) : nSt τ = nSt σ := by
  unfold nSt
  congr 1
  funext p
  rw [(h 29 p hL (hL2 p)).1]
theorem i64_lo (x : Int64) : -9223372036854775808 ≤ x.toInt := by have := Int64.le_toInt x; simpa using this
theorem i64_hi (x : Int64) : x.toInt ≤ 9223372036854775807 := by have := Int64.toInt_lt x; omega
theorem ladd_toInt {x y : Int64} (h0 : -9223372036854775808 ≤ x.toInt + y.toInt) (h1 : x.toInt + y.toInt ≤ 9223372036854775807) : (x + y).toInt = x.toInt + y.toInt := by
  rw [Int64.toInt_add, Int.bmod_eq_of_le] <;> simp <;> omega
theorem lsub_toInt {x y : Int64} (h0 : -9223372036854775808 ≤ x.toInt - y.toInt) (h1 : x.toInt - y.toInt ≤ 9223372036854775807) : (x - y).toInt = x.toInt - y.toInt := by
  rw [Int64.toInt_sub, Int.bmod_eq_of_le] <;> simp <;> omega
theorem lmul_toInt {x y : Int64} (h0 : -9223372036854775808 ≤ x.toInt * y.toInt) (h1 : x.toInt * y.toInt ≤ 9223372036854775807) : (x * y).toInt = x.toInt * y.toInt := by
  rw [Int64.toInt_mul, Int.bmod_eq_of_le] <;> simp <;> omega
theorem ldiv_nn {x c : Int64} (hx : 0 ≤ x.toInt) (hc : 0 < c.toInt) : (x / c).toInt = x.toInt / c.toInt := by
  rw [Int64.toInt_div, Int.tdiv_eq_ediv_of_nonneg hx]
  have h2 := i64_hi x
  have h1 : x.toInt / c.toInt ≤ x.toInt := Int.ediv_le_self _ hx
  have h0 : 0 ≤ x.toInt / c.toInt := Int.ediv_nonneg hx (by omega)
  rw [Int.bmod_eq_of_le] <;> simp <;> omega
theorem lrm_nn {x c : Int64} (hx : 0 ≤ x.toInt) (hc : 0 < c.toInt) : (lrm x c).toInt = x.toInt % c.toInt := by
  have h := ldiv_nn hx hc
  have h2 := i64_hi x
  have h3 : x.toInt / c.toInt * c.toInt ≤ x.toInt := Int.ediv_mul_le _ (by omega)
  have h4 : 0 ≤ x.toInt / c.toInt * c.toInt := Int.mul_nonneg (Int.ediv_nonneg hx (by omega)) (by omega)
  have h5 : (x / c * c).toInt = x.toInt / c.toInt * c.toInt := by
    rw [lmul_toInt, h]
    · rw [h]; omega
    · rw [h]; omega
  unfold lrm
  rw [lsub_toInt (by omega) (by omega), h5, Int.emod_def, Int.mul_comm c.toInt]
theorem l_toInt32 {x : Int64} (h0 : -2147483648 ≤ x.toInt) (h1 : x.toInt ≤ 2147483647) : x.toInt32.toInt = x.toInt := by
  rw [Int64.toInt_toInt32, Int.bmod_eq_of_le] <;> simp <;> omega
theorem q_lle {x y : Int64} (h : x.toInt ≤ y.toInt) : x ≤ y := Int64.le_iff_toInt_le.mpr h
theorem q_lgt {x y : Int64} (h : ¬ x ≤ y) : y.toInt < x.toInt := by
  by_cases c : x.toInt ≤ y.toInt
  · exact absurd (q_lle c) h
  · omega
theorem m_isIn (σ : gS) (a b c : Int64) : (fX10_isIn σ a b c = some 1 ∧ b.toInt ≤ a.toInt ∧ a.toInt ≤ c.toInt) ∨ (fX10_isIn σ a b c = some 0 ∧ (a.toInt < b.toInt ∨ c.toInt < a.toInt)) := by
  unfold fX10_isIn
  by_cases h : a < b
  · exact .inr ⟨if_pos h, .inl (Int64.lt_iff_toInt_lt.mp h)⟩
  · have h3 : ¬ a.toInt < b.toInt := fun z => h (Int64.lt_iff_toInt_lt.mpr z)
    by_cases h2 : c < a
    · exact .inr ⟨(if_neg h).trans (if_pos h2), .inr (Int64.lt_iff_toInt_lt.mp h2)⟩
    · have h4 : ¬ c.toInt < a.toInt := fun z => h2 (Int64.lt_iff_toInt_lt.mpr z)
      exact .inl ⟨(if_neg h).trans (if_neg h2), by omega, by omega⟩
/-- is there a place from k on, d of them, that fits -/
noncomputable def eI (c : Nat → Bool) : Nat → Nat → Int32
  | 0, _ => 0
  | d + 1, k => if c k then 1 else eI c d (k + 1)
theorem eI_spec (c : Nat → Bool) : ∀ d k : Nat, (eI c d k = 0 ∧ ∀ j, k ≤ j → j < k + d → c j = false) ∨ (eI c d k = 1 ∧ ∃ j, k ≤ j ∧ j < k + d ∧ c j = true) := by
  intro d
  induction d with
  | zero => exact fun k => .inl ⟨rfl, fun j h1 h2 => absurd h2 (by omega)⟩
  | succ d ih =>
    intro k
    unfold eI
    cases h : c k with
    | true => exact .inr ⟨by simp, k, Nat.le_refl _, by omega, h⟩
    | false =>
      rcases ih (k + 1) with ⟨h1, h2⟩ | ⟨h1, j, h2, h3, h4⟩
      · refine .inl ⟨by simpa using h1, fun j a b => ?_⟩
        by_cases e : j = k
        · rw [e]; exact h
        · exact h2 j (by omega) (by omega)
      · exact .inr ⟨by simpa using h1, j, by omega, by omega, h4⟩
theorem eI_lpc {n : Int32} {c : Nat → Bool} {B : (Int32 → Option Int32) → Int32 → Option Int32} (hE : ∀ rec a, 0 ≤ a.toInt → n.toInt ≤ a.toInt → B rec a = some 0) (hS : ∀ rec a, 0 ≤ a.toInt → a.toInt < n.toInt → B rec a = if c a.toInt.toNat then some 1 else rec (a + 1)) : ∀ (d K : Nat) (a : Int32), d = (n.toInt - a.toInt).toNat → 0 ≤ a.toInt → d < K → lpc K B a = some (eI c d a.toInt.toNat) := by
  intro d
  induction d with
  | zero =>
    intro K a hd h0 hK
    obtain ⟨K, rfl⟩ : ∃ K', K = K' + 1 := ⟨K - 1, by omega⟩
    exact hE _ a h0 (by omega)
  | succ d ih =>
    intro K a hd h0 hK
    obtain ⟨K, rfl⟩ : ∃ K', K = K' + 1 := ⟨K - 1, by omega⟩
    refine (hS _ a h0 (by omega)).trans ?_
    unfold eI
    cases h : c a.toInt.toNat with
    | true => simp
    | false =>
      have l1 : (1 : Int32).toInt = 1 := by decide
      have e : (a + 1).toInt = a.toInt + 1 := by
        have := i32_hi n
        rw [iadd_toInt] <;> omega
      refine (if_neg (by decide)).trans ((ih K (a + 1) (by omega) (by omega) (by omega)).trans ?_)
      rw [e]
      have : (a.toInt + 1).toNat = a.toInt.toNat + 1 := by omega
      rw [this]
      simp
theorem m_hasDrift {σ : gS} (hIσ : JM σ) (s : Int32) : fX10_hasDrift σ s = some (eI (fun p => decide (σ.1 16 (12 + p) = s ∧ ¬ σ.1 18 (12 + p) ≤ 0)) (σ.1 15 7).toInt.toNat 0) := by
  have hn := (JM_n hIσ).2.2.1
  unfold fX10_hasDrift
  refine (q_nm rfl).trans ?_
  refine eI_lpc (n := σ.1 15 7) (c := fun p => decide (σ.1 16 (12 + p) = s ∧ ¬ σ.1 18 (12 + p) ≤ 0)) (fun rec a h0 h1 => ?_) (fun rec a h0 h1 => ?_) _ K9 0 (by have := z0; omega) (by decide) (by unfold K9; omega)
  · unfold bX10_hasDrift_2
    exact (q_bd (m_pictures σ)).trans (if_pos (q_le h1))
  · unfold bX10_hasDrift_2
    refine (q_bd (m_pictures σ)).trans ((if_neg (q_nle h1)).trans ((q_bd (m_strip σ h0 (by omega))).trans ?_))
    by_cases c1 : σ.1 16 (12 + a.toInt.toNat) = s
    · refine (if_pos c1).trans ((q_bd (m_centreOf σ h0 (by omega))).trans ?_)
      by_cases c2 : σ.1 18 (12 + a.toInt.toNat) ≤ 0
      · exact (if_pos c2).trans (if_neg (fun z => (of_decide_eq_true z).2 c2)).symm
      · exact (if_neg c2).trans (if_pos (decide_eq_true ⟨c1, c2⟩)).symm
    · exact (if_neg c1).trans (if_neg (fun z => c1 (of_decide_eq_true z).1)).symm
/-- whether an unknown is used, as a number -/
noncomputable def IU (σ : gS) (k : Int32) : Int32 := if k < 32 then (if 12 ≤ k then eI (fun r => decide (σ.1 26 r = 0 ∧ σ.1 23 (60 + r) = k - 12)) (σ.1 15 9).toInt.toNat 0 else if σ.1 18 (12 + k.toInt.toNat) ≤ 0 then eI (fun r => decide (σ.1 26 r = 0 ∧ σ.1 22 (60 + r) = k)) (σ.1 15 9).toInt.toNat 0 else 1) else vp_nar .boolean (eI (fun p => decide (σ.1 16 (12 + p) = k - 32 ∧ ¬ σ.1 18 (12 + p) ≤ 0)) (σ.1 15 7).toInt.toNat 0)
theorem m_isUsed {σ : gS} (hIσ : JM σ) {k : Int32} (h0 : 0 ≤ k.toInt) (h1 : k.toInt ≤ 37) : fX10_isUsed σ k = some (IU σ k) := by
  have hn := (JM_n hIσ).1
  have l12 : (12 : Int32).toInt = 12 := by decide
  have l32 : (32 : Int32).toInt = 32 := by decide
  unfold fX10_isUsed IU
  have L : lpc (S := Int32) K9 (fun rec s => bX10_isUsed_33 σ k (fun a2 => rec (a2)) s) 0 = some (eI (fun r => decide (σ.1 26 r = 0 ∧ (if 12 ≤ k then σ.1 23 (60 + r) = k - 12 else σ.1 22 (60 + r) = k))) (σ.1 15 9).toInt.toNat 0) := by
    refine eI_lpc (n := σ.1 15 9) (c := fun r => decide (σ.1 26 r = 0 ∧ (if 12 ≤ k then σ.1 23 (60 + r) = k - 12 else σ.1 22 (60 + r) = k))) (fun rec a h0 h1 => ?_) (fun rec a h0 h1 => ?_) _ K9 0 (by have := z0; omega) (by decide) (by unfold K9; omega)
    · unfold bX10_isUsed_33
      exact (q_bd (m_rows σ)).trans (if_pos (q_le h1))
    · unfold bX10_isUsed_33
      refine (q_bd (m_rows σ)).trans ((if_neg (q_nle h1)).trans ((q_gd (gb_of h0 (by omega))).trans ((q_nm rfl).trans ?_)))
      rw [n_toInt]
      by_cases c1 : σ.1 26 a.toInt.toNat = 0
      · refine (if_pos c1).trans ?_
        by_cases c2 : 12 ≤ k
        · refine (if_pos c2).trans ((q_bd (m_pointOf σ h0 (by omega))).trans ?_)
          by_cases c3 : σ.1 23 (60 + a.toInt.toNat) = k - 12
          · exact (if_pos c3).trans (if_pos (decide_eq_true ⟨c1, by rw [if_pos c2]; exact c3⟩)).symm
          · exact (if_neg c3).trans (if_neg (fun z => c3 (by have := (of_decide_eq_true z).2; rw [if_pos c2] at this; exact this))).symm
        · refine (if_neg c2).trans ((q_bd (m_pictureOf σ h0 (by omega))).trans ?_)
          by_cases c3 : σ.1 22 (60 + a.toInt.toNat) = k
          · exact (if_pos c3).trans (if_pos (decide_eq_true ⟨c1, by rw [if_neg c2]; exact c3⟩)).symm
          · exact (if_neg c3).trans (if_neg (fun z => c3 (by have := (of_decide_eq_true z).2; rw [if_neg c2] at this; exact this))).symm
      · exact (if_neg c1).trans (if_neg (fun z => c1 (of_decide_eq_true z).1)).symm
  by_cases c1 : k < 32
  · rw [if_pos c1, if_pos c1]
    by_cases c2 : 12 ≤ k
    · rw [if_pos c2, if_pos c2]
      refine (q_nm rfl).trans (L.trans ?_)
      simp only [if_pos c2]
    · rw [if_neg c2, if_neg c2]
      have k12 : k.toInt ≤ 11 := by
        have := q_gt c2
        omega
      refine (q_bd (m_centreOf σ h0 k12)).trans ?_
      by_cases c3 : σ.1 18 (12 + k.toInt.toNat) ≤ 0
      · rw [if_pos c3, if_pos c3]
        refine (q_nm rfl).trans (L.trans ?_)
        simp only [if_neg c2]
      · rw [if_neg c3, if_neg c3]
  · rw [if_neg c1, if_neg c1]
    exact (q_bd (m_hasDrift hIσ _)).trans rfl
theorem IU_b (σ : gS) (k : Int32) : 0 ≤ (IU σ k).toInt ∧ (IU σ k).toInt ≤ 1 := by
  unfold IU
  have one : ∀ (c : Nat → Bool) (d : Nat), 0 ≤ (eI c d 0).toInt ∧ (eI c d 0).toInt ≤ 1 := fun c d => by
    rcases eI_spec c d 0 with ⟨h, -⟩ | ⟨h, -⟩ <;> rw [h] <;> decide
  split
  · split
    · exact one _ _
    · split
      · exact one _ _
      · decide
  · exact nar_bool _
/-- what is used -/
theorem IU_pic {σ : gS} (hIσ : JM σ) {r : Nat} (hr : (r : Int) < (σ.1 15 9).toInt) (hd : σ.1 26 r = 0) : IU σ (σ.1 22 (60 + r)) ≠ 0 := by
  have hp := JM_pic hIσ (60 + r)
  have l12 : (12 : Int32).toInt = 12 := by decide
  have l32 : (32 : Int32).toInt = 32 := by decide
  unfold IU
  rw [if_pos (Int32.lt_iff_toInt_lt.mpr (by omega)), if_neg (fun z => by have := Int32.le_iff_toInt_le.mp z; omega)]
  split
  · rcases eI_spec (fun r' => decide (σ.1 26 r' = 0 ∧ σ.1 22 (60 + r') = σ.1 22 (60 + r))) (σ.1 15 9).toInt.toNat 0 with ⟨-, h⟩ | ⟨h, -⟩
    · have := h r (by omega) (by omega)
      simp [hd] at this
    · rw [h]; decide
  · decide
theorem IU_pt {σ : gS} (hIσ : JM σ) {r : Nat} (hr : (r : Int) < (σ.1 15 9).toInt) (hd : σ.1 26 r = 0) : IU σ (12 + σ.1 23 (60 + r)) ≠ 0 := by
  have hp := JM_pt hIσ (60 + r)
  have l12 : (12 : Int32).toInt = 12 := by decide
  have l32 : (32 : Int32).toInt = 32 := by decide
  have e : (12 + σ.1 23 (60 + r)).toInt = 12 + (σ.1 23 (60 + r)).toInt := by rw [iadd_toInt] <;> omega
  have e2 : 12 + σ.1 23 (60 + r) - 12 = σ.1 23 (60 + r) := Int32.toInt_inj.mp (by rw [isub_toInt] <;> omega)
  unfold IU
  rw [if_pos (Int32.lt_iff_toInt_lt.mpr (by omega)), if_pos (Int32.le_iff_toInt_le.mpr (by omega)), e2]
  rcases eI_spec (fun r' => decide (σ.1 26 r' = 0 ∧ σ.1 23 (60 + r') = σ.1 23 (60 + r))) (σ.1 15 9).toInt.toNat 0 with ⟨-, h⟩ | ⟨h, -⟩
  · have := h r (by omega) (by omega)
    simp [hd] at this
  · rw [h]; decide
theorem IU_cen {σ : gS} {p : Int32} (h0 : 0 ≤ p.toInt) (h1 : p.toInt ≤ 11) (hc : ¬ σ.1 18 (12 + p.toInt.toNat) ≤ 0) : IU σ p ≠ 0 := by
  have l12 : (12 : Int32).toInt = 12 := by decide
  have l32 : (32 : Int32).toInt = 32 := by decide
  unfold IU
  rw [if_pos (Int32.lt_iff_toInt_lt.mpr (by omega)), if_neg (fun z => by have := Int32.le_iff_toInt_le.mp z; omega), if_neg hc]
  decide
theorem IU_dr {σ : gS} (hIσ : JM σ) {p : Nat} (hp : (p : Int) < (σ.1 15 7).toInt) (hc : ¬ σ.1 18 (12 + p) ≤ 0) : IU σ (32 + σ.1 16 (12 + p)) ≠ 0 := by
  have hs : 0 ≤ (σ.1 16 (12 + p)).toInt ∧ (σ.1 16 (12 + p)).toInt ≤ 5 := hIσ 16 (12 + p)
  have l32 : (32 : Int32).toInt = 32 := by decide
  have e : (32 + σ.1 16 (12 + p)).toInt = 32 + (σ.1 16 (12 + p)).toInt := by rw [iadd_toInt] <;> omega
  have e2 : 32 + σ.1 16 (12 + p) - 32 = σ.1 16 (12 + p) := Int32.toInt_inj.mp (by rw [isub_toInt] <;> omega)
  unfold IU
  rw [if_neg (fun z => by have := Int32.lt_iff_toInt_lt.mp z; omega), e2]
  rcases eI_spec (fun p' => decide (σ.1 16 (12 + p') = σ.1 16 (12 + p) ∧ ¬ σ.1 18 (12 + p') ≤ 0)) (σ.1 15 7).toInt.toNat 0 with ⟨-, h⟩ | ⟨h, -⟩
  · have := h p (by omega) (by omega)
    simp [hc] at this
  · rw [h]; decide
/-- what is used hangs on the told block and the rows in use alone -/
theorem IU_eq {σ τ : gS} (h15 : τ.1 15 = σ.1 15) (h16 : τ.1 16 = σ.1 16) (h18 : τ.1 18 = σ.1 18) (h22 : τ.1 22 = σ.1 22) (h23 : τ.1 23 = σ.1 23) (h26 : τ.1 26 = σ.1 26) (k : Int32) : IU τ k = IU σ k := by
  unfold IU
  rw [h15, h16, h18, h22, h23, h26]
theorem m_numberOf {σ : gS} (hIσ : JM σ) (k : Int32) : fX10_numberOf σ k = some (fI (fun i => decide (σ.1 30 i = k)) (σ.1 0 43).toInt.toNat 0) := by
  have hn := hIσ 0 43
  have hn : 0 ≤ (σ.1 0 43).toInt ∧ (σ.1 0 43).toInt ≤ 38 := hn
  unfold fX10_numberOf
  refine (q_nm rfl).trans ?_
  refine fI_lpc (n := σ.1 0 43) (c := fun i => decide (σ.1 30 i = k)) (fun rec a h0 h1 => ?_) (fun rec a h0 h1 => ?_) _ K9 0 (by have := z0; omega) (by decide) (by unfold K9; omega)
  · unfold bX10_numberOf_2
    exact if_pos (q_le h1)
  · unfold bX10_numberOf_2
    refine (if_neg (q_nle h1)).trans ((q_gd (gb_of h0 (by omega))).trans ((q_nm rfl).trans ?_))
    rw [n_toInt]
    by_cases c1 : σ.1 30 a.toInt.toNat = k
    · exact (if_pos c1).trans (if_pos (decide_eq_true c1)).symm
    · exact (if_neg c1).trans (if_neg (fun z => c1 (of_decide_eq_true z))).symm
/-- a number that is there is found -/
theorem m_number {σ : gS} (hIσ : JM σ) {k : Int32} (h : ∃ i : Nat, (i : Int) < (σ.1 0 43).toInt ∧ σ.1 30 i = k) : ∃ x, fX10_numberOf σ k = some x ∧ 0 ≤ x.toInt ∧ x.toInt ≤ 37 := by
  have hn : 0 ≤ (σ.1 0 43).toInt ∧ (σ.1 0 43).toInt ≤ 38 := hIσ 0 43
  obtain ⟨i, h1, h2⟩ := h
  refine ⟨_, m_numberOf hIσ k, ?_⟩
  rcases fI_spec (fun i => decide (σ.1 30 i = k)) (σ.1 0 43).toInt.toNat 0 (by omega) with ⟨-, h3⟩ | ⟨j, -, h4, -, h5, -⟩
  · have := h3 i (by omega) (by omega)
    simp [h2] at this
  · rw [h5]
    omega
/-- of the block that is told: rows are of pictures and points that are there, pictures of strips that are there -/
noncomputable def RM (σ : gS) : Prop := (∀ r : Nat, (r : Int) < (σ.1 15 9).toInt → (σ.1 22 (60 + r)).toInt < (σ.1 15 7).toInt ∧ (σ.1 23 (60 + r)).toInt < (σ.1 15 8).toInt) ∧ ∀ p : Nat, (p : Int) < (σ.1 15 7).toInt → (σ.1 16 (12 + p)).toInt < (σ.1 15 6).toInt
/-- an unknown is there -/
noncomputable def TH (σ : gS) (k : Int32) : Prop := (k.toInt < 12 → k.toInt < (σ.1 15 7).toInt) ∧ (12 ≤ k.toInt → k.toInt < 32 → k.toInt - 12 < (σ.1 15 8).toInt ∧ fX10_isControl σ (k - 12) = some 0) ∧ (32 ≤ k.toInt → k.toInt - 32 < (σ.1 15 6).toInt)
/-- the unknowns are numbered -/
noncomputable def NK (σ τ : gS) : Prop := ∀ k : Int32, 0 ≤ k.toInt → k.toInt ≤ 37 → TH σ k → IU σ k ≠ 0 → ∃ i : Nat, (i : Int) < (τ.1 0 43).toInt ∧ τ.1 30 i = k
theorem m_isControl (σ : gS) {q : Int32} (h0 : 0 ≤ q.toInt) (h1 : q.toInt ≤ 19) : fX10_isControl σ q = some 0 ∨ fX10_isControl σ q = some 1 := by
  have l20 : (20 : Int32).toInt = 20 := by decide
  have e : (20 + q).toInt = 20 + q.toInt := by rw [iadd_toInt] <;> omega
  unfold fX10_isControl
  rw [q_gd (gb_of (by omega) (by omega))]
  show (if σ.1 20 (20 + q).toNatClampNeg = 0 then some 0 else if (((σ.1 0 36) >>> ((σ.1 20 (20 + q).toNatClampNeg - 1) &&& 31)) &&& 1) = 1 then some 1 else some 0) = some (0 : Int32) ∨ (if σ.1 20 (20 + q).toNatClampNeg = 0 then some 0 else if (((σ.1 0 36) >>> ((σ.1 20 (20 + q).toNatClampNeg - 1) &&& 31)) &&& 1) = 1 then some 1 else some 0) = some (1 : Int32)
  by_cases c1 : σ.1 20 (20 + q).toNatClampNeg = 0
  · exact .inl (if_pos c1)
  · by_cases c2 : (((σ.1 0 36) >>> ((σ.1 20 (20 + q).toNatClampNeg - 1) &&& 31)) &&& 1) = 1
    · exact .inr ((if_neg c1).trans (if_pos c2))
    · exact .inl ((if_neg c1).trans (if_neg c2))
theorem isControl_eq {σ τ : gS} (h20 : τ.1 20 = σ.1 20) (h36 : τ.1 0 36 = σ.1 0 36) (q : Int32) : fX10_isControl τ q = fX10_isControl σ q := by
  unfold fX10_isControl
  rw [h20, h36]
