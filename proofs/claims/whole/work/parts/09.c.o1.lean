/-! INTERVALS: what each cell's numbers lie between, kept by every method; which cells a method writes; that each method comes through -/
section IV
theorem i32_lo (x : Int32) : -2147483648 ≤ x.toInt := by have := Int32.le_toInt x; simpa using this
theorem i32_hi (x : Int32) : x.toInt ≤ 2147483647 := by have := Int32.toInt_lt x; omega
theorem ok_nm2 {β γ : Type} {v : γ} {E : γ → Option β} {P : β → Prop} (k : ∀ y, y = v → Ok (E y) P) : Ok (nm v E) P := k v rfl
theorem nar_bool (x : Int32) : 0 ≤ (vp_nar .boolean x).toInt ∧ (vp_nar .boolean x).toInt ≤ 1 := by
  show 0 ≤ (x &&& 1).toInt ∧ (x &&& 1).toInt ≤ 1
  have h : x &&& 1 = 0 ∨ x &&& 1 = 1 := by
    have e : (x &&& 1).toBitVec = x.toBitVec &&& 1#32 := rfl
    rw [← Int32.toBitVec_inj, ← Int32.toBitVec_inj, e, BitVec.and_one_eq_setWidth_ofBool_getLsbD]
    cases x.toBitVec.getLsbD 0
    · exact Or.inl rfl
    · exact Or.inr rfl
  rcases h with h | h <;> rw [h] <;> decide
theorem ineg_toInt {x : Int32} (h : -2147483648 < x.toInt) : (-x).toInt = -x.toInt := by
  have := i32_hi x
  rw [Int32.toInt_neg, Int.bmod_eq_of_le] <;> simp <;> omega
theorem imulc {x y : Int32} {c : Int} (hc : x.toInt = c) (h0 : -2147483648 ≤ c * y.toInt) (h1 : c * y.toInt < 2147483648) : (x * y).toInt = c * y.toInt := by
  rw [← hc] at h0 h1 ⊢
  exact imul_toInt h0 h1
def Fr (L : List (Nat × Nat)) (σ σ' : gS) : Prop := ∀ k i, (k, 0) ∉ L → (k, i + 1) ∉ L → σ'.1 k i = σ.1 k i ∧ σ'.2 k i = σ.2 k i
theorem Fr_r {L : List (Nat × Nat)} {σ : gS} : Fr L σ σ := fun _ _ _ _ => ⟨rfl, rfl⟩
theorem Fr_w {L : List (Nat × Nat)} {σ σ1 : gS} {k i : Nat} {x : Int32} (h : Fr L σ σ1) (hm : (k, i + 1) ∈ L) : Fr L σ (gsI σ1 k i x) := fun a j h1 h2 => by
  refine ⟨?_, (h a j h1 h2).2⟩
  rw [gsI_1, if_neg (by rintro ⟨rfl, rfl⟩; exact h2 hm)]
  exact (h a j h1 h2).1
theorem Fr_w0 {L : List (Nat × Nat)} {σ σ1 : gS} {k i : Nat} {x : Int32} (h : Fr L σ σ1) (hm : (k, 0) ∈ L) : Fr L σ (gsI σ1 k i x) := fun a j h1 h2 => by
  refine ⟨?_, (h a j h1 h2).2⟩
  rw [gsI_1, if_neg (by rintro ⟨rfl, rfl⟩; exact h1 hm)]
  exact (h a j h1 h2).1
theorem Fr_l {L : List (Nat × Nat)} {σ σ1 : gS} {k i : Nat} {x : Int64} (h : Fr L σ σ1) (hm : (k, i + 1) ∈ L) : Fr L σ (gsL σ1 k i x) := fun a j h1 h2 => by
  refine ⟨(h a j h1 h2).1, ?_⟩
  rw [gsL_2, if_neg (by rintro ⟨rfl, rfl⟩; exact h2 hm)]
  exact (h a j h1 h2).2
theorem Fr_l0 {L : List (Nat × Nat)} {σ σ1 : gS} {k i : Nat} {x : Int64} (h : Fr L σ σ1) (hm : (k, 0) ∈ L) : Fr L σ (gsL σ1 k i x) := fun a j h1 h2 => by
  refine ⟨(h a j h1 h2).1, ?_⟩
  rw [gsL_2, if_neg (by rintro ⟨rfl, rfl⟩; exact h1 hm)]
  exact (h a j h1 h2).2
theorem Fr_c {L Lc : List (Nat × Nat)} {σ σ1 σ2 : gS} (h : Fr L σ σ1) (hc : Fr Lc σ1 σ2) (hs : ∀ q ∈ Lc, q ∈ L ∨ (q.1, 0) ∈ L) : Fr L σ σ2 := fun a j h1 h2 => by
  have h3 : (a, 0) ∉ Lc := fun z => (hs _ z).elim h1 h1
  have h4 : (a, j + 1) ∉ Lc := fun z => (hs _ z).elim h2 h1
  exact ⟨(hc a j h3 h4).1.trans (h a j h1 h2).1, (hc a j h3 h4).2.trans (h a j h1 h2).2⟩
end IV
def bM : Nat → Nat → Int × Int
  | 0, i => ([(-2147483648, 2147483647), (0, 1600), (0, 1600), (0, 1600), (-1, 1600), (0, 4), (-1, 1600), (0, 4), (-1, 1600), (-2147483648, 2147483647), (-2147483648, 2147483647), (-2147483648, 2147483647), (-2147483648, 2147483647), (-2147483648, 2147483647), (-2147483648, 2147483647), (-2147483648, 2147483647), (-2147483648, 2147483647), (-2147483648, 2147483647), (-2147483648, 2147483647), (-2147483648, 2147483647), (-2147483648, 2147483647), (0, 1600), (-2147483648, 2147483647), (-2147483648, 2147483647), (-2147483648, 2147483647), (-2147483648, 2147483647), (-2147483648, 2147483647), (-2147483648, 2147483647), (-2147483648, 2147483647), (-2147483648, 2147483647), (-2147483648, 2147483647), (-2147483648, 2147483647), (-2147483648, 2147483647), (-2147483648, 2147483647), (0, 120), (-2147483648, 2147483647), (0, 3), (-2147483648, 2147483647), (-2147483648, 2147483647), (-2147483648, 2147483647), (-2147483648, 2147483647), (-2147483648, 2147483647), (-2147483648, 2147483647), (0, 38), (-2147483648, 2147483647), (-2147483648, 2147483647), (-2147483648, 2147483647), (-2147483648, 2147483647), (-2147483648, 2147483647), (-2147483648, 2147483647), (-2147483648, 2147483647), (-2147483648, 2147483647), (0, 3), (-2147483648, 2147483647), (-2147483648, 2147483647), (-2147483648, 2147483647), (0, 378)] : List (Int × Int)).getD i (-2147483648, 2147483647)
  | 1, _ => (0, 255)
  | 2, _ => (105, 116)
  | 3, _ => (99, 117)
  | 4, _ => (105, 110)
  | 5, _ => (110, 117)
  | 6, _ => (97, 121)
  | 7, _ => (105, 116)
  | 8, _ => (111, 119)
  | 9, _ => (97, 116)
  | 10, _ => (101, 119)
  | 11, _ => (99, 116)
  | 12, _ => (101, 116)
  | 13, _ => (99, 116)
  | 15, i => ([(0, 6), (0, 12), (0, 20), (0, 60), (-2147483648, 2147483647), (-2147483648, 2147483647), (0, 6), (0, 12), (0, 20), (0, 60), (-2147483648, 2147483647), (-2147483648, 2147483647)] : List (Int × Int)).getD i (-2147483648, 2147483647)
  | 16, _ => (0, 5)
  | 17, _ => (0, 4)
  | 18, _ => (0, 9)
  | 19, _ => (0, 9999)
  | 20, _ => (0, 2)
  | 21, _ => (0, 9999)
  | 22, _ => (0, 11)
  | 23, _ => (0, 19)
  | 24, _ => (0, 9999)
  | 25, _ => (0, 9)
  | 26, _ => (0, 1)
  | 27, i => ([(0, 3), (0, 3), (0, 3), (0, 3), (0, 3), (0, 3), (0, 3), (0, 3), (0, 3), (0, 3), (0, 3), (0, 3)] : List (Int × Int)).getD i (-2147483648, 2147483647)
  | 29, _ => (0, 1)
  | 30, _ => (0, 37)
  | 32, _ => (0, 31)
  | 33, _ => (0, 1)
  | 34, i => ([(0, 1111), (0, 1111), (0, 1111), (0, 1111), (0, 1111), (0, 1111), (0, 1111), (0, 1111), (0, 1111), (0, 1111), (0, 1111), (0, 1111)] : List (Int × Int)).getD i (-2147483648, 2147483647)
  | 35, i => ([(0, 11), (0, 11), (0, 11), (0, 11), (0, 11), (0, 11), (0, 11), (0, 11), (0, 11), (0, 11), (0, 11), (0, 11)] : List (Int × Int)).getD i (-2147483648, 2147483647)
  | 36, _ => (0, 1)
  | 38, i => ([(0, 3), (0, 3), (0, 3), (0, 3), (0, 3), (0, 3), (0, 3), (0, 3), (0, 3), (0, 3), (0, 3), (0, 3)] : List (Int × Int)).getD i (-2147483648, 2147483647)
  | 40, _ => (0, 255)
  | _, _ => (-2147483648, 2147483647)
def IM (σ : gS) : Prop := ∀ k i, (bM k i).1 ≤ (σ.1 k i).toInt ∧ (σ.1 k i).toInt ≤ (bM k i).2
theorem IM_w {σ : gS} {k i : Nat} {x : Int32} (h : IM σ) (h0 : (bM k i).1 ≤ x.toInt) (h1 : x.toInt ≤ (bM k i).2) : IM (gsI σ k i x) := fun a j => by
  rw [gsI_1]
  by_cases e : a = k ∧ j = i
  · rw [if_pos e, e.1, e.2]; exact ⟨h0, h1⟩
  · rw [if_neg e]; exact h a j
theorem IM_l {σ : gS} {k i : Nat} {x : Int64} (h : IM σ) : IM (gsL σ k i x) := h
def fr_fX10_feed : List (Nat × Nat) := [(0, 2), (1, 0)]
def fr_fX10_end : List (Nat × Nat) := [(0, 2)]
def fr_fX10_pictures : List (Nat × Nat) := []
def fr_fX10_firstNotStarted : List (Nat × Nat) := []
def fr_fX10_points : List (Nat × Nat) := []
def fr_fX10_isControl : List (Nat × Nat) := []
def fr_fX10_standControls : List (Nat × Nat) := [(28, 0)]
def fr_fX10_rows : List (Nat × Nat) := []
def fr_fX10_pointOf : List (Nat × Nat) := []
def fr_fX10_pictureOf : List (Nat × Nat) := []
def fr_fX10_startedRow : List (Nat × Nat) := []
def fr_fX10_turnedBy : List (Nat × Nat) := []
def fr_fX10_turned : List (Nat × Nat) := []
def fr_fX10_put : List (Nat × Nat) := []
def fr_fX10_rowOf : List (Nat × Nat) := []
def fr_fX10_sharedMany : List (Nat × Nat) := []
def fr_fX10_nextStarted : List (Nat × Nat) := []
def fr_fX10_apart : List (Nat × Nat) := []
def fr_fX10_unlike : List (Nat × Nat) := []
def fr_fX10_startsBy : List (Nat × Nat) := [(27, 0), (28, 0), (29, 0)]
def fr_fX10_starts : List (Nat × Nat) := [(27, 0), (28, 0), (29, 0)]
def fr_fX10_stands : List (Nat × Nat) := [(0, 37), (14, 0), (15, 0), (16, 0), (17, 0), (18, 0), (19, 0), (20, 0), (21, 0), (22, 0), (23, 0), (24, 0), (25, 0), (26, 0), (27, 0), (28, 0), (29, 0)]
def fr_fX10_look : List (Nat × Nat) := [(0, 3)]
def fr_fX10_isLetter : List (Nat × Nat) := []
def fr_fX10_isHere : List (Nat × Nat) := [(0, 3)]
def fr_fX10_takes : List (Nat × Nat) := [(0, 3), (0, 5)]
def fr_fX10_fail : List (Nat × Nat) := [(0, 6), (0, 7)]
def fr_fX10_asks : List (Nat × Nat) := [(0, 3), (0, 5), (0, 6), (0, 7)]
def fr_fX10_takesSign : List (Nat × Nat) := [(0, 3)]
def fr_fX10_asksSign : List (Nat × Nat) := [(0, 3), (0, 6), (0, 7)]
def fr_fX10_isOwnHere : List (Nat × Nat) := [(0, 3)]
def fr_fX10_name : List (Nat × Nat) := [(0, 3), (0, 5), (0, 6), (0, 7), (0, 22)]
def fr_fX10_nameOf : List (Nat × Nat) := []
def fr_fX10_oneOf : List (Nat × Nat) := [(0, 3), (0, 5), (0, 6), (0, 7), (0, 22)]
def fr_fX10_isDigit : List (Nat × Nat) := []
def fr_fX10_isIn : List (Nat × Nat) := []
def fr_fX10_number : List (Nat × Nat) := [(0, 3), (0, 5), (0, 6), (0, 7)]
def fr_fX10_centreTold : List (Nat × Nat) := [(0, 3), (0, 5), (0, 6), (0, 7), (0, 22), (15, 0), (18, 0), (19, 0)]
def fr_fX10_isFull : List (Nat × Nat) := [(0, 6), (0, 7)]
def fr_fX10_controlTold : List (Nat × Nat) := [(0, 3), (0, 5), (0, 6), (0, 7), (0, 22), (15, 0), (20, 0), (21, 0)]
def fr_fX10_rowTold : List (Nat × Nat) := [(0, 3), (0, 5), (0, 6), (0, 7), (0, 22), (15, 0), (22, 0), (23, 0), (24, 0), (25, 0)]
def fr_fX10_newName : List (Nat × Nat) := [(0, 3), (0, 5), (0, 6), (0, 7), (0, 22), (14, 0), (15, 0)]
def fr_fX10_pointTold : List (Nat × Nat) := [(0, 3), (0, 5), (0, 6), (0, 7), (0, 22), (14, 0), (15, 0), (20, 0)]
def fr_fX10_pictureTold : List (Nat × Nat) := [(0, 3), (0, 5), (0, 6), (0, 7), (0, 22), (14, 0), (15, 0), (16, 0), (17, 0), (18, 0)]
def fr_fX10_blockTold : List (Nat × Nat) := [(0, 3), (0, 5), (0, 6), (0, 7), (0, 22), (0, 35), (14, 0), (15, 0), (16, 0), (17, 0), (18, 0), (19, 0), (20, 0), (21, 0), (22, 0), (23, 0), (24, 0), (25, 0)]
def fr_fX10_block : List (Nat × Nat) := [(0, 2), (0, 3), (0, 4), (0, 5), (0, 6), (0, 7), (0, 8), (0, 9), (0, 22), (0, 35), (0, 37), (14, 0), (15, 0), (16, 0), (17, 0), (18, 0), (19, 0), (20, 0), (21, 0), (22, 0), (23, 0), (24, 0), (25, 0), (26, 0), (27, 0), (28, 0), (29, 0)]
def fr_fX10_fault : List (Nat × Nat) := []
def fr_fX10_dropped : List (Nat × Nat) := []
def fr_fX10_controls : List (Nat × Nat) := []
def fr_fX10_has : List (Nat × Nat) := []
def fr_fX10_letter : List (Nat × Nat) := []
def fr_fX10_isPicture : List (Nat × Nat) := []
def fr_fX10_strip : List (Nat × Nat) := []
def fr_fX10_rowsOf : List (Nat × Nat) := []
def fr_fX10_centreOf : List (Nat × Nat) := []
def fr_fX10_joins : List (Nat × Nat) := [(32, 0)]
def fr_fX10_hangs : List (Nat × Nat) := [(32, 0)]
def fr_fX10_isLoose : List (Nat × Nat) := []
def fr_fX10_picture : List (Nat × Nat) := [(32, 0)]
def fr_fX10_isPoint : List (Nat × Nat) := []
def fr_fX10_point : List (Nat × Nat) := [(32, 0)]
def fr_fX10_isRow : List (Nat × Nat) := []
def fr_fX10_weightOf : List (Nat × Nat) := []
def fr_fX10_miss : List (Nat × Nat) := []
def fr_fX10_canShow : List (Nat × Nat) := [(26, 0), (32, 0)]
def fr_fX10_row : List (Nat × Nat) := [(26, 0), (32, 0)]
def fr_fX10_hasDrift : List (Nat × Nat) := []
def fr_fX10_drift : List (Nat × Nat) := []
def fr_fX10_start : List (Nat × Nat) := [(27, 0), (28, 0), (29, 0)]
def fr_fX10_noMean : List (Nat × Nat) := [(0, 41), (0, 42)]
def fr_fX10_becomes : List (Nat × Nat) := [(28, 0)]
def fr_fX10_mean : List (Nat × Nat) := [(0, 41), (0, 42)]
def fr_fX10_isDriftAltered : List (Nat × Nat) := [(0, 41), (0, 42), (28, 0)]
def fr_fX10_isPictureAltered : List (Nat × Nat) := [(0, 41), (0, 42), (28, 0)]
def fr_fX10_isPointAltered : List (Nat × Nat) := [(0, 41), (0, 42), (28, 0)]
def fr_fX10_isRound : List (Nat × Nat) := [(0, 41), (0, 42), (28, 0)]
def fr_fX10_rests : List (Nat × Nat) := [(0, 41), (0, 42), (28, 0)]
def fr_fX10_rounds : List (Nat × Nat) := [(0, 41), (0, 42), (28, 0)]
def fr_fX10_doubtOf : List (Nat × Nat) := []
def fr_fX10_sum : List (Nat × Nat) := []
def fr_fX10_isUsed : List (Nat × Nat) := []
def fr_fX10_numberOf : List (Nat × Nat) := []
def fr_fX10_modulo : List (Nat × Nat) := []
def fr_fX10_adds : List (Nat × Nat) := [(31, 0)]
def fr_fX10_addsTie : List (Nat × Nat) := [(31, 0)]
def fr_fX10_equations : List (Nat × Nat) := [(0, 44), (30, 0), (31, 0)]
def fr_fX10_swaps : List (Nat × Nat) := [(31, 0)]
def fr_fX10_inverse : List (Nat × Nat) := []
def fr_fX10_isSolved : List (Nat × Nat) := [(0, 44), (30, 0), (31, 0)]
def fr_fX10_whole : List (Nat × Nat) := [(0, 44), (30, 0), (31, 0)]
def fr_fX10_sets : List (Nat × Nat) := [(0, 37), (28, 0)]
def fr_fX10_parts : List (Nat × Nat) := [(32, 0)]
def fr_fX10_hang : List (Nat × Nat) := [(32, 0)]
def fr_fX10_blind : List (Nat × Nat) := [(26, 0), (32, 0)]
def fr_fX10_looseMany : List (Nat × Nat) := [(32, 0)]
def fr_fX10_needs : List (Nat × Nat) := [(26, 0), (32, 0)]
def fr_fX10_doubt : List (Nat × Nat) := []
def fr_fX10_worstNow : List (Nat × Nat) := [(26, 0), (32, 0)]
def fr_fX10_worst : List (Nat × Nat) := [(26, 0), (32, 0)]
def fr_fX10_drop : List (Nat × Nat) := [(26, 0)]
def fr_fX10_clean : List (Nat × Nat) := [(0, 41), (0, 42), (26, 0), (28, 0), (32, 0), (33, 0)]
def fr_fX10_areTwo : List (Nat × Nat) := []
def fr_fX10_tiePoints : List (Nat × Nat) := []
def fr_fX10_step : List (Nat × Nat) := []
def fr_fX10_tie : List (Nat × Nat) := []
def fr_fX10_isLoop : List (Nat × Nat) := []
def fr_fX10_loopOf : List (Nat × Nat) := []
def fr_fX10_loop : List (Nat × Nat) := []
def fr_fX10_gap : List (Nat × Nat) := []
def fr_fX10_treeOf : List (Nat × Nat) := [(34, 0), (35, 0)]
def fr_fX10_tree : List (Nat × Nat) := [(34, 0), (35, 0)]
def fr_fX10_plan : List (Nat × Nat) := [(34, 0), (35, 0), (36, 0)]
def fr_fX10_putsAside : List (Nat × Nat) := [(0, 53), (37, 0), (38, 0)]
def fr_fX10_takesBack : List (Nat × Nat) := [(0, 37), (27, 0), (28, 0)]
def fr_fX10_placeBy : List (Nat × Nat) := [(0, 37), (0, 41), (0, 42), (0, 53), (27, 0), (28, 0), (29, 0), (37, 0), (38, 0)]
def fr_fX10_differ : List (Nat × Nat) := [(0, 37), (0, 41), (0, 42), (0, 53), (27, 0), (28, 0), (29, 0), (37, 0), (38, 0)]
def fr_fX10_canMeasure : List (Nat × Nat) := []
def fr_fX10_measures : List (Nat × Nat) := [(24, 0)]
def fr_fX10_alters : List (Nat × Nat) := [(0, 37), (0, 41), (0, 42), (0, 53), (24, 0), (27, 0), (28, 0), (37, 0), (38, 0), (39, 0)]
def fr_fX10_measure : List (Nat × Nat) := [(24, 0)]
def fr_fX10_drawOf : List (Nat × Nat) := [(0, 55)]
def fr_fX10_within : List (Nat × Nat) := []
def fr_fX10_slips : List (Nat × Nat) := [(0, 55), (24, 0)]
def fr_fX10_writes : List (Nat × Nat) := [(0, 57), (40, 0)]
def fr_fX10_checked : List (Nat × Nat) := []
def fr_fX10_writesFour : List (Nat × Nat) := [(0, 57), (40, 0)]
def fr_fX10_writesPlace : List (Nat × Nat) := [(0, 57), (40, 0)]
def fr_fX10_image : List (Nat × Nat) := [(0, 57), (40, 0)]
def fr_fX10_octet : List (Nat × Nat) := []
def fr_fX10_fourAt : List (Nat × Nat) := []
def fr_fX10_canBe : List (Nat × Nat) := []
def fr_fX10_isTold : List (Nat × Nat) := []
def fr_fX10_tells : List (Nat × Nat) := [(28, 0)]
def fr_fX10_on : List (Nat × Nat) := [(0, 2), (0, 37), (26, 0), (27, 0), (28, 0)]
set_option maxRecDepth 20000 in
set_option maxHeartbeats 2000000 in
theorem o_fX10_end {σ : gS} (hIσ : IM σ) {p1 : Int32}  : Ok (fX10_end σ p1) (fun out => IM out.2 ∧ Fr fr_fX10_end σ out.2 ∧ 0 ≤ out.1.toInt ∧ out.1.toInt ≤ 1) := by
  unfold fX10_end
  have hfσ : Fr fr_fX10_end σ σ := Fr_r
  refine ok_ite.mpr ⟨fun h_1 => ?_, fun h_1 => ?_⟩
  · have l_0 : (0 : Int32).toInt = 0 := by decide
    have g2 : p1.toInt < (0 : Int32).toInt := Int32.lt_iff_toInt_lt.mp h_1
    refine ok_some.mpr ?_
    exact ⟨hIσ, hfσ, (show 0 ≤ (0 : Int32).toInt by omega), (show (0 : Int32).toInt ≤ 1 by omega)⟩
  · have l_0 : (0 : Int32).toInt = 0 := by decide
    have g3 : ¬ p1.toInt < (0 : Int32).toInt := fun z => h_1 (Int32.lt_iff_toInt_lt.mpr z)
    refine ok_ite.mpr ⟨fun h_4 => ?_, fun h_4 => ?_⟩
    · have f5 : 0 ≤ (σ.1 0 1).toInt ∧ (σ.1 0 1).toInt ≤ 1600 := hIσ 0 _
      have g6 : p1.toInt ≤ (σ.1 0 1).toInt := Int32.le_iff_toInt_le.mp h_4
      refine ok_nm2 (fun σ3 eσ3 => ?_)
      have hIσ3 : IM σ3 := by rw [eσ3]; exact IM_w hIσ (show 0 ≤ _ by omega) (show _ ≤ 1600 by omega)
      have hfσ3 : Fr fr_fX10_end σ σ3 := by rw [eσ3]; exact Fr_w hfσ (by decide)
      have sσ3_0_1 : (σ3.1 0 1).toInt = p1.toInt := by rw [eσ3]; rfl
      refine ok_some.mpr ?_
      have l_1 : (1 : Int32).toInt = 1 := by decide
      exact ⟨hIσ3, hfσ3, (show 0 ≤ (1 : Int32).toInt by omega), (show (1 : Int32).toInt ≤ 1 by omega)⟩
    · have f7 : 0 ≤ (σ.1 0 1).toInt ∧ (σ.1 0 1).toInt ≤ 1600 := hIσ 0 _
      have g8 : ¬ p1.toInt ≤ (σ.1 0 1).toInt := fun z => h_4 (Int32.le_iff_toInt_le.mpr z)
      refine ok_some.mpr ?_
      exact ⟨hIσ, hfσ, (show 0 ≤ (0 : Int32).toInt by omega), (show (0 : Int32).toInt ≤ 1 by omega)⟩
set_option maxRecDepth 20000 in
set_option maxHeartbeats 2000000 in
theorem o_fX10_pictures {σ : gS} (hIσ : IM σ)   : Ok (fX10_pictures σ ) (fun out => 0 ≤ out.toInt ∧ out.toInt ≤ 12) := by
  unfold fX10_pictures
  have hfσ : Fr fr_fX10_pictures σ σ := Fr_r
  have l_7 : (7 : Int32).toInt = 7 := by decide
  refine ok_gd.mpr ⟨gb_of (by omega) (by omega), ?_⟩
  refine ok_nm2 (fun v1 ev1 => ?_)
  have f1 : 0 ≤ (σ.1 15 (7 : Int32).toNatClampNeg).toInt ∧ (σ.1 15 (7 : Int32).toNatClampNeg).toInt ≤ 12 := hIσ 15 _
  have qv1 : v1.toInt = (σ.1 15 (7 : Int32).toNatClampNeg).toInt := by rw [ev1]
  refine ok_some.mpr ?_
  exact ⟨(show 0 ≤ v1.toInt by omega), (show v1.toInt ≤ 12 by omega)⟩
set_option maxRecDepth 20000 in
set_option maxHeartbeats 2000000 in
theorem o_fX10_firstNotStarted {σ : gS} (hIσ : IM σ)   : Ok (fX10_firstNotStarted σ ) (fun out => -1 ≤ out.toInt ∧ out.toInt ≤ 11) := by
  unfold fX10_firstNotStarted
  have hfσ : Fr fr_fX10_firstNotStarted σ σ := Fr_r
  refine ok_nm2 (fun x1 ex1 => ?_)
  have l_0 : (0 : Int32).toInt = 0 := by decide
  have qx1 : x1.toInt = 0 := by rw [ex1]; decide
  refine ok_lpc (I := fun n s => n = (12 + 1 - s.toInt).toNat ∧ 0 ≤ s.toInt ∧ s.toInt ≤ 12) (fun rec2_309701r n_309701 s_309701 hs_309701 hrec_309701 => ?_) K9 _ _ ⟨rfl, (by (try dsimp only); omega), (by (try dsimp only); omega)⟩ (by unfold K9; (try dsimp only); omega)
  obtain ⟨a1_309701, hq_309701⟩ : ∃ y, y = s_309701 := ⟨_, rfl⟩
  subst hq_309701
  obtain ⟨hn_309701, b0a1_309701, b1a1_309701⟩ := hs_309701
  skip
  unfold bX10_firstNotStarted_2
  try dsimp only
  refine ok_bd.mpr ?_
  try unfold fX10_pictures
  have l_7 : (7 : Int32).toInt = 7 := by decide
  refine ok_gd.mpr ⟨gb_of (by omega) (by omega), ?_⟩
  refine ok_nm2 (fun v1_309708 ev1_309708 => ?_)
  have f1 : 0 ≤ (σ.1 15 (7 : Int32).toNatClampNeg).toInt ∧ (σ.1 15 (7 : Int32).toNatClampNeg).toInt ≤ 12 := hIσ 15 _
  have qv1_309708 : v1_309708.toInt = (σ.1 15 (7 : Int32).toNatClampNeg).toInt := by rw [ev1_309708]
  refine ok_some.mpr ?_
  refine ok_ite.mpr ⟨fun h_2 => ?_, fun h_2 => ?_⟩
  · have g3 : v1_309708.toInt ≤ a1_309701.toInt := Int32.le_iff_toInt_le.mp h_2
    refine ok_some.mpr ?_
    have l_m1 : (-1 : Int32).toInt = -1 := by decide
    exact ⟨(show -1 ≤ (-1 : Int32).toInt by omega), (show (-1 : Int32).toInt ≤ 11 by omega)⟩
  · have g4 : ¬ v1_309708.toInt ≤ a1_309701.toInt := fun z => h_2 (Int32.le_iff_toInt_le.mpr z)
    refine ok_gd.mpr ⟨gb_of (by omega) (by omega), ?_⟩
    refine ok_nm2 (fun v5_309707_309709 ev5_309707_309709 => ?_)
    have f5 : 0 ≤ (σ.1 29 a1_309701.toNatClampNeg).toInt ∧ (σ.1 29 a1_309701.toNatClampNeg).toInt ≤ 1 := hIσ 29 _
    have qv5_309707_309709 : v5_309707_309709.toInt = (σ.1 29 a1_309701.toNatClampNeg).toInt := by rw [ev5_309707_309709]
    refine ok_ite.mpr ⟨fun h_6 => ?_, fun h_6 => ?_⟩
    · have g7 : v5_309707_309709.toInt = (0 : Int32).toInt := by rw [h_6]
      refine ok_some.mpr ?_
      exact ⟨(show -1 ≤ a1_309701.toInt by omega), (show a1_309701.toInt ≤ 11 by omega)⟩
    · have g8 : v5_309707_309709.toInt ≠ (0 : Int32).toInt := fun z => h_6 (Int32.toInt_inj.mp z)
      refine ok_nm2 (fun x7_309707_309709 ex7_309707_309709 => ?_)
      have l_1 : (1 : Int32).toInt = 1 := by decide
      have f9 : (a1_309701 + (1 : Int32)).toInt = a1_309701.toInt + (1 : Int32).toInt := iadd_toInt (by omega) (by omega)
      have qx7_309707_309709 : x7_309707_309709.toInt = (a1_309701 + 1).toInt := by rw [ex7_309707_309709]
      exact hrec_309701 _ x7_309707_309709 (show (12 + 1 - x7_309707_309709.toInt).toNat < n_309701 by omega) ⟨rfl, (show 0 ≤ x7_309707_309709.toInt by omega), (show x7_309707_309709.toInt ≤ 12 by omega)⟩
set_option maxRecDepth 20000 in
set_option maxHeartbeats 2000000 in
theorem o_fX10_points {σ : gS} (hIσ : IM σ)   : Ok (fX10_points σ ) (fun out => 0 ≤ out.toInt ∧ out.toInt ≤ 20) := by
  unfold fX10_points
  have hfσ : Fr fr_fX10_points σ σ := Fr_r
  have l_8 : (8 : Int32).toInt = 8 := by decide
  refine ok_gd.mpr ⟨gb_of (by omega) (by omega), ?_⟩
  refine ok_nm2 (fun v1 ev1 => ?_)
  have f1 : 0 ≤ (σ.1 15 (8 : Int32).toNatClampNeg).toInt ∧ (σ.1 15 (8 : Int32).toNatClampNeg).toInt ≤ 20 := hIσ 15 _
  have qv1 : v1.toInt = (σ.1 15 (8 : Int32).toNatClampNeg).toInt := by rw [ev1]
  refine ok_some.mpr ?_
  exact ⟨(show 0 ≤ v1.toInt by omega), (show v1.toInt ≤ 20 by omega)⟩
set_option maxRecDepth 20000 in
set_option maxHeartbeats 2000000 in
theorem o_fX10_standControls {σ : gS} (hIσ : IM σ)   : Ok (fX10_standControls σ ) (fun out => IM out ∧ Fr fr_fX10_standControls σ out) := by
  unfold fX10_standControls
  have hfσ : Fr fr_fX10_standControls σ σ := Fr_r
  refine ok_nm2 (fun x1 ex1 => ?_)
  have l_0 : (0 : Int32).toInt = 0 := by decide
  have qx1 : x1.toInt = 0 := by rw [ex1]; decide
  refine ok_lpc (I := fun n s => n = (20 + 1 - s.1.toInt).toNat ∧ IM s.2 ∧ Fr fr_fX10_standControls σ s.2 ∧ 0 ≤ s.1.toInt ∧ s.1.toInt ≤ 20) (fun rec2_309710r n_309710 s_309710 hs_309710 hrec_309710 => ?_) K9 _ _ ⟨rfl, hIσ, hfσ, (by (try dsimp only); omega), (by (try dsimp only); omega)⟩ (by unfold K9; (try dsimp only); omega)
  obtain ⟨a1_309710, σ1_309710⟩ := s_309710
  obtain ⟨hn_309710, hIσ1_309710, hfσ1_309710, b0a1_309710, b1a1_309710⟩ := hs_309710
  dsimp only at hn_309710 hIσ1_309710 hfσ1_309710 b0a1_309710 b1a1_309710
  unfold bX10_standControls_2
  try dsimp only
  refine ok_bd.mpr ?_
  try unfold fX10_points
  have l_8 : (8 : Int32).toInt = 8 := by decide
  refine ok_gd.mpr ⟨gb_of (by omega) (by omega), ?_⟩
  refine ok_nm2 (fun v1_309744 ev1_309744 => ?_)
  have f1 : 0 ≤ (σ1_309710.1 15 (8 : Int32).toNatClampNeg).toInt ∧ (σ1_309710.1 15 (8 : Int32).toNatClampNeg).toInt ≤ 20 := hIσ1_309710 15 _
  have qv1_309744 : v1_309744.toInt = (σ1_309710.1 15 (8 : Int32).toNatClampNeg).toInt := by rw [ev1_309744]
  refine ok_some.mpr ?_
  refine ok_ite.mpr ⟨fun h_2 => ?_, fun h_2 => ?_⟩
  · have g3 : v1_309744.toInt ≤ a1_309710.toInt := Int32.le_iff_toInt_le.mp h_2
    refine ok_some.mpr ?_
    exact ⟨hIσ1_309710, hfσ1_309710⟩
  · have g4 : ¬ v1_309744.toInt ≤ a1_309710.toInt := fun z => h_2 (Int32.le_iff_toInt_le.mpr z)
    refine ok_nm2 (fun x5_309741_309745 ex5_309741_309745 => ?_)
    have qx5_309741_309745 : x5_309741_309745.toInt = 0 := by rw [ex5_309741_309745]; decide
    refine ok_lpc (I := fun n s => n = (6 + 1 - s.1.toInt).toNat ∧ IM s.2 ∧ Fr fr_fX10_standControls σ s.2 ∧ 0 ≤ s.1.toInt ∧ s.1.toInt ≤ 6) (fun rec12_309746r n_309746 s_309746 hs_309746 hrec_309746 => ?_) K9 _ _ ⟨rfl, hIσ1_309710, hfσ1_309710, (by (try dsimp only); omega), (by (try dsimp only); omega)⟩ (by unfold K9; (try dsimp only); omega)
    obtain ⟨a2_309746, σ1_309746⟩ := s_309746
    obtain ⟨hn_309746, hIσ1_309746, hfσ1_309746, b0a2_309746, b1a2_309746⟩ := hs_309746
    dsimp only at hn_309746 hIσ1_309746 hfσ1_309746 b0a2_309746 b1a2_309746
    unfold bX10_standControls_12
    try dsimp only
    refine ok_ite.mpr ⟨fun h_5 => ?_, fun h_5 => ?_⟩
    · have l_2 : (2 : Int32).toInt = 2 := by decide
      have g6 : (2 : Int32).toInt ≤ a2_309746.toInt := Int32.le_iff_toInt_le.mp h_5
      refine ok_nm2 (fun x7_309751 ex7_309751 => ?_)
      have l_1 : (1 : Int32).toInt = 1 := by decide
      have f7 : (a1_309710 + (1 : Int32)).toInt = a1_309710.toInt + (1 : Int32).toInt := iadd_toInt (by omega) (by omega)
      have qx7_309751 : x7_309751.toInt = (a1_309710 + 1).toInt := by rw [ex7_309751]
      exact hrec_309710 _ (x7_309751, σ1_309746) (show (20 + 1 - x7_309751.toInt).toNat < n_309710 by omega) ⟨rfl, hIσ1_309746, hfσ1_309746, (show 0 ≤ x7_309751.toInt by omega), (show x7_309751.toInt ≤ 20 by omega)⟩
    · have l_2 : (2 : Int32).toInt = 2 := by decide
      have g8 : ¬ (2 : Int32).toInt ≤ a2_309746.toInt := fun z => h_5 (Int32.le_iff_toInt_le.mpr z)
      refine ok_bd.mpr ?_
      try unfold fX10_isControl
      have l_20 : (20 : Int32).toInt = 20 := by decide
      have f9 : ((20 : Int32) + a1_309710).toInt = (20 : Int32).toInt + a1_309710.toInt := iadd_toInt (by omega) (by omega)
      refine ok_gd.mpr ⟨gb_of (by omega) (by omega), ?_⟩
      refine ok_nm2 (fun v1_309752 ev1_309752 => ?_)
      have f10 : 0 ≤ (σ1_309746.1 20 (20 + a1_309710).toNatClampNeg).toInt ∧ (σ1_309746.1 20 (20 + a1_309710).toNatClampNeg).toInt ≤ 2 := hIσ1_309746 20 _
      have qv1_309752 : v1_309752.toInt = (σ1_309746.1 20 (20 + a1_309710).toNatClampNeg).toInt := by rw [ev1_309752]
      refine ok_nm2 (fun x2_309752 ex2_309752 => ?_)
      have qx2_309752 : x2_309752.toInt = v1_309752.toInt := by rw [ex2_309752]
      refine ok_ite.mpr ⟨fun h_11 => ?_, fun h_11 => ?_⟩
      · have g12 : x2_309752.toInt = (0 : Int32).toInt := by rw [h_11]
        refine ok_some.mpr ?_
        refine ok_ite.mpr ⟨fun h_13 => ?_, fun h_13 => ?_⟩
        · have g14 : (0 : Int32).toInt = (0 : Int32).toInt := by rw [h_13]
          refine ok_nm2 (fun x11_309751_309753 ex11_309751_309753 => ?_)
          have l_1 : (1 : Int32).toInt = 1 := by decide
          have f15 : (a2_309746 + (1 : Int32)).toInt = a2_309746.toInt + (1 : Int32).toInt := iadd_toInt (by omega) (by omega)
          have qx11_309751_309753 : x11_309751_309753.toInt = (a2_309746 + 1).toInt := by rw [ex11_309751_309753]
          exact hrec_309746 _ (x11_309751_309753, σ1_309746) (show (6 + 1 - x11_309751_309753.toInt).toNat < n_309746 by omega) ⟨rfl, hIσ1_309746, hfσ1_309746, (show 0 ≤ x11_309751_309753.toInt by omega), (show x11_309751_309753.toInt ≤ 6 by omega)⟩
        · have g16 : (0 : Int32).toInt ≠ (0 : Int32).toInt := fun z => h_13 (Int32.toInt_inj.mp z)
          exfalso; omega
      · have g17 : x2_309752.toInt ≠ (0 : Int32).toInt := fun z => h_11 (Int32.toInt_inj.mp z)
        refine ok_ite.mpr ⟨fun h_18 => ?_, fun h_18 => ?_⟩
        · have l_1 : (1 : Int32).toInt = 1 := by decide
          have g19 : (((σ1_309746.1 0 36) >>> ((x2_309752 - 1) &&& 31)) &&& 1).toInt = (1 : Int32).toInt := by rw [h_18]
          refine ok_some.mpr ?_
          refine ok_ite.mpr ⟨fun h_20 => ?_, fun h_20 => ?_⟩
          · have g21 : (1 : Int32).toInt = (0 : Int32).toInt := by rw [h_20]
            exfalso; omega
          · have g22 : (1 : Int32).toInt ≠ (0 : Int32).toInt := fun z => h_20 (Int32.toInt_inj.mp z)
            have l_40 : (40 : Int32).toInt = 40 := by decide
            have f23 : ((2 : Int32) * a1_309710).toInt = 2 * a1_309710.toInt := imulc l_2 (by omega) (by omega)
            have f24 : ((40 : Int32) + (2 * a1_309710)).toInt = (40 : Int32).toInt + (2 * a1_309710).toInt := iadd_toInt (by omega) (by omega)
            have f25 : ((40 + (2 * a1_309710)) + a2_309746).toInt = (40 + (2 * a1_309710)).toInt + a2_309746.toInt := iadd_toInt (by omega) (by omega)
            refine ok_gd.mpr ⟨gb_of (by omega) (by omega), ?_⟩
            refine ok_nm2 (fun v12_309751_309754 ev12_309751_309754 => ?_)
            have f26 : 0 ≤ (σ1_309746.1 21 ((40 + (2 * a1_309710)) + a2_309746).toNatClampNeg).toInt ∧ (σ1_309746.1 21 ((40 + (2 * a1_309710)) + a2_309746).toNatClampNeg).toInt ≤ 9999 := hIσ1_309746 21 _
            have qv12_309751_309754 : v12_309751_309754.toInt = (σ1_309746.1 21 ((40 + (2 * a1_309710)) + a2_309746).toNatClampNeg).toInt := by rw [ev12_309751_309754]
            have l_38 : (38 : Int32).toInt = 38 := by decide
            have f27 : ((38 : Int32) * a2_309746).toInt = 38 * a2_309746.toInt := imulc l_38 (by omega) (by omega)
            have l_12 : (12 : Int32).toInt = 12 := by decide
            have f28 : ((38 * a2_309746) + (12 : Int32)).toInt = (38 * a2_309746).toInt + (12 : Int32).toInt := iadd_toInt (by omega) (by omega)
            have f29 : (((38 * a2_309746) + 12) + a1_309710).toInt = ((38 * a2_309746) + 12).toInt + a1_309710.toInt := iadd_toInt (by omega) (by omega)
            refine ok_gd.mpr ⟨gb_of (by omega) (by omega), ?_⟩
            refine ok_nm2 (fun σ13_309751_309754 eσ13_309751_309754 => ?_)
            have l_100 : (100 : Int32).toInt = 100 := by decide
            have f30 : ((100 : Int32) * v12_309751_309754).toInt = 100 * v12_309751_309754.toInt := imulc l_100 (by omega) (by omega)
            have hIσ13_309751_309754 : IM σ13_309751_309754 := by rw [eσ13_309751_309754]; exact IM_w hIσ1_309746 (Int32.le_toInt _) (Int32.toInt_le _)
            have hfσ13_309751_309754 : Fr fr_fX10_standControls σ σ13_309751_309754 := by rw [eσ13_309751_309754]; exact Fr_w0 hfσ1_309746 (by decide)
            refine ok_nm2 (fun x14_309751_309754 ex14_309751_309754 => ?_)
            have f31 : (a2_309746 + (1 : Int32)).toInt = a2_309746.toInt + (1 : Int32).toInt := iadd_toInt (by omega) (by omega)
            have qx14_309751_309754 : x14_309751_309754.toInt = (a2_309746 + 1).toInt := by rw [ex14_309751_309754]
            exact hrec_309746 _ (x14_309751_309754, σ13_309751_309754) (show (6 + 1 - x14_309751_309754.toInt).toNat < n_309746 by omega) ⟨rfl, hIσ13_309751_309754, hfσ13_309751_309754, (show 0 ≤ x14_309751_309754.toInt by omega), (show x14_309751_309754.toInt ≤ 6 by omega)⟩
        · have l_1 : (1 : Int32).toInt = 1 := by decide
          have g32 : (((σ1_309746.1 0 36) >>> ((x2_309752 - 1) &&& 31)) &&& 1).toInt ≠ (1 : Int32).toInt := fun z => h_18 (Int32.toInt_inj.mp z)
          refine ok_some.mpr ?_
          refine ok_ite.mpr ⟨fun h_33 => ?_, fun h_33 => ?_⟩
          · have g34 : (0 : Int32).toInt = (0 : Int32).toInt := by rw [h_33]
            refine ok_nm2 (fun x11_309751_309755 ex11_309751_309755 => ?_)
            have f35 : (a2_309746 + (1 : Int32)).toInt = a2_309746.toInt + (1 : Int32).toInt := iadd_toInt (by omega) (by omega)
            have qx11_309751_309755 : x11_309751_309755.toInt = (a2_309746 + 1).toInt := by rw [ex11_309751_309755]
            exact hrec_309746 _ (x11_309751_309755, σ1_309746) (show (6 + 1 - x11_309751_309755.toInt).toNat < n_309746 by omega) ⟨rfl, hIσ1_309746, hfσ1_309746, (show 0 ≤ x11_309751_309755.toInt by omega), (show x11_309751_309755.toInt ≤ 6 by omega)⟩
          · have g36 : (0 : Int32).toInt ≠ (0 : Int32).toInt := fun z => h_33 (Int32.toInt_inj.mp z)
            exfalso; omega
set_option maxRecDepth 20000 in
set_option maxHeartbeats 2000000 in
theorem o_fX10_rows {σ : gS} (hIσ : IM σ)   : Ok (fX10_rows σ ) (fun out => 0 ≤ out.toInt ∧ out.toInt ≤ 60) := by
  unfold fX10_rows
  have hfσ : Fr fr_fX10_rows σ σ := Fr_r
  have l_9 : (9 : Int32).toInt = 9 := by decide
  refine ok_gd.mpr ⟨gb_of (by omega) (by omega), ?_⟩
  refine ok_nm2 (fun v1 ev1 => ?_)
  have f1 : 0 ≤ (σ.1 15 (9 : Int32).toNatClampNeg).toInt ∧ (σ.1 15 (9 : Int32).toNatClampNeg).toInt ≤ 60 := hIσ 15 _
  have qv1 : v1.toInt = (σ.1 15 (9 : Int32).toNatClampNeg).toInt := by rw [ev1]
  refine ok_some.mpr ?_
  exact ⟨(show 0 ≤ v1.toInt by omega), (show v1.toInt ≤ 60 by omega)⟩
set_option maxRecDepth 20000 in
set_option maxHeartbeats 2000000 in
theorem o_fX10_startedRow {σ : gS} (hIσ : IM σ) {p1 : Int32}  : Ok (fX10_startedRow σ p1) (fun out => -1 ≤ out.toInt ∧ out.toInt ≤ 59) := by
  unfold fX10_startedRow
  have hfσ : Fr fr_fX10_startedRow σ σ := Fr_r
  refine ok_nm2 (fun x1 ex1 => ?_)
  have l_0 : (0 : Int32).toInt = 0 := by decide
  have qx1 : x1.toInt = 0 := by rw [ex1]; decide
  refine ok_lpc (I := fun n s => n = (60 + 1 - s.toInt).toNat ∧ 0 ≤ s.toInt ∧ s.toInt ≤ 60) (fun rec2_309756r n_309756 s_309756 hs_309756 hrec_309756 => ?_) K9 _ _ ⟨rfl, (by (try dsimp only); omega), (by (try dsimp only); omega)⟩ (by unfold K9; (try dsimp only); omega)
  obtain ⟨a2_309756, hq_309756⟩ : ∃ y, y = s_309756 := ⟨_, rfl⟩
  subst hq_309756
  obtain ⟨hn_309756, b0a2_309756, b1a2_309756⟩ := hs_309756
  skip
  unfold bX10_startedRow_2
  try dsimp only
  refine ok_bd.mpr ?_
  try unfold fX10_rows
  have l_9 : (9 : Int32).toInt = 9 := by decide
  refine ok_gd.mpr ⟨gb_of (by omega) (by omega), ?_⟩
  refine ok_nm2 (fun v1_309788 ev1_309788 => ?_)
  have f1 : 0 ≤ (σ.1 15 (9 : Int32).toNatClampNeg).toInt ∧ (σ.1 15 (9 : Int32).toNatClampNeg).toInt ≤ 60 := hIσ 15 _
  have qv1_309788 : v1_309788.toInt = (σ.1 15 (9 : Int32).toNatClampNeg).toInt := by rw [ev1_309788]
  refine ok_some.mpr ?_
  refine ok_ite.mpr ⟨fun h_2 => ?_, fun h_2 => ?_⟩
  · have g3 : v1_309788.toInt ≤ a2_309756.toInt := Int32.le_iff_toInt_le.mp h_2
    refine ok_some.mpr ?_
    have l_m1 : (-1 : Int32).toInt = -1 := by decide
    exact ⟨(show -1 ≤ (-1 : Int32).toInt by omega), (show (-1 : Int32).toInt ≤ 59 by omega)⟩
  · have g4 : ¬ v1_309788.toInt ≤ a2_309756.toInt := fun z => h_2 (Int32.le_iff_toInt_le.mpr z)
    refine ok_gd.mpr ⟨gb_of (by omega) (by omega), ?_⟩
    refine ok_nm2 (fun v5_309787_309789 ev5_309787_309789 => ?_)
    have f5 : 0 ≤ (σ.1 26 a2_309756.toNatClampNeg).toInt ∧ (σ.1 26 a2_309756.toNatClampNeg).toInt ≤ 1 := hIσ 26 _
    have qv5_309787_309789 : v5_309787_309789.toInt = (σ.1 26 a2_309756.toNatClampNeg).toInt := by rw [ev5_309787_309789]
    refine ok_ite.mpr ⟨fun h_6 => ?_, fun h_6 => ?_⟩
    · have g7 : v5_309787_309789.toInt = (0 : Int32).toInt := by rw [h_6]
      refine ok_bd.mpr ?_
      try unfold fX10_pointOf
      have l_60 : (60 : Int32).toInt = 60 := by decide
      have f8 : ((60 : Int32) + a2_309756).toInt = (60 : Int32).toInt + a2_309756.toInt := iadd_toInt (by omega) (by omega)
      refine ok_gd.mpr ⟨gb_of (by omega) (by omega), ?_⟩
      refine ok_nm2 (fun v1_309790 ev1_309790 => ?_)
      have f9 : 0 ≤ (σ.1 23 (60 + a2_309756).toNatClampNeg).toInt ∧ (σ.1 23 (60 + a2_309756).toNatClampNeg).toInt ≤ 19 := hIσ 23 _
      have qv1_309790 : v1_309790.toInt = (σ.1 23 (60 + a2_309756).toNatClampNeg).toInt := by rw [ev1_309790]
      refine ok_some.mpr ?_
      refine ok_ite.mpr ⟨fun h_10 => ?_, fun h_10 => ?_⟩
      · have g11 : v1_309790.toInt = p1.toInt := by rw [h_10]
        refine ok_bd.mpr ?_
        try unfold fX10_pictureOf
        refine ok_gd.mpr ⟨gb_of (by omega) (by omega), ?_⟩
        refine ok_nm2 (fun v1_309792 ev1_309792 => ?_)
        have f12 : 0 ≤ (σ.1 22 (60 + a2_309756).toNatClampNeg).toInt ∧ (σ.1 22 (60 + a2_309756).toNatClampNeg).toInt ≤ 11 := hIσ 22 _
        have qv1_309792 : v1_309792.toInt = (σ.1 22 (60 + a2_309756).toNatClampNeg).toInt := by rw [ev1_309792]
        refine ok_some.mpr ?_
        refine ok_gd.mpr ⟨gb_of (by omega) (by omega), ?_⟩
        refine ok_nm2 (fun v14_309787_309789_309791_309793 ev14_309787_309789_309791_309793 => ?_)
        have f13 : 0 ≤ (σ.1 29 v1_309792.toNatClampNeg).toInt ∧ (σ.1 29 v1_309792.toNatClampNeg).toInt ≤ 1 := hIσ 29 _
        have qv14_309787_309789_309791_309793 : v14_309787_309789_309791_309793.toInt = (σ.1 29 v1_309792.toNatClampNeg).toInt := by rw [ev14_309787_309789_309791_309793]
        refine ok_ite.mpr ⟨fun h_14 => ?_, fun h_14 => ?_⟩
        · have g15 : v14_309787_309789_309791_309793.toInt = (0 : Int32).toInt := by rw [h_14]
          refine ok_nm2 (fun x16_309787_309789_309791_309793 ex16_309787_309789_309791_309793 => ?_)
          have l_1 : (1 : Int32).toInt = 1 := by decide
          have f16 : (a2_309756 + (1 : Int32)).toInt = a2_309756.toInt + (1 : Int32).toInt := iadd_toInt (by omega) (by omega)
          have qx16_309787_309789_309791_309793 : x16_309787_309789_309791_309793.toInt = (a2_309756 + 1).toInt := by rw [ex16_309787_309789_309791_309793]
          exact hrec_309756 _ x16_309787_309789_309791_309793 (show (60 + 1 - x16_309787_309789_309791_309793.toInt).toNat < n_309756 by omega) ⟨rfl, (show 0 ≤ x16_309787_309789_309791_309793.toInt by omega), (show x16_309787_309789_309791_309793.toInt ≤ 60 by omega)⟩
        · have g17 : v14_309787_309789_309791_309793.toInt ≠ (0 : Int32).toInt := fun z => h_14 (Int32.toInt_inj.mp z)
          refine ok_some.mpr ?_
          exact ⟨(show -1 ≤ a2_309756.toInt by omega), (show a2_309756.toInt ≤ 59 by omega)⟩
      · have g18 : v1_309790.toInt ≠ p1.toInt := fun z => h_10 (Int32.toInt_inj.mp z)
        refine ok_nm2 (fun x11_309787_309789_309791 ex11_309787_309789_309791 => ?_)
        have l_1 : (1 : Int32).toInt = 1 := by decide
        have f19 : (a2_309756 + (1 : Int32)).toInt = a2_309756.toInt + (1 : Int32).toInt := iadd_toInt (by omega) (by omega)
        have qx11_309787_309789_309791 : x11_309787_309789_309791.toInt = (a2_309756 + 1).toInt := by rw [ex11_309787_309789_309791]
        exact hrec_309756 _ x11_309787_309789_309791 (show (60 + 1 - x11_309787_309789_309791.toInt).toNat < n_309756 by omega) ⟨rfl, (show 0 ≤ x11_309787_309789_309791.toInt by omega), (show x11_309787_309789_309791.toInt ≤ 60 by omega)⟩
    · have g20 : v5_309787_309789.toInt ≠ (0 : Int32).toInt := fun z => h_6 (Int32.toInt_inj.mp z)
      refine ok_nm2 (fun x7_309787_309789 ex7_309787_309789 => ?_)
      have l_1 : (1 : Int32).toInt = 1 := by decide
      have f21 : (a2_309756 + (1 : Int32)).toInt = a2_309756.toInt + (1 : Int32).toInt := iadd_toInt (by omega) (by omega)
      have qx7_309787_309789 : x7_309787_309789.toInt = (a2_309756 + 1).toInt := by rw [ex7_309787_309789]
      exact hrec_309756 _ x7_309787_309789 (show (60 + 1 - x7_309787_309789.toInt).toNat < n_309756 by omega) ⟨rfl, (show 0 ≤ x7_309787_309789.toInt by omega), (show x7_309787_309789.toInt ≤ 60 by omega)⟩
set_option maxRecDepth 20000 in
set_option maxHeartbeats 2000000 in
theorem o_fX10_turnedBy {σ : gS} (hIσ : IM σ) {p1 : Int32} {p2 : Int32} {p3 : Int32} (h0p1 : -1 ≤ p1.toInt) (h1p1 : p1.toInt ≤ 59) (h0p2 : 0 ≤ p2.toInt) (h1p2 : p2.toInt ≤ 6) (h0p3 : 0 ≤ p3.toInt) (h1p3 : p3.toInt ≤ 1) : Ok (fX10_turnedBy σ p1 p2 p3) (fun out => -999900 ≤ out.toInt ∧ out.toInt ≤ 999900) := by
  unfold fX10_turnedBy
  have hfσ : Fr fr_fX10_turnedBy σ σ := Fr_r
  have l_120 : (120 : Int32).toInt = 120 := by decide
  have l_2 : (2 : Int32).toInt = 2 := by decide
  have f1 : ((2 : Int32) * p1).toInt = 2 * p1.toInt := imulc l_2 (by omega) (by omega)
  have f2 : ((120 : Int32) + (2 * p1)).toInt = (120 : Int32).toInt + (2 * p1).toInt := iadd_toInt (by omega) (by omega)
  refine ok_gd.mpr ⟨gb_of (by omega) (by omega), ?_⟩
  refine ok_nm2 (fun v1 ev1 => ?_)
  have f3 : 0 ≤ (σ.1 24 (120 + (2 * p1)).toNatClampNeg).toInt ∧ (σ.1 24 (120 + (2 * p1)).toNatClampNeg).toInt ≤ 9999 := hIσ 24 _
  have qv1 : v1.toInt = (σ.1 24 (120 + (2 * p1)).toNatClampNeg).toInt := by rw [ev1]
  refine ok_nm2 (fun x2 ex2 => ?_)
  have qx2 : x2.toInt = v1.toInt := by rw [ex2]
  have l_1 : (1 : Int32).toInt = 1 := by decide
  have f4 : ((120 + (2 * p1)) + (1 : Int32)).toInt = (120 + (2 * p1)).toInt + (1 : Int32).toInt := iadd_toInt (by omega) (by omega)
  refine ok_gd.mpr ⟨gb_of (by omega) (by omega), ?_⟩
  refine ok_nm2 (fun v3 ev3 => ?_)
  have f5 : 0 ≤ (σ.1 24 ((120 + (2 * p1)) + 1).toNatClampNeg).toInt ∧ (σ.1 24 ((120 + (2 * p1)) + 1).toNatClampNeg).toInt ≤ 9999 := hIσ 24 _
  have qv3 : v3.toInt = (σ.1 24 ((120 + (2 * p1)) + 1).toNatClampNeg).toInt := by rw [ev3]
  refine ok_nm2 (fun x4 ex4 => ?_)
  have qx4 : x4.toInt = v3.toInt := by rw [ex4]
  refine ok_ite.mpr ⟨fun h_6 => ?_, fun h_6 => ?_⟩
  · have l_0 : (0 : Int32).toInt = 0 := by decide
    have g7 : p3.toInt = (0 : Int32).toInt := by rw [h_6]
    try unfold jX10_turnedBy_38
    refine ok_nm2 (fun x6_309794 ex6_309794 => ?_)
    refine ok_ite.mpr ⟨fun h_8 => ?_, fun h_8 => ?_⟩
    · have g9 : x6_309794.toInt = (0 : Int32).toInt := by rw [h_8]
      refine ok_some.mpr ?_
      have l_100 : (100 : Int32).toInt = 100 := by decide
      have f10 : ((100 : Int32) * x2).toInt = 100 * x2.toInt := imulc l_100 (by omega) (by omega)
      exact ⟨(show -999900 ≤ (100 * x2).toInt by omega), (show (100 * x2).toInt ≤ 999900 by omega)⟩
    · have g11 : x6_309794.toInt ≠ (0 : Int32).toInt := fun z => h_8 (Int32.toInt_inj.mp z)
      refine ok_ite.mpr ⟨fun h_12 => ?_, fun h_12 => ?_⟩
      · have g13 : x6_309794.toInt = (1 : Int32).toInt := by rw [h_12]
        refine ok_some.mpr ?_
        have l_100 : (100 : Int32).toInt = 100 := by decide
        have f14 : (-x4).toInt = -x4.toInt := ineg_toInt (by omega)
        have f15 : ((100 : Int32) * (-x4)).toInt = 100 * (-x4).toInt := imulc l_100 (by omega) (by omega)
        exact ⟨(show -999900 ≤ (100 * (-x4)).toInt by omega), (show (100 * (-x4)).toInt ≤ 999900 by omega)⟩
      · have g16 : x6_309794.toInt ≠ (1 : Int32).toInt := fun z => h_12 (Int32.toInt_inj.mp z)
        refine ok_ite.mpr ⟨fun h_17 => ?_, fun h_17 => ?_⟩
        · have g18 : x6_309794.toInt = (2 : Int32).toInt := by rw [h_17]
          refine ok_some.mpr ?_
          have l_100 : (100 : Int32).toInt = 100 := by decide
          have f19 : (-x2).toInt = -x2.toInt := ineg_toInt (by omega)
          have f20 : ((100 : Int32) * (-x2)).toInt = 100 * (-x2).toInt := imulc l_100 (by omega) (by omega)
          exact ⟨(show -999900 ≤ (100 * (-x2)).toInt by omega), (show (100 * (-x2)).toInt ≤ 999900 by omega)⟩
        · have g21 : x6_309794.toInt ≠ (2 : Int32).toInt := fun z => h_17 (Int32.toInt_inj.mp z)
          refine ok_some.mpr ?_
          have l_100 : (100 : Int32).toInt = 100 := by decide
          have f22 : ((100 : Int32) * x4).toInt = 100 * x4.toInt := imulc l_100 (by omega) (by omega)
          exact ⟨(show -999900 ≤ (100 * x4).toInt by omega), (show (100 * x4).toInt ≤ 999900 by omega)⟩
  · have l_0 : (0 : Int32).toInt = 0 := by decide
    have g23 : p3.toInt ≠ (0 : Int32).toInt := fun z => h_6 (Int32.toInt_inj.mp z)
    try unfold jX10_turnedBy_38
    refine ok_nm2 (fun x6_309795 ex6_309795 => ?_)
    refine ok_ite.mpr ⟨fun h_24 => ?_, fun h_24 => ?_⟩
    · have g25 : x6_309795.toInt = (0 : Int32).toInt := by rw [h_24]
      refine ok_some.mpr ?_
      have l_100 : (100 : Int32).toInt = 100 := by decide
      have f26 : ((100 : Int32) * x2).toInt = 100 * x2.toInt := imulc l_100 (by omega) (by omega)
      exact ⟨(show -999900 ≤ (100 * x2).toInt by omega), (show (100 * x2).toInt ≤ 999900 by omega)⟩
    · have g27 : x6_309795.toInt ≠ (0 : Int32).toInt := fun z => h_24 (Int32.toInt_inj.mp z)
      refine ok_ite.mpr ⟨fun h_28 => ?_, fun h_28 => ?_⟩
      · have g29 : x6_309795.toInt = (1 : Int32).toInt := by rw [h_28]
        refine ok_some.mpr ?_
        have l_100 : (100 : Int32).toInt = 100 := by decide
        have f30 : (-x4).toInt = -x4.toInt := ineg_toInt (by omega)
        have f31 : ((100 : Int32) * (-x4)).toInt = 100 * (-x4).toInt := imulc l_100 (by omega) (by omega)
        exact ⟨(show -999900 ≤ (100 * (-x4)).toInt by omega), (show (100 * (-x4)).toInt ≤ 999900 by omega)⟩
      · have g32 : x6_309795.toInt ≠ (1 : Int32).toInt := fun z => h_28 (Int32.toInt_inj.mp z)
        refine ok_ite.mpr ⟨fun h_33 => ?_, fun h_33 => ?_⟩
        · have g34 : x6_309795.toInt = (2 : Int32).toInt := by rw [h_33]
          refine ok_some.mpr ?_
          have l_100 : (100 : Int32).toInt = 100 := by decide
          have f35 : (-x2).toInt = -x2.toInt := ineg_toInt (by omega)
          have f36 : ((100 : Int32) * (-x2)).toInt = 100 * (-x2).toInt := imulc l_100 (by omega) (by omega)
          exact ⟨(show -999900 ≤ (100 * (-x2)).toInt by omega), (show (100 * (-x2)).toInt ≤ 999900 by omega)⟩
        · have g37 : x6_309795.toInt ≠ (2 : Int32).toInt := fun z => h_33 (Int32.toInt_inj.mp z)
          refine ok_some.mpr ?_
          have l_100 : (100 : Int32).toInt = 100 := by decide
          have f38 : ((100 : Int32) * x4).toInt = 100 * x4.toInt := imulc l_100 (by omega) (by omega)
          exact ⟨(show -999900 ≤ (100 * x4).toInt by omega), (show (100 * x4).toInt ≤ 999900 by omega)⟩
set_option maxRecDepth 20000 in
set_option maxHeartbeats 2000000 in
theorem o_fX10_turned {σ : gS} (hIσ : IM σ) {p1 : Int32} {p2 : Int32} (h0p1 : -1 ≤ p1.toInt) (h1p1 : p1.toInt ≤ 59) (h0p2 : 0 ≤ p2.toInt) (h1p2 : p2.toInt ≤ 1) : Ok (fX10_turned σ p1 p2) (fun out => -999900 ≤ out.toInt ∧ out.toInt ≤ 999900) := by
  unfold fX10_turned
  have hfσ : Fr fr_fX10_turned σ σ := Fr_r
  refine ok_bd.mpr ?_
  try unfold fX10_pictureOf
  have l_60 : (60 : Int32).toInt = 60 := by decide
  have f1 : ((60 : Int32) + p1).toInt = (60 : Int32).toInt + p1.toInt := iadd_toInt (by omega) (by omega)
  refine ok_gd.mpr ⟨gb_of (by omega) (by omega), ?_⟩
  refine ok_nm2 (fun v1_309796 ev1_309796 => ?_)
  have f2 : 0 ≤ (σ.1 22 (60 + p1).toNatClampNeg).toInt ∧ (σ.1 22 (60 + p1).toNatClampNeg).toInt ≤ 11 := hIσ 22 _
  have qv1_309796 : v1_309796.toInt = (σ.1 22 (60 + p1).toNatClampNeg).toInt := by rw [ev1_309796]
  refine ok_some.mpr ?_
  refine ok_gd.mpr ⟨gb_of (by omega) (by omega), ?_⟩
  refine ok_nm2 (fun v3_309797 ev3_309797 => ?_)
  have f3 : 0 ≤ (σ.1 27 v1_309796.toNatClampNeg).toInt ∧ (σ.1 27 v1_309796.toNatClampNeg).toInt ≤ 3 := by
    have hz : v1_309796.toNatClampNeg = v1_309796.toInt.toNat := rfl
    have hb := hIσ 27 v1_309796.toNatClampNeg
    have hj : v1_309796.toNatClampNeg = 0 ∨ v1_309796.toNatClampNeg = 1 ∨ v1_309796.toNatClampNeg = 2 ∨ v1_309796.toNatClampNeg = 3 ∨ v1_309796.toNatClampNeg = 4 ∨ v1_309796.toNatClampNeg = 5 ∨ v1_309796.toNatClampNeg = 6 ∨ v1_309796.toNatClampNeg = 7 ∨ v1_309796.toNatClampNeg = 8 ∨ v1_309796.toNatClampNeg = 9 ∨ v1_309796.toNatClampNeg = 10 ∨ v1_309796.toNatClampNeg = 11 := by omega
    generalize v1_309796.toNatClampNeg = j at hb hj ⊢
    rcases hj with rfl | rfl | rfl | rfl | rfl | rfl | rfl | rfl | rfl | rfl | rfl | rfl <;> exact ⟨Int.le_trans (by decide) hb.1, Int.le_trans hb.2 (by decide)⟩
  have qv3_309797 : v3_309797.toInt = (σ.1 27 v1_309796.toNatClampNeg).toInt := by rw [ev3_309797]
  refine ok_bd.mpr ((o_fX10_turnedBy hIσ (by omega) (by omega) (by omega) (by omega) (by omega) (by omega)).mono (fun r5_309797 ho_5 => ?_))
  obtain ⟨r0r5_309797, r1r5_309797⟩ := ho_5
  refine ok_some.mpr ?_
  exact ⟨(show -999900 ≤ r5_309797.toInt by omega), (show r5_309797.toInt ≤ 999900 by omega)⟩
set_option maxRecDepth 20000 in
set_option maxHeartbeats 2000000 in
theorem o_fX10_put {σ : gS} (hIσ : IM σ) {p1 : Int32} {p2 : Int32} (h0p1 : -1 ≤ p1.toInt) (h1p1 : p1.toInt ≤ 59) (h0p2 : 0 ≤ p2.toInt) (h1p2 : p2.toInt ≤ 1) : Ok (fX10_put σ p1 p2) (fun _ => True) := by
  unfold fX10_put
  have hfσ : Fr fr_fX10_put σ σ := Fr_r
  refine ok_bd.mpr ?_
  try unfold fX10_pictureOf
  have l_60 : (60 : Int32).toInt = 60 := by decide
  have f1 : ((60 : Int32) + p1).toInt = (60 : Int32).toInt + p1.toInt := iadd_toInt (by omega) (by omega)
  refine ok_gd.mpr ⟨gb_of (by omega) (by omega), ?_⟩
  refine ok_nm2 (fun v1_309798 ev1_309798 => ?_)
  have f2 : 0 ≤ (σ.1 22 (60 + p1).toNatClampNeg).toInt ∧ (σ.1 22 (60 + p1).toNatClampNeg).toInt ≤ 11 := hIσ 22 _
  have qv1_309798 : v1_309798.toInt = (σ.1 22 (60 + p1).toNatClampNeg).toInt := by rw [ev1_309798]
  refine ok_some.mpr ?_
  have l_38 : (38 : Int32).toInt = 38 := by decide
  have f3 : ((38 : Int32) * p2).toInt = 38 * p2.toInt := imulc l_38 (by omega) (by omega)
  have f4 : ((38 * p2) + v1_309798).toInt = (38 * p2).toInt + v1_309798.toInt := iadd_toInt (by omega) (by omega)
  refine ok_gd.mpr ⟨gb_of (by omega) (by omega), ?_⟩
  refine ok_nm2 (fun v3_309799 ev3_309799 => ?_)
  refine ok_bd.mpr ((o_fX10_turned hIσ (by omega) (by omega) (by omega) (by omega)).mono (fun r5_309799 ho_6 => ?_))
  obtain ⟨r0r5_309799, r1r5_309799⟩ := ho_6
  refine ok_some.mpr ?_
  exact trivial
set_option maxRecDepth 20000 in
set_option maxHeartbeats 2000000 in
theorem o_fX10_rowOf {σ : gS} (hIσ : IM σ) {p1 : Int32} {p2 : Int32}  : Ok (fX10_rowOf σ p1 p2) (fun out => -1 ≤ out.toInt ∧ out.toInt ≤ 59) := by
  unfold fX10_rowOf
  have hfσ : Fr fr_fX10_rowOf σ σ := Fr_r
  refine ok_nm2 (fun x1 ex1 => ?_)
  have l_0 : (0 : Int32).toInt = 0 := by decide
  have qx1 : x1.toInt = 0 := by rw [ex1]; decide
  refine ok_lpc (I := fun n s => n = (60 + 1 - s.toInt).toNat ∧ 0 ≤ s.toInt ∧ s.toInt ≤ 60) (fun rec2_309800r n_309800 s_309800 hs_309800 hrec_309800 => ?_) K9 _ _ ⟨rfl, (by (try dsimp only); omega), (by (try dsimp only); omega)⟩ (by unfold K9; (try dsimp only); omega)
  obtain ⟨a3_309800, hq_309800⟩ : ∃ y, y = s_309800 := ⟨_, rfl⟩
  subst hq_309800
  obtain ⟨hn_309800, b0a3_309800, b1a3_309800⟩ := hs_309800
  skip
  unfold bX10_rowOf_2
  try dsimp only
  refine ok_bd.mpr ?_
  try unfold fX10_rows
  have l_9 : (9 : Int32).toInt = 9 := by decide
  refine ok_gd.mpr ⟨gb_of (by omega) (by omega), ?_⟩
  refine ok_nm2 (fun v1_309832 ev1_309832 => ?_)
  have f1 : 0 ≤ (σ.1 15 (9 : Int32).toNatClampNeg).toInt ∧ (σ.1 15 (9 : Int32).toNatClampNeg).toInt ≤ 60 := hIσ 15 _
  have qv1_309832 : v1_309832.toInt = (σ.1 15 (9 : Int32).toNatClampNeg).toInt := by rw [ev1_309832]
  refine ok_some.mpr ?_
  refine ok_ite.mpr ⟨fun h_2 => ?_, fun h_2 => ?_⟩
  · have g3 : v1_309832.toInt ≤ a3_309800.toInt := Int32.le_iff_toInt_le.mp h_2
    refine ok_some.mpr ?_
    have l_m1 : (-1 : Int32).toInt = -1 := by decide
    exact ⟨(show -1 ≤ (-1 : Int32).toInt by omega), (show (-1 : Int32).toInt ≤ 59 by omega)⟩
  · have g4 : ¬ v1_309832.toInt ≤ a3_309800.toInt := fun z => h_2 (Int32.le_iff_toInt_le.mpr z)
    refine ok_gd.mpr ⟨gb_of (by omega) (by omega), ?_⟩
    refine ok_nm2 (fun v5_309831_309833 ev5_309831_309833 => ?_)
    have f5 : 0 ≤ (σ.1 26 a3_309800.toNatClampNeg).toInt ∧ (σ.1 26 a3_309800.toNatClampNeg).toInt ≤ 1 := hIσ 26 _
    have qv5_309831_309833 : v5_309831_309833.toInt = (σ.1 26 a3_309800.toNatClampNeg).toInt := by rw [ev5_309831_309833]
    refine ok_ite.mpr ⟨fun h_6 => ?_, fun h_6 => ?_⟩
    · have g7 : v5_309831_309833.toInt = (0 : Int32).toInt := by rw [h_6]
      refine ok_bd.mpr ?_
      try unfold fX10_pictureOf
      have l_60 : (60 : Int32).toInt = 60 := by decide
      have f8 : ((60 : Int32) + a3_309800).toInt = (60 : Int32).toInt + a3_309800.toInt := iadd_toInt (by omega) (by omega)
      refine ok_gd.mpr ⟨gb_of (by omega) (by omega), ?_⟩
      refine ok_nm2 (fun v1_309834 ev1_309834 => ?_)
      have f9 : 0 ≤ (σ.1 22 (60 + a3_309800).toNatClampNeg).toInt ∧ (σ.1 22 (60 + a3_309800).toNatClampNeg).toInt ≤ 11 := hIσ 22 _
      have qv1_309834 : v1_309834.toInt = (σ.1 22 (60 + a3_309800).toNatClampNeg).toInt := by rw [ev1_309834]
      refine ok_some.mpr ?_
      refine ok_ite.mpr ⟨fun h_10 => ?_, fun h_10 => ?_⟩
      · have g11 : v1_309834.toInt = p1.toInt := by rw [h_10]
        refine ok_bd.mpr ?_
        try unfold fX10_pointOf
        refine ok_gd.mpr ⟨gb_of (by omega) (by omega), ?_⟩
        refine ok_nm2 (fun v1_309836 ev1_309836 => ?_)
        have f12 : 0 ≤ (σ.1 23 (60 + a3_309800).toNatClampNeg).toInt ∧ (σ.1 23 (60 + a3_309800).toNatClampNeg).toInt ≤ 19 := hIσ 23 _
        have qv1_309836 : v1_309836.toInt = (σ.1 23 (60 + a3_309800).toNatClampNeg).toInt := by rw [ev1_309836]
        refine ok_some.mpr ?_
        refine ok_ite.mpr ⟨fun h_13 => ?_, fun h_13 => ?_⟩
        · have g14 : v1_309836.toInt = p2.toInt := by rw [h_13]
          refine ok_some.mpr ?_
          exact ⟨(show -1 ≤ a3_309800.toInt by omega), (show a3_309800.toInt ≤ 59 by omega)⟩
        · have g15 : v1_309836.toInt ≠ p2.toInt := fun z => h_13 (Int32.toInt_inj.mp z)
          refine ok_nm2 (fun x15_309831_309833_309835_309837 ex15_309831_309833_309835_309837 => ?_)
          have l_1 : (1 : Int32).toInt = 1 := by decide
          have f16 : (a3_309800 + (1 : Int32)).toInt = a3_309800.toInt + (1 : Int32).toInt := iadd_toInt (by omega) (by omega)
          have qx15_309831_309833_309835_309837 : x15_309831_309833_309835_309837.toInt = (a3_309800 + 1).toInt := by rw [ex15_309831_309833_309835_309837]
          exact hrec_309800 _ x15_309831_309833_309835_309837 (show (60 + 1 - x15_309831_309833_309835_309837.toInt).toNat < n_309800 by omega) ⟨rfl, (show 0 ≤ x15_309831_309833_309835_309837.toInt by omega), (show x15_309831_309833_309835_309837.toInt ≤ 60 by omega)⟩
      · have g17 : v1_309834.toInt ≠ p1.toInt := fun z => h_10 (Int32.toInt_inj.mp z)
        refine ok_nm2 (fun x11_309831_309833_309835 ex11_309831_309833_309835 => ?_)
        have l_1 : (1 : Int32).toInt = 1 := by decide
        have f18 : (a3_309800 + (1 : Int32)).toInt = a3_309800.toInt + (1 : Int32).toInt := iadd_toInt (by omega) (by omega)
        have qx11_309831_309833_309835 : x11_309831_309833_309835.toInt = (a3_309800 + 1).toInt := by rw [ex11_309831_309833_309835]
        exact hrec_309800 _ x11_309831_309833_309835 (show (60 + 1 - x11_309831_309833_309835.toInt).toNat < n_309800 by omega) ⟨rfl, (show 0 ≤ x11_309831_309833_309835.toInt by omega), (show x11_309831_309833_309835.toInt ≤ 60 by omega)⟩
    · have g19 : v5_309831_309833.toInt ≠ (0 : Int32).toInt := fun z => h_6 (Int32.toInt_inj.mp z)
      refine ok_nm2 (fun x7_309831_309833 ex7_309831_309833 => ?_)
      have l_1 : (1 : Int32).toInt = 1 := by decide
      have f20 : (a3_309800 + (1 : Int32)).toInt = a3_309800.toInt + (1 : Int32).toInt := iadd_toInt (by omega) (by omega)
      have qx7_309831_309833 : x7_309831_309833.toInt = (a3_309800 + 1).toInt := by rw [ex7_309831_309833]
      exact hrec_309800 _ x7_309831_309833 (show (60 + 1 - x7_309831_309833.toInt).toNat < n_309800 by omega) ⟨rfl, (show 0 ≤ x7_309831_309833.toInt by omega), (show x7_309831_309833.toInt ≤ 60 by omega)⟩
set_option maxRecDepth 20000 in
set_option maxHeartbeats 2000000 in
theorem o_fX10_sharedMany {σ : gS} (hIσ : IM σ) {p1 : Int32} (h0p1 : 0 ≤ p1.toInt) (h1p1 : p1.toInt ≤ 11) : Ok (fX10_sharedMany σ p1) (fun _ => True) := by
  unfold fX10_sharedMany
  have hfσ : Fr fr_fX10_sharedMany σ σ := Fr_r
  refine ok_nm2 (fun x1 ex1 => ?_)
  have l_0 : (0 : Int32).toInt = 0 := by decide
  have qx1 : x1.toInt = 0 := by rw [ex1]; decide
  refine ok_nm2 (fun x2 ex2 => ?_)
  have qx2 : x2.toInt = 0 := by rw [ex2]; decide
  refine ok_lpc (I := fun n s => n = (20 + 1 - s.2.toInt).toNat ∧ 0 ≤ s.2.toInt ∧ s.2.toInt ≤ 20) (fun rec4_309838r n_309838 s_309838 hs_309838 hrec_309838 => ?_) K9 _ _ ⟨rfl, (by (try dsimp only); omega), (by (try dsimp only); omega)⟩ (by unfold K9; (try dsimp only); omega)
  obtain ⟨a2_309838, a3_309838⟩ := s_309838
  obtain ⟨hn_309838, b0a3_309838, b1a3_309838⟩ := hs_309838
  dsimp only at hn_309838 b0a3_309838 b1a3_309838
  unfold bX10_sharedMany_4
  try dsimp only
  refine ok_bd.mpr ?_
  try unfold fX10_points
  have l_8 : (8 : Int32).toInt = 8 := by decide
  refine ok_gd.mpr ⟨gb_of (by omega) (by omega), ?_⟩
  refine ok_nm2 (fun v1_309859 ev1_309859 => ?_)
  have f1 : 0 ≤ (σ.1 15 (8 : Int32).toNatClampNeg).toInt ∧ (σ.1 15 (8 : Int32).toNatClampNeg).toInt ≤ 20 := hIσ 15 _
  have qv1_309859 : v1_309859.toInt = (σ.1 15 (8 : Int32).toNatClampNeg).toInt := by rw [ev1_309859]
  refine ok_some.mpr ?_
  refine ok_ite.mpr ⟨fun h_2 => ?_, fun h_2 => ?_⟩
  · have g3 : v1_309859.toInt ≤ a3_309838.toInt := Int32.le_iff_toInt_le.mp h_2
    refine ok_some.mpr ?_
    exact trivial
  · have g4 : ¬ v1_309859.toInt ≤ a3_309838.toInt := fun z => h_2 (Int32.le_iff_toInt_le.mpr z)
    refine ok_bd.mpr ((o_fX10_rowOf hIσ ).mono (fun r7_309858_309860 ho_6 => ?_))
    obtain ⟨r0r7_309858_309860, r1r7_309858_309860⟩ := ho_6
    refine ok_ite.mpr ⟨fun h_7 => ?_, fun h_7 => ?_⟩
    · have l_m1 : (-1 : Int32).toInt = -1 := by decide
      have g8 : r7_309858_309860.toInt = (-1 : Int32).toInt := by rw [h_7]
      refine ok_nm2 (fun x9_309858_309860 ex9_309858_309860 => ?_)
      have l_1 : (1 : Int32).toInt = 1 := by decide
      have f9 : (a3_309838 + (1 : Int32)).toInt = a3_309838.toInt + (1 : Int32).toInt := iadd_toInt (by omega) (by omega)
      have qx9_309858_309860 : x9_309858_309860.toInt = (a3_309838 + 1).toInt := by rw [ex9_309858_309860]
      exact hrec_309838 _ (a2_309838, x9_309858_309860) (show (20 + 1 - x9_309858_309860.toInt).toNat < n_309838 by omega) ⟨rfl, (show 0 ≤ x9_309858_309860.toInt by omega), (show x9_309858_309860.toInt ≤ 20 by omega)⟩
    · have l_m1 : (-1 : Int32).toInt = -1 := by decide
      have g10 : r7_309858_309860.toInt ≠ (-1 : Int32).toInt := fun z => h_7 (Int32.toInt_inj.mp z)
      refine ok_bd.mpr ((o_fX10_startedRow hIσ ).mono (fun r11_309858_309860 ho_12 => ?_))
      obtain ⟨r0r11_309858_309860, r1r11_309858_309860⟩ := ho_12
      refine ok_ite.mpr ⟨fun h_13 => ?_, fun h_13 => ?_⟩
      · have g14 : r11_309858_309860.toInt = (-1 : Int32).toInt := by rw [h_13]
        refine ok_nm2 (fun x13_309858_309860 ex13_309858_309860 => ?_)
        have l_1 : (1 : Int32).toInt = 1 := by decide
        have f15 : (a3_309838 + (1 : Int32)).toInt = a3_309838.toInt + (1 : Int32).toInt := iadd_toInt (by omega) (by omega)
        have qx13_309858_309860 : x13_309858_309860.toInt = (a3_309838 + 1).toInt := by rw [ex13_309858_309860]
        exact hrec_309838 _ (a2_309838, x13_309858_309860) (show (20 + 1 - x13_309858_309860.toInt).toNat < n_309838 by omega) ⟨rfl, (show 0 ≤ x13_309858_309860.toInt by omega), (show x13_309858_309860.toInt ≤ 20 by omega)⟩
      · have g16 : r11_309858_309860.toInt ≠ (-1 : Int32).toInt := fun z => h_13 (Int32.toInt_inj.mp z)
        refine ok_nm2 (fun x14_309858_309860 ex14_309858_309860 => ?_)
        have l_1 : (1 : Int32).toInt = 1 := by decide
        refine ok_nm2 (fun x15_309858_309860 ex15_309858_309860 => ?_)
        have f17 : (a3_309838 + (1 : Int32)).toInt = a3_309838.toInt + (1 : Int32).toInt := iadd_toInt (by omega) (by omega)
        have qx15_309858_309860 : x15_309858_309860.toInt = (a3_309838 + 1).toInt := by rw [ex15_309858_309860]
        exact hrec_309838 _ (x14_309858_309860, x15_309858_309860) (show (20 + 1 - x15_309858_309860.toInt).toNat < n_309838 by omega) ⟨rfl, (show 0 ≤ x15_309858_309860.toInt by omega), (show x15_309858_309860.toInt ≤ 20 by omega)⟩
set_option maxRecDepth 20000 in
set_option maxHeartbeats 2000000 in
theorem o_fX10_nextStarted {σ : gS} (hIσ : IM σ)   : Ok (fX10_nextStarted σ ) (fun out => -1 ≤ out.toInt ∧ out.toInt ≤ 11) := by
  unfold fX10_nextStarted
  have hfσ : Fr fr_fX10_nextStarted σ σ := Fr_r
  refine ok_nm2 (fun x1 ex1 => ?_)
  have l_0 : (0 : Int32).toInt = 0 := by decide
  have qx1 : x1.toInt = 0 := by rw [ex1]; decide
  refine ok_lpc (I := fun n s => n = (12 + 1 - s.toInt).toNat ∧ 0 ≤ s.toInt ∧ s.toInt ≤ 12) (fun rec2_309861r n_309861 s_309861 hs_309861 hrec_309861 => ?_) K9 _ _ ⟨rfl, (by (try dsimp only); omega), (by (try dsimp only); omega)⟩ (by unfold K9; (try dsimp only); omega)
  obtain ⟨a1_309861, hq_309861⟩ : ∃ y, y = s_309861 := ⟨_, rfl⟩
  subst hq_309861
  obtain ⟨hn_309861, b0a1_309861, b1a1_309861⟩ := hs_309861
  skip
  unfold bX10_nextStarted_2
  try dsimp only
  refine ok_bd.mpr ?_
  try unfold fX10_pictures
  have l_7 : (7 : Int32).toInt = 7 := by decide
  refine ok_gd.mpr ⟨gb_of (by omega) (by omega), ?_⟩
  refine ok_nm2 (fun v1_309870 ev1_309870 => ?_)
  have f1 : 0 ≤ (σ.1 15 (7 : Int32).toNatClampNeg).toInt ∧ (σ.1 15 (7 : Int32).toNatClampNeg).toInt ≤ 12 := hIσ 15 _
  have qv1_309870 : v1_309870.toInt = (σ.1 15 (7 : Int32).toNatClampNeg).toInt := by rw [ev1_309870]
  refine ok_some.mpr ?_
  refine ok_ite.mpr ⟨fun h_2 => ?_, fun h_2 => ?_⟩
  · have g3 : v1_309870.toInt ≤ a1_309861.toInt := Int32.le_iff_toInt_le.mp h_2
    refine ok_some.mpr ?_
    have l_m1 : (-1 : Int32).toInt = -1 := by decide
    exact ⟨(show -1 ≤ (-1 : Int32).toInt by omega), (show (-1 : Int32).toInt ≤ 11 by omega)⟩
  · have g4 : ¬ v1_309870.toInt ≤ a1_309861.toInt := fun z => h_2 (Int32.le_iff_toInt_le.mpr z)
    refine ok_gd.mpr ⟨gb_of (by omega) (by omega), ?_⟩
    refine ok_nm2 (fun v5_309867_309871 ev5_309867_309871 => ?_)
    have f5 : 0 ≤ (σ.1 29 a1_309861.toNatClampNeg).toInt ∧ (σ.1 29 a1_309861.toNatClampNeg).toInt ≤ 1 := hIσ 29 _
    have qv5_309867_309871 : v5_309867_309871.toInt = (σ.1 29 a1_309861.toNatClampNeg).toInt := by rw [ev5_309867_309871]
    refine ok_ite.mpr ⟨fun h_6 => ?_, fun h_6 => ?_⟩
    · have g7 : v5_309867_309871.toInt = (0 : Int32).toInt := by rw [h_6]
      refine ok_bd.mpr ((o_fX10_sharedMany hIσ (by omega) (by omega)).mono (fun r9_309867_309871 ho_9 => ?_))
      have l_12 : (12 : Int32).toInt = 12 := by decide
      have f10 : ((12 : Int32) + a1_309861).toInt = (12 : Int32).toInt + a1_309861.toInt := iadd_toInt (by omega) (by omega)
      refine ok_gd.mpr ⟨gb_of (by omega) (by omega), ?_⟩
      refine ok_nm2 (fun v10_309867_309871 ev10_309867_309871 => ?_)
      have f11 : 0 ≤ (σ.1 17 (12 + a1_309861).toNatClampNeg).toInt ∧ (σ.1 17 (12 + a1_309861).toNatClampNeg).toInt ≤ 4 := hIσ 17 _
      have qv10_309867_309871 : v10_309867_309871.toInt = (σ.1 17 (12 + a1_309861).toNatClampNeg).toInt := by rw [ev10_309867_309871]
      refine ok_ite.mpr ⟨fun h_12 => ?_, fun h_12 => ?_⟩
      · have l_4 : (4 : Int32).toInt = 4 := by decide
        have g13 : v10_309867_309871.toInt = (4 : Int32).toInt := by rw [h_12]
        try unfold jX10_nextStarted_42
        refine ok_ite.mpr ⟨fun h_14 => ?_, fun h_14 => ?_⟩
        · have l_2 : (2 : Int32).toInt = 2 := by decide
          have g15 : r9_309867_309871.toInt < (2 : Int32).toInt := Int32.lt_iff_toInt_lt.mp h_14
          refine ok_nm2 (fun x13_309872 ex13_309872 => ?_)
          have l_1 : (1 : Int32).toInt = 1 := by decide
          have f16 : (a1_309861 + (1 : Int32)).toInt = a1_309861.toInt + (1 : Int32).toInt := iadd_toInt (by omega) (by omega)
          have qx13_309872 : x13_309872.toInt = (a1_309861 + 1).toInt := by rw [ex13_309872]
          exact hrec_309861 _ x13_309872 (show (12 + 1 - x13_309872.toInt).toNat < n_309861 by omega) ⟨rfl, (show 0 ≤ x13_309872.toInt by omega), (show x13_309872.toInt ≤ 12 by omega)⟩
        · have l_2 : (2 : Int32).toInt = 2 := by decide
          have g17 : ¬ r9_309867_309871.toInt < (2 : Int32).toInt := fun z => h_14 (Int32.lt_iff_toInt_lt.mpr z)
          refine ok_some.mpr ?_
          exact ⟨(show -1 ≤ a1_309861.toInt by omega), (show a1_309861.toInt ≤ 11 by omega)⟩
      · have l_4 : (4 : Int32).toInt = 4 := by decide
        have g18 : v10_309867_309871.toInt ≠ (4 : Int32).toInt := fun z => h_12 (Int32.toInt_inj.mp z)
        try unfold jX10_nextStarted_42
        refine ok_ite.mpr ⟨fun h_19 => ?_, fun h_19 => ?_⟩
        · have l_1 : (1 : Int32).toInt = 1 := by decide
          have g20 : r9_309867_309871.toInt < (1 : Int32).toInt := Int32.lt_iff_toInt_lt.mp h_19
          refine ok_nm2 (fun x13_309873 ex13_309873 => ?_)
          have f21 : (a1_309861 + (1 : Int32)).toInt = a1_309861.toInt + (1 : Int32).toInt := iadd_toInt (by omega) (by omega)
          have qx13_309873 : x13_309873.toInt = (a1_309861 + 1).toInt := by rw [ex13_309873]
          exact hrec_309861 _ x13_309873 (show (12 + 1 - x13_309873.toInt).toNat < n_309861 by omega) ⟨rfl, (show 0 ≤ x13_309873.toInt by omega), (show x13_309873.toInt ≤ 12 by omega)⟩
        · have l_1 : (1 : Int32).toInt = 1 := by decide
          have g22 : ¬ r9_309867_309871.toInt < (1 : Int32).toInt := fun z => h_19 (Int32.lt_iff_toInt_lt.mpr z)
          refine ok_some.mpr ?_
          exact ⟨(show -1 ≤ a1_309861.toInt by omega), (show a1_309861.toInt ≤ 11 by omega)⟩
    · have g23 : v5_309867_309871.toInt ≠ (0 : Int32).toInt := fun z => h_6 (Int32.toInt_inj.mp z)
      refine ok_nm2 (fun x7_309867_309871 ex7_309867_309871 => ?_)
      have l_1 : (1 : Int32).toInt = 1 := by decide
      have f24 : (a1_309861 + (1 : Int32)).toInt = a1_309861.toInt + (1 : Int32).toInt := iadd_toInt (by omega) (by omega)
      have qx7_309867_309871 : x7_309867_309871.toInt = (a1_309861 + 1).toInt := by rw [ex7_309867_309871]
      exact hrec_309861 _ x7_309867_309871 (show (12 + 1 - x7_309867_309871.toInt).toNat < n_309861 by omega) ⟨rfl, (show 0 ≤ x7_309867_309871.toInt by omega), (show x7_309867_309871.toInt ≤ 12 by omega)⟩
set_option maxRecDepth 20000 in
set_option maxHeartbeats 2000000 in
theorem o_fX10_unlike {σ : gS} (hIσ : IM σ) {p1 : Int32} {p2 : Int32} (h0p1 : 0 ≤ p1.toInt) (h1p1 : p1.toInt ≤ 11) (h0p2 : 0 ≤ p2.toInt) (h1p2 : p2.toInt ≤ 6) : Ok (fX10_unlike σ p1 p2) (fun _ => True) := by
  unfold fX10_unlike
  have hfσ : Fr fr_fX10_unlike σ σ := Fr_r
  refine ok_nm2 (fun x1 ex1 => ?_)
  have l_m1 : (-1 : Int32).toInt = -1 := by decide
  have qx1 : x1.toInt = (-1 : Int32).toInt := by rw [ex1]
  refine ok_nm2 (fun x2 ex2 => ?_)
  refine ok_nm2 (fun x3 ex3 => ?_)
  have l_0 : (0 : Int32).toInt = 0 := by decide
  have qx3 : x3.toInt = 0 := by rw [ex3]; decide
  refine ok_lpc (I := fun n s => n = (20 + 1 - s.2.2.toInt).toNat ∧ -1 ≤ s.1.toInt ∧ s.1.toInt ≤ 20 ∧ 0 ≤ s.2.2.toInt ∧ s.2.2.toInt ≤ 20) (fun rec8_309874r n_309874 s_309874 hs_309874 hrec_309874 => ?_) K9 _ _ ⟨rfl, (by (try dsimp only); omega), (by (try dsimp only); omega), (by (try dsimp only); omega), (by (try dsimp only); omega)⟩ (by unfold K9; (try dsimp only); omega)
  obtain ⟨a3_309874, a4_309874, a6_309874⟩ := s_309874
  obtain ⟨hn_309874, b0a3_309874, b1a3_309874, b0a6_309874, b1a6_309874⟩ := hs_309874
  dsimp only at hn_309874 b0a3_309874 b1a3_309874 b0a6_309874 b1a6_309874
  unfold bX10_unlike_8
  try dsimp only
  refine ok_bd.mpr ?_
  try unfold fX10_points
  have l_8 : (8 : Int32).toInt = 8 := by decide
  refine ok_gd.mpr ⟨gb_of (by omega) (by omega), ?_⟩
  refine ok_nm2 (fun v1_309939 ev1_309939 => ?_)
  have f1 : 0 ≤ (σ.1 15 (8 : Int32).toNatClampNeg).toInt ∧ (σ.1 15 (8 : Int32).toNatClampNeg).toInt ≤ 20 := hIσ 15 _
  have qv1_309939 : v1_309939.toInt = (σ.1 15 (8 : Int32).toNatClampNeg).toInt := by rw [ev1_309939]
  refine ok_some.mpr ?_
  refine ok_ite.mpr ⟨fun h_2 => ?_, fun h_2 => ?_⟩
  · have g3 : v1_309939.toInt ≤ a6_309874.toInt := Int32.le_iff_toInt_le.mp h_2
    refine ok_some.mpr ?_
    exact trivial
  · have g4 : ¬ v1_309939.toInt ≤ a6_309874.toInt := fun z => h_2 (Int32.le_iff_toInt_le.mpr z)
    refine ok_bd.mpr ((o_fX10_rowOf hIσ ).mono (fun r8_309934_309940 ho_6 => ?_))
    obtain ⟨r0r8_309934_309940, r1r8_309934_309940⟩ := ho_6
    refine ok_nm2 (fun x9_309934_309940 ex9_309934_309940 => ?_)
    have qx9_309934_309940 : x9_309934_309940.toInt = r8_309934_309940.toInt := by rw [ex9_309934_309940]
    refine ok_bd.mpr ((o_fX10_startedRow hIσ ).mono (fun r11_309934_309940 ho_8 => ?_))
    obtain ⟨r0r11_309934_309940, r1r11_309934_309940⟩ := ho_8
    refine ok_nm2 (fun x12_309934_309940 ex12_309934_309940 => ?_)
    have qx12_309934_309940 : x12_309934_309940.toInt = r11_309934_309940.toInt := by rw [ex12_309934_309940]
    refine ok_ite.mpr ⟨fun h_9 => ?_, fun h_9 => ?_⟩
    · have g10 : x9_309934_309940.toInt = (-1 : Int32).toInt := by rw [h_9]
      refine ok_nm2 (fun x14_309934_309940 ex14_309934_309940 => ?_)
      have l_1 : (1 : Int32).toInt = 1 := by decide
      have f11 : (a6_309874 + (1 : Int32)).toInt = a6_309874.toInt + (1 : Int32).toInt := iadd_toInt (by omega) (by omega)
      have qx14_309934_309940 : x14_309934_309940.toInt = (a6_309874 + 1).toInt := by rw [ex14_309934_309940]
      exact hrec_309874 _ (a3_309874, a4_309874, x14_309934_309940) (show (20 + 1 - x14_309934_309940.toInt).toNat < n_309874 by omega) ⟨rfl, (show -1 ≤ a3_309874.toInt by omega), (show a3_309874.toInt ≤ 20 by omega), (show 0 ≤ x14_309934_309940.toInt by omega), (show x14_309934_309940.toInt ≤ 20 by omega)⟩
    · have g12 : x9_309934_309940.toInt ≠ (-1 : Int32).toInt := fun z => h_9 (Int32.toInt_inj.mp z)
      refine ok_ite.mpr ⟨fun h_13 => ?_, fun h_13 => ?_⟩
      · have g14 : x12_309934_309940.toInt = (-1 : Int32).toInt := by rw [h_13]
        refine ok_nm2 (fun x38_309934_309940 ex38_309934_309940 => ?_)
        have l_1 : (1 : Int32).toInt = 1 := by decide
        have f15 : (a6_309874 + (1 : Int32)).toInt = a6_309874.toInt + (1 : Int32).toInt := iadd_toInt (by omega) (by omega)
        have qx38_309934_309940 : x38_309934_309940.toInt = (a6_309874 + 1).toInt := by rw [ex38_309934_309940]
        exact hrec_309874 _ (a3_309874, a4_309874, x38_309934_309940) (show (20 + 1 - x38_309934_309940.toInt).toNat < n_309874 by omega) ⟨rfl, (show -1 ≤ a3_309874.toInt by omega), (show a3_309874.toInt ≤ 20 by omega), (show 0 ≤ x38_309934_309940.toInt by omega), (show x38_309934_309940.toInt ≤ 20 by omega)⟩
      · have g16 : x12_309934_309940.toInt ≠ (-1 : Int32).toInt := fun z => h_13 (Int32.toInt_inj.mp z)
        refine ok_ite.mpr ⟨fun h_17 => ?_, fun h_17 => ?_⟩
        · have g18 : a3_309874.toInt = (-1 : Int32).toInt := by rw [h_17]
          refine ok_nm2 (fun x36_309934_309940 ex36_309934_309940 => ?_)
          have qx36_309934_309940 : x36_309934_309940.toInt = a6_309874.toInt := by rw [ex36_309934_309940]
          refine ok_nm2 (fun x37_309934_309940 ex37_309934_309940 => ?_)
          have qx37_309934_309940 : x37_309934_309940.toInt = 0 := by rw [ex37_309934_309940]; decide
          refine ok_lpc (I := fun n s => n = (6 + 1 - s.2.toInt).toNat ∧ 0 ≤ s.2.toInt ∧ s.2.toInt ≤ 6) (fun rec60_309941r n_309941 s_309941 hs_309941 hrec_309941 => ?_) K9 _ _ ⟨rfl, (by (try dsimp only); omega), (by (try dsimp only); omega)⟩ (by unfold K9; (try dsimp only); omega)
          obtain ⟨a4_309941, a9_309941⟩ := s_309941
          obtain ⟨hn_309941, b0a9_309941, b1a9_309941⟩ := hs_309941
          dsimp only at hn_309941 b0a9_309941 b1a9_309941
          unfold bX10_unlike_60
          try dsimp only
          refine ok_ite.mpr ⟨fun h_19 => ?_, fun h_19 => ?_⟩
          · have l_2 : (2 : Int32).toInt = 2 := by decide
            have g20 : (2 : Int32).toInt ≤ a9_309941.toInt := Int32.le_iff_toInt_le.mp h_19
            refine ok_nm2 (fun x19_309946 ex19_309946 => ?_)
            have l_1 : (1 : Int32).toInt = 1 := by decide
            have f21 : (a6_309874 + (1 : Int32)).toInt = a6_309874.toInt + (1 : Int32).toInt := iadd_toInt (by omega) (by omega)
            have qx19_309946 : x19_309946.toInt = (a6_309874 + 1).toInt := by rw [ex19_309946]
            exact hrec_309874 _ (x36_309934_309940, a4_309941, x19_309946) (show (20 + 1 - x19_309946.toInt).toNat < n_309874 by omega) ⟨rfl, (show -1 ≤ x36_309934_309940.toInt by omega), (show x36_309934_309940.toInt ≤ 20 by omega), (show 0 ≤ x19_309946.toInt by omega), (show x19_309946.toInt ≤ 20 by omega)⟩
          · have l_2 : (2 : Int32).toInt = 2 := by decide
            have g22 : ¬ (2 : Int32).toInt ≤ a9_309941.toInt := fun z => h_19 (Int32.le_iff_toInt_le.mpr z)
            refine ok_bd.mpr ((o_fX10_turnedBy hIσ (by omega) (by omega) (by omega) (by omega) (by omega) (by omega)).mono (fun r21_309946 ho_24 => ?_))
            obtain ⟨r0r21_309946, r1r21_309946⟩ := ho_24
            refine ok_bd.mpr ((o_fX10_rowOf hIσ ).mono (fun r23_309946 ho_26 => ?_))
            obtain ⟨r0r23_309946, r1r23_309946⟩ := ho_26
            refine ok_bd.mpr ((o_fX10_turnedBy hIσ (by omega) (by omega) (by omega) (by omega) (by omega) (by omega)).mono (fun r25_309946 ho_28 => ?_))
            obtain ⟨r0r25_309946, r1r25_309946⟩ := ho_28
            refine ok_bd.mpr ((o_fX10_put hIσ (by omega) (by omega) (by omega) (by omega)).mono (fun r27_309946 ho_30 => ?_))
            refine ok_bd.mpr ((o_fX10_startedRow hIσ ).mono (fun r29_309946 ho_32 => ?_))
            obtain ⟨r0r29_309946, r1r29_309946⟩ := ho_32
            refine ok_bd.mpr ((o_fX10_put hIσ (by omega) (by omega) (by omega) (by omega)).mono (fun r31_309946 ho_34 => ?_))
            refine ok_bd.mpr ?_
            try unfold fX10_apart
            refine ok_ite.mpr ⟨fun h_35 => ?_, fun h_35 => ?_⟩
            · have f36 : (r21_309946 - r25_309946).toInt = r21_309946.toInt - r25_309946.toInt := isub_toInt (by omega) (by omega)
              have t37 : (r21_309946 - r25_309946).toInt64.toInt = (r21_309946 - r25_309946).toInt := Int32.toInt_toInt64 _
              have t38 : (r27_309946 - r31_309946).toInt64.toInt = (r27_309946 - r31_309946).toInt := Int32.toInt_toInt64 _
              have g39 : (r21_309946 - r25_309946).toInt64.toInt ≤ (r27_309946 - r31_309946).toInt64.toInt := Int64.le_iff_toInt_le.mp h_35
              refine ok_some.mpr ?_
              refine ok_nm2 (fun x34_309946_309948 ex34_309946_309948 => ?_)
              refine ok_nm2 (fun x35_309946_309948 ex35_309946_309948 => ?_)
              have l_1 : (1 : Int32).toInt = 1 := by decide
              have f40 : (a9_309941 + (1 : Int32)).toInt = a9_309941.toInt + (1 : Int32).toInt := iadd_toInt (by omega) (by omega)
              have qx35_309946_309948 : x35_309946_309948.toInt = (a9_309941 + 1).toInt := by rw [ex35_309946_309948]
              exact hrec_309941 _ (x34_309946_309948, x35_309946_309948) (show (6 + 1 - x35_309946_309948.toInt).toNat < n_309941 by omega) ⟨rfl, (show 0 ≤ x35_309946_309948.toInt by omega), (show x35_309946_309948.toInt ≤ 6 by omega)⟩
            · have f41 : (r21_309946 - r25_309946).toInt = r21_309946.toInt - r25_309946.toInt := isub_toInt (by omega) (by omega)
              have t42 : (r21_309946 - r25_309946).toInt64.toInt = (r21_309946 - r25_309946).toInt := Int32.toInt_toInt64 _
              have t43 : (r27_309946 - r31_309946).toInt64.toInt = (r27_309946 - r31_309946).toInt := Int32.toInt_toInt64 _
              have g44 : ¬ (r21_309946 - r25_309946).toInt64.toInt ≤ (r27_309946 - r31_309946).toInt64.toInt := fun z => h_35 (Int64.le_iff_toInt_le.mpr z)
              refine ok_some.mpr ?_
              refine ok_nm2 (fun x34_309946_309949 ex34_309946_309949 => ?_)
              refine ok_nm2 (fun x35_309946_309949 ex35_309946_309949 => ?_)
              have l_1 : (1 : Int32).toInt = 1 := by decide
              have f45 : (a9_309941 + (1 : Int32)).toInt = a9_309941.toInt + (1 : Int32).toInt := iadd_toInt (by omega) (by omega)
              have qx35_309946_309949 : x35_309946_309949.toInt = (a9_309941 + 1).toInt := by rw [ex35_309946_309949]
              exact hrec_309941 _ (x34_309946_309949, x35_309946_309949) (show (6 + 1 - x35_309946_309949.toInt).toNat < n_309941 by omega) ⟨rfl, (show 0 ≤ x35_309946_309949.toInt by omega), (show x35_309946_309949.toInt ≤ 6 by omega)⟩
        · have g46 : a3_309874.toInt ≠ (-1 : Int32).toInt := fun z => h_17 (Int32.toInt_inj.mp z)
          refine ok_nm2 (fun x17_309934_309940 ex17_309934_309940 => ?_)
          have qx17_309934_309940 : x17_309934_309940.toInt = 0 := by rw [ex17_309934_309940]; decide
          refine ok_lpc (I := fun n s => n = (6 + 1 - s.2.toInt).toNat ∧ 0 ≤ s.2.toInt ∧ s.2.toInt ≤ 6) (fun rec60_309950r n_309950 s_309950 hs_309950 hrec_309950 => ?_) K9 _ _ ⟨rfl, (by (try dsimp only); omega), (by (try dsimp only); omega)⟩ (by unfold K9; (try dsimp only); omega)
          obtain ⟨a4_309950, a9_309950⟩ := s_309950
          obtain ⟨hn_309950, b0a9_309950, b1a9_309950⟩ := hs_309950
          dsimp only at hn_309950 b0a9_309950 b1a9_309950
          unfold bX10_unlike_60
          try dsimp only
          refine ok_ite.mpr ⟨fun h_47 => ?_, fun h_47 => ?_⟩
          · have l_2 : (2 : Int32).toInt = 2 := by decide
            have g48 : (2 : Int32).toInt ≤ a9_309950.toInt := Int32.le_iff_toInt_le.mp h_47
            refine ok_nm2 (fun x19_309955 ex19_309955 => ?_)
            have l_1 : (1 : Int32).toInt = 1 := by decide
            have f49 : (a6_309874 + (1 : Int32)).toInt = a6_309874.toInt + (1 : Int32).toInt := iadd_toInt (by omega) (by omega)
            have qx19_309955 : x19_309955.toInt = (a6_309874 + 1).toInt := by rw [ex19_309955]
            exact hrec_309874 _ (a3_309874, a4_309950, x19_309955) (show (20 + 1 - x19_309955.toInt).toNat < n_309874 by omega) ⟨rfl, (show -1 ≤ a3_309874.toInt by omega), (show a3_309874.toInt ≤ 20 by omega), (show 0 ≤ x19_309955.toInt by omega), (show x19_309955.toInt ≤ 20 by omega)⟩
          · have l_2 : (2 : Int32).toInt = 2 := by decide
            have g50 : ¬ (2 : Int32).toInt ≤ a9_309950.toInt := fun z => h_47 (Int32.le_iff_toInt_le.mpr z)
            refine ok_bd.mpr ((o_fX10_turnedBy hIσ (by omega) (by omega) (by omega) (by omega) (by omega) (by omega)).mono (fun r21_309955 ho_52 => ?_))
            obtain ⟨r0r21_309955, r1r21_309955⟩ := ho_52
            refine ok_bd.mpr ((o_fX10_rowOf hIσ ).mono (fun r23_309955 ho_54 => ?_))
            obtain ⟨r0r23_309955, r1r23_309955⟩ := ho_54
            refine ok_bd.mpr ((o_fX10_turnedBy hIσ (by omega) (by omega) (by omega) (by omega) (by omega) (by omega)).mono (fun r25_309955 ho_56 => ?_))
            obtain ⟨r0r25_309955, r1r25_309955⟩ := ho_56
            refine ok_bd.mpr ((o_fX10_put hIσ (by omega) (by omega) (by omega) (by omega)).mono (fun r27_309955 ho_58 => ?_))
            refine ok_bd.mpr ((o_fX10_startedRow hIσ ).mono (fun r29_309955 ho_60 => ?_))
            obtain ⟨r0r29_309955, r1r29_309955⟩ := ho_60
            refine ok_bd.mpr ((o_fX10_put hIσ (by omega) (by omega) (by omega) (by omega)).mono (fun r31_309955 ho_62 => ?_))
            refine ok_bd.mpr ?_
            try unfold fX10_apart
            refine ok_ite.mpr ⟨fun h_63 => ?_, fun h_63 => ?_⟩
            · have f64 : (r21_309955 - r25_309955).toInt = r21_309955.toInt - r25_309955.toInt := isub_toInt (by omega) (by omega)
              have t65 : (r21_309955 - r25_309955).toInt64.toInt = (r21_309955 - r25_309955).toInt := Int32.toInt_toInt64 _
              have t66 : (r27_309955 - r31_309955).toInt64.toInt = (r27_309955 - r31_309955).toInt := Int32.toInt_toInt64 _
              have g67 : (r21_309955 - r25_309955).toInt64.toInt ≤ (r27_309955 - r31_309955).toInt64.toInt := Int64.le_iff_toInt_le.mp h_63
              refine ok_some.mpr ?_
              refine ok_nm2 (fun x34_309955_309957 ex34_309955_309957 => ?_)
              refine ok_nm2 (fun x35_309955_309957 ex35_309955_309957 => ?_)
              have l_1 : (1 : Int32).toInt = 1 := by decide
              have f68 : (a9_309950 + (1 : Int32)).toInt = a9_309950.toInt + (1 : Int32).toInt := iadd_toInt (by omega) (by omega)
              have qx35_309955_309957 : x35_309955_309957.toInt = (a9_309950 + 1).toInt := by rw [ex35_309955_309957]
              exact hrec_309950 _ (x34_309955_309957, x35_309955_309957) (show (6 + 1 - x35_309955_309957.toInt).toNat < n_309950 by omega) ⟨rfl, (show 0 ≤ x35_309955_309957.toInt by omega), (show x35_309955_309957.toInt ≤ 6 by omega)⟩
            · have f69 : (r21_309955 - r25_309955).toInt = r21_309955.toInt - r25_309955.toInt := isub_toInt (by omega) (by omega)
              have t70 : (r21_309955 - r25_309955).toInt64.toInt = (r21_309955 - r25_309955).toInt := Int32.toInt_toInt64 _
              have t71 : (r27_309955 - r31_309955).toInt64.toInt = (r27_309955 - r31_309955).toInt := Int32.toInt_toInt64 _
              have g72 : ¬ (r21_309955 - r25_309955).toInt64.toInt ≤ (r27_309955 - r31_309955).toInt64.toInt := fun z => h_63 (Int64.le_iff_toInt_le.mpr z)
              refine ok_some.mpr ?_
              refine ok_nm2 (fun x34_309955_309958 ex34_309955_309958 => ?_)
              refine ok_nm2 (fun x35_309955_309958 ex35_309955_309958 => ?_)
              have l_1 : (1 : Int32).toInt = 1 := by decide
              have f73 : (a9_309950 + (1 : Int32)).toInt = a9_309950.toInt + (1 : Int32).toInt := iadd_toInt (by omega) (by omega)
              have qx35_309955_309958 : x35_309955_309958.toInt = (a9_309950 + 1).toInt := by rw [ex35_309955_309958]
              exact hrec_309950 _ (x34_309955_309958, x35_309955_309958) (show (6 + 1 - x35_309955_309958.toInt).toNat < n_309950 by omega) ⟨rfl, (show 0 ≤ x35_309955_309958.toInt by omega), (show x35_309955_309958.toInt ≤ 6 by omega)⟩
set_option maxRecDepth 20000 in
set_option maxHeartbeats 2000000 in
theorem o_fX10_look {σ : gS} (hIσ : IM σ)   : Ok (fX10_look σ ) (fun out => IM out.2 ∧ Fr fr_fX10_look σ out.2 ∧ -1 ≤ out.1.toInt ∧ out.1.toInt ≤ 255) := by
  unfold fX10_look
  have hfσ : Fr fr_fX10_look σ σ := Fr_r
  have f1 : 0 ≤ (σ.1 0 2).toInt ∧ (σ.1 0 2).toInt ≤ 1600 := hIσ 0 _
  refine ok_lpc (I := fun n s => n = (1600 + 1 - (s.1 0 2).toInt).toNat ∧ IM s ∧ Fr fr_fX10_look σ s) (fun rec0_310051r n_310051 s_310051 hs_310051 hrec_310051 => ?_) K9 _ _ ⟨rfl, hIσ, hfσ⟩ (by unfold K9; (try dsimp only); omega)
  obtain ⟨σ1_310051, hq_310051⟩ : ∃ y, y = s_310051 := ⟨_, rfl⟩
  subst hq_310051
  obtain ⟨hn_310051, hIσ1_310051, hfσ1_310051⟩ := hs_310051
  skip
  unfold bX10_look_0
  try dsimp only
  refine ok_ite.mpr ⟨fun h_2 => ?_, fun h_2 => ?_⟩
  · have f3 : 0 ≤ (σ1_310051.1 0 3).toInt ∧ (σ1_310051.1 0 3).toInt ≤ 1600 := hIσ1_310051 0 _
    have f4 : 0 ≤ (σ1_310051.1 0 2).toInt ∧ (σ1_310051.1 0 2).toInt ≤ 1600 := hIσ1_310051 0 _
    have g5 : (σ1_310051.1 0 3).toInt ≤ (σ1_310051.1 0 2).toInt := Int32.le_iff_toInt_le.mp h_2
    try unfold jX10_look_52
    refine ok_ite.mpr ⟨fun h_6 => ?_, fun h_6 => ?_⟩
    · have g7 : (σ1_310051.1 0 3).toInt ≤ (σ1_310051.1 0 2).toInt := Int32.le_iff_toInt_le.mp h_6
      refine ok_some.mpr ?_
      have l_m1 : (-1 : Int32).toInt = -1 := by decide
      exact ⟨hIσ1_310051, hfσ1_310051, (show -1 ≤ (-1 : Int32).toInt by omega), (show (-1 : Int32).toInt ≤ 255 by omega)⟩
    · have g8 : ¬ (σ1_310051.1 0 3).toInt ≤ (σ1_310051.1 0 2).toInt := fun z => h_6 (Int32.le_iff_toInt_le.mpr z)
      refine ok_gd.mpr ⟨gb_of (by omega) (by omega), ?_⟩
      refine ok_nm2 (fun v3_310055 ev3_310055 => ?_)
      have f9 : 0 ≤ (σ1_310051.1 1 (σ1_310051.1 0 2).toNatClampNeg).toInt ∧ (σ1_310051.1 1 (σ1_310051.1 0 2).toNatClampNeg).toInt ≤ 255 := hIσ1_310051 1 _
      have qv3_310055 : v3_310055.toInt = (σ1_310051.1 1 (σ1_310051.1 0 2).toNatClampNeg).toInt := by rw [ev3_310055]
      refine ok_some.mpr ?_
      exact ⟨hIσ1_310051, hfσ1_310051, (show -1 ≤ v3_310055.toInt by omega), (show v3_310055.toInt ≤ 255 by omega)⟩
  · have f10 : 0 ≤ (σ1_310051.1 0 3).toInt ∧ (σ1_310051.1 0 3).toInt ≤ 1600 := hIσ1_310051 0 _
    have f11 : 0 ≤ (σ1_310051.1 0 2).toInt ∧ (σ1_310051.1 0 2).toInt ≤ 1600 := hIσ1_310051 0 _
    have g12 : ¬ (σ1_310051.1 0 3).toInt ≤ (σ1_310051.1 0 2).toInt := fun z => h_2 (Int32.le_iff_toInt_le.mpr z)
    refine ok_gd.mpr ⟨gb_of (by omega) (by omega), ?_⟩
    refine ok_nm2 (fun v4_310052 ev4_310052 => ?_)
    have f13 : 0 ≤ (σ1_310051.1 1 (σ1_310051.1 0 2).toNatClampNeg).toInt ∧ (σ1_310051.1 1 (σ1_310051.1 0 2).toNatClampNeg).toInt ≤ 255 := hIσ1_310051 1 _
    have qv4_310052 : v4_310052.toInt = (σ1_310051.1 1 (σ1_310051.1 0 2).toNatClampNeg).toInt := by rw [ev4_310052]
    refine ok_ite.mpr ⟨fun h_14 => ?_, fun h_14 => ?_⟩
    · have l_10 : (10 : Int32).toInt = 10 := by decide
      have g15 : v4_310052.toInt = (10 : Int32).toInt := by rw [h_14]
      try unfold jX10_look_39
      refine ok_nm2 (fun σ6_310056 eσ6_310056 => ?_)
      have l_1 : (1 : Int32).toInt = 1 := by decide
      have f16 : ((σ1_310051.1 0 2) + (1 : Int32)).toInt = (σ1_310051.1 0 2).toInt + (1 : Int32).toInt := iadd_toInt (by omega) (by omega)
      have hIσ6_310056 : IM σ6_310056 := by rw [eσ6_310056]; exact IM_w hIσ1_310051 (show 0 ≤ _ by omega) (show _ ≤ 1600 by omega)
      have hfσ6_310056 : Fr fr_fX10_look σ σ6_310056 := by rw [eσ6_310056]; exact Fr_w hfσ1_310051 (by decide)
      have sσ6_310056_0_2 : (σ6_310056.1 0 2).toInt = ((σ1_310051.1 0 2) + 1).toInt := by rw [eσ6_310056]; rfl
      have sσ6_310056_0_3 : (σ6_310056.1 0 3).toInt = (σ1_310051.1 0 3).toInt := by rw [eσ6_310056]; rfl
      exact hrec_310051 _ σ6_310056 (show (1600 + 1 - (σ6_310056.1 0 2).toInt).toNat < n_310051 by omega) ⟨rfl, hIσ6_310056, hfσ6_310056⟩
    · have l_10 : (10 : Int32).toInt = 10 := by decide
      have g17 : v4_310052.toInt ≠ (10 : Int32).toInt := fun z => h_14 (Int32.toInt_inj.mp z)
      refine ok_gd.mpr ⟨gb_of (by omega) (by omega), ?_⟩
      refine ok_nm2 (fun v7_310052 ev7_310052 => ?_)
      have qv7_310052 : v7_310052.toInt = (σ1_310051.1 1 (σ1_310051.1 0 2).toNatClampNeg).toInt := by rw [ev7_310052]
      refine ok_ite.mpr ⟨fun h_18 => ?_, fun h_18 => ?_⟩
      · have l_32 : (32 : Int32).toInt = 32 := by decide
        have g19 : v7_310052.toInt = (32 : Int32).toInt := by rw [h_18]
        try unfold jX10_look_39
        refine ok_nm2 (fun σ6_310057 eσ6_310057 => ?_)
        have l_1 : (1 : Int32).toInt = 1 := by decide
        have f20 : ((σ1_310051.1 0 2) + (1 : Int32)).toInt = (σ1_310051.1 0 2).toInt + (1 : Int32).toInt := iadd_toInt (by omega) (by omega)
        have hIσ6_310057 : IM σ6_310057 := by rw [eσ6_310057]; exact IM_w hIσ1_310051 (show 0 ≤ _ by omega) (show _ ≤ 1600 by omega)
        have hfσ6_310057 : Fr fr_fX10_look σ σ6_310057 := by rw [eσ6_310057]; exact Fr_w hfσ1_310051 (by decide)
        have sσ6_310057_0_2 : (σ6_310057.1 0 2).toInt = ((σ1_310051.1 0 2) + 1).toInt := by rw [eσ6_310057]; rfl
        have sσ6_310057_0_3 : (σ6_310057.1 0 3).toInt = (σ1_310051.1 0 3).toInt := by rw [eσ6_310057]; rfl
        exact hrec_310051 _ σ6_310057 (show (1600 + 1 - (σ6_310057.1 0 2).toInt).toNat < n_310051 by omega) ⟨rfl, hIσ6_310057, hfσ6_310057⟩
      · have l_32 : (32 : Int32).toInt = 32 := by decide
        have g21 : v7_310052.toInt ≠ (32 : Int32).toInt := fun z => h_18 (Int32.toInt_inj.mp z)
        try unfold jX10_look_52
        refine ok_ite.mpr ⟨fun h_22 => ?_, fun h_22 => ?_⟩
        · have g23 : (σ1_310051.1 0 3).toInt ≤ (σ1_310051.1 0 2).toInt := Int32.le_iff_toInt_le.mp h_22
          refine ok_some.mpr ?_
          have l_m1 : (-1 : Int32).toInt = -1 := by decide
          exact ⟨hIσ1_310051, hfσ1_310051, (show -1 ≤ (-1 : Int32).toInt by omega), (show (-1 : Int32).toInt ≤ 255 by omega)⟩
        · have g24 : ¬ (σ1_310051.1 0 3).toInt ≤ (σ1_310051.1 0 2).toInt := fun z => h_22 (Int32.le_iff_toInt_le.mpr z)
          refine ok_gd.mpr ⟨gb_of (by omega) (by omega), ?_⟩
          refine ok_nm2 (fun v3_310058 ev3_310058 => ?_)
          have qv3_310058 : v3_310058.toInt = (σ1_310051.1 1 (σ1_310051.1 0 2).toNatClampNeg).toInt := by rw [ev3_310058]
          refine ok_some.mpr ?_
          exact ⟨hIσ1_310051, hfσ1_310051, (show -1 ≤ v3_310058.toInt by omega), (show v3_310058.toInt ≤ 255 by omega)⟩
set_option maxRecDepth 20000 in
set_option maxHeartbeats 2000000 in
theorem o_fX10_fail {σ : gS} (hIσ : IM σ) {p1 : Int32} {p2 : Int32} (h0p1 : 1 ≤ p1.toInt) (h1p1 : p1.toInt ≤ 4) (h0p2 : 0 ≤ p2.toInt) (h1p2 : p2.toInt ≤ 1600) : Ok (fX10_fail σ p1 p2) (fun out => IM out ∧ Fr fr_fX10_fail σ out) := by
  unfold fX10_fail
  have hfσ : Fr fr_fX10_fail σ σ := Fr_r
  refine ok_ite.mpr ⟨fun h_1 => ?_, fun h_1 => ?_⟩
  · have f2 : 0 ≤ (σ.1 0 5).toInt ∧ (σ.1 0 5).toInt ≤ 4 := hIσ 0 _
    have l_0 : (0 : Int32).toInt = 0 := by decide
    have g3 : (σ.1 0 5).toInt = (0 : Int32).toInt := by rw [h_1]
    refine ok_nm2 (fun σ2 eσ2 => ?_)
    have hIσ2 : IM σ2 := by rw [eσ2]; exact IM_w hIσ (show 0 ≤ _ by omega) (show _ ≤ 4 by omega)
    have hfσ2 : Fr fr_fX10_fail σ σ2 := by rw [eσ2]; exact Fr_w hfσ (by decide)
    have sσ2_0_5 : (σ2.1 0 5).toInt = p1.toInt := by rw [eσ2]; rfl
    refine ok_nm2 (fun σ3 eσ3 => ?_)
    have hIσ3 : IM σ3 := by rw [eσ3]; exact IM_w hIσ2 (show -1 ≤ _ by omega) (show _ ≤ 1600 by omega)
    have hfσ3 : Fr fr_fX10_fail σ σ3 := by rw [eσ3]; exact Fr_w hfσ2 (by decide)
    have sσ3_0_5 : (σ3.1 0 5).toInt = (σ2.1 0 5).toInt := by rw [eσ3]; rfl
    refine ok_some.mpr ?_
    exact ⟨hIσ3, hfσ3⟩
  · have f4 : 0 ≤ (σ.1 0 5).toInt ∧ (σ.1 0 5).toInt ≤ 4 := hIσ 0 _
    have l_0 : (0 : Int32).toInt = 0 := by decide
    have g5 : (σ.1 0 5).toInt ≠ (0 : Int32).toInt := fun z => h_1 (Int32.toInt_inj.mp z)
    refine ok_some.mpr ?_
    exact ⟨hIσ, hfσ⟩
set_option maxRecDepth 20000 in
set_option maxHeartbeats 2000000 in
theorem o_fX10_nameOf {σ : gS} (hIσ : IM σ) {p1 : Int32} {p2 : Int64} (h0p1 : 0 ≤ p1.toInt) (h1p1 : p1.toInt ≤ 2) : Ok (fX10_nameOf σ p1 p2) (fun out => -1 ≤ out.toInt ∧ out.toInt ≤ 19) := by
  unfold fX10_nameOf
  have hfσ : Fr fr_fX10_nameOf σ σ := Fr_r
  refine ok_nm2 (fun x1 ex1 => ?_)
  have l_0 : (0 : Int32).toInt = 0 := by decide
  have qx1 : x1.toInt = 0 := by rw [ex1]; decide
  refine ok_lpc (I := fun n s => n = (20 + 1 - s.toInt).toNat ∧ 0 ≤ s.toInt ∧ s.toInt ≤ 20) (fun rec3_310075r n_310075 s_310075 hs_310075 hrec_310075 => ?_) K9 _ _ ⟨rfl, (by (try dsimp only); omega), (by (try dsimp only); omega)⟩ (by unfold K9; (try dsimp only); omega)
  obtain ⟨a4_310075, hq_310075⟩ : ∃ y, y = s_310075 := ⟨_, rfl⟩
  subst hq_310075
  obtain ⟨hn_310075, b0a4_310075, b1a4_310075⟩ := hs_310075
  skip
  unfold bX10_nameOf_3
  try dsimp only
  refine ok_gd.mpr ⟨gb_of (by omega) (by omega), ?_⟩
  refine ok_nm2 (fun v2_310076 ev2_310076 => ?_)
  have f1 : 0 ≤ (σ.1 15 p1.toNatClampNeg).toInt ∧ (σ.1 15 p1.toNatClampNeg).toInt ≤ 20 := by
    have hz : p1.toNatClampNeg = p1.toInt.toNat := rfl
    have hb := hIσ 15 p1.toNatClampNeg
    have hj : p1.toNatClampNeg = 0 ∨ p1.toNatClampNeg = 1 ∨ p1.toNatClampNeg = 2 := by omega
    generalize p1.toNatClampNeg = j at hb hj ⊢
    rcases hj with rfl | rfl | rfl <;> exact ⟨Int.le_trans (by decide) hb.1, Int.le_trans hb.2 (by decide)⟩
  have qv2_310076 : v2_310076.toInt = (σ.1 15 p1.toNatClampNeg).toInt := by rw [ev2_310076]
  refine ok_ite.mpr ⟨fun h_2 => ?_, fun h_2 => ?_⟩
  · have g3 : v2_310076.toInt ≤ a4_310075.toInt := Int32.le_iff_toInt_le.mp h_2
    refine ok_some.mpr ?_
    have l_m1 : (-1 : Int32).toInt = -1 := by decide
    exact ⟨(show -1 ≤ (-1 : Int32).toInt by omega), (show (-1 : Int32).toInt ≤ 19 by omega)⟩
  · have g4 : ¬ v2_310076.toInt ≤ a4_310075.toInt := fun z => h_2 (Int32.le_iff_toInt_le.mpr z)
    have l_20 : (20 : Int32).toInt = 20 := by decide
    have f5 : ((20 : Int32) * p1).toInt = 20 * p1.toInt := imulc l_20 (by omega) (by omega)
    have f6 : ((20 * p1) + a4_310075).toInt = (20 * p1).toInt + a4_310075.toInt := iadd_toInt (by omega) (by omega)
    refine ok_gd.mpr ⟨gb_of (by omega) (by omega), ?_⟩
    refine ok_nm2 (fun v4_310076 ev4_310076 => ?_)
    refine ok_ite.mpr ⟨fun h_7 => ?_, fun h_7 => ?_⟩
    · refine ok_some.mpr ?_
      exact ⟨(show -1 ≤ a4_310075.toInt by omega), (show a4_310075.toInt ≤ 19 by omega)⟩
    · refine ok_nm2 (fun x6_310076 ex6_310076 => ?_)
      have l_1 : (1 : Int32).toInt = 1 := by decide
      have f8 : (a4_310075 + (1 : Int32)).toInt = a4_310075.toInt + (1 : Int32).toInt := iadd_toInt (by omega) (by omega)
      have qx6_310076 : x6_310076.toInt = (a4_310075 + 1).toInt := by rw [ex6_310076]
      exact hrec_310075 _ x6_310076 (show (20 + 1 - x6_310076.toInt).toNat < n_310075 by omega) ⟨rfl, (show 0 ≤ x6_310076.toInt by omega), (show x6_310076.toInt ≤ 20 by omega)⟩
set_option maxRecDepth 20000 in
set_option maxHeartbeats 2000000 in
theorem o_fX10_number {σ : gS} (hIσ : IM σ) {p1 : Int32} {p2 : Int32} (h0p1 : 0 ≤ p1.toInt) (h1p1 : p1.toInt ≤ 1) (h0p2 : 2 ≤ p2.toInt) (h1p2 : p2.toInt ≤ 9999) : Ok (fX10_number σ p1 p2) (fun out => IM out.2 ∧ Fr fr_fX10_number σ out.2) := by
  unfold fX10_number
  have hfσ : Fr fr_fX10_number σ σ := Fr_r
  refine ok_ite.mpr ⟨fun h_1 => ?_, fun h_1 => ?_⟩
  · have f2 : 0 ≤ (σ.1 0 5).toInt ∧ (σ.1 0 5).toInt ≤ 4 := hIσ 0 _
    have l_0 : (0 : Int32).toInt = 0 := by decide
    have g3 : (σ.1 0 5).toInt = (0 : Int32).toInt := by rw [h_1]
    refine ok_bd2.mpr ((o_fX10_look hIσ ).mono (fun o_4 ho_5 => ?_))
    obtain ⟨r3, σ4⟩ := o_4
    obtain ⟨hIσ4, hcσ4, r0r3, r1r3⟩ := ho_5
    dsimp only at hIσ4 hcσ4 r0r3 r1r3 ⊢
    have hfσ4 : Fr fr_fX10_number σ σ4 := Fr_c hfσ hcσ4 (by decide)
    have sσ4_0_3 : (σ4.1 0 3).toInt = (σ.1 0 3).toInt := by rw [(hcσ4 0 3 (by decide) (by decide)).1]
    have sσ4_0_4 : (σ4.1 0 4).toInt = (σ.1 0 4).toInt := by rw [(hcσ4 0 4 (by decide) (by decide)).1]
    have sσ4_0_5 : (σ4.1 0 5).toInt = (σ.1 0 5).toInt := by rw [(hcσ4 0 5 (by decide) (by decide)).1]
    refine ok_bd.mpr ?_
    try unfold fX10_isDigit
    refine ok_ite.mpr ⟨fun h_6 => ?_, fun h_6 => ?_⟩
    · have l_48 : (48 : Int32).toInt = 48 := by decide
      have g7 : r3.toInt < (48 : Int32).toInt := Int32.lt_iff_toInt_lt.mp h_6
      refine ok_some.mpr ?_
      refine ok_ite.mpr ⟨fun h_8 => ?_, fun h_8 => ?_⟩
      · have g9 : (0 : Int32).toInt = (0 : Int32).toInt := by rw [h_8]
        try unfold jX10_number_30
        have l_1 : (1 : Int32).toInt = 1 := by decide
        have f10 : 0 ≤ (σ4.1 0 2).toInt ∧ (σ4.1 0 2).toInt ≤ 1600 := hIσ4 0 _
        refine ok_bd.mpr ((o_fX10_fail hIσ4 (by omega) (by omega) (by omega) (by omega)).mono (fun σ9_310079 ho_12 => ?_))
        obtain ⟨hIσ9_310079, hcσ9_310079⟩ := ho_12
        have hfσ9_310079 : Fr fr_fX10_number σ σ9_310079 := Fr_c hfσ4 hcσ9_310079 (by decide)
        have sσ9_310079_0_2 : (σ9_310079.1 0 2).toInt = (σ4.1 0 2).toInt := by rw [(hcσ9_310079 0 2 (by decide) (by decide)).1]
        have sσ9_310079_0_3 : (σ9_310079.1 0 3).toInt = (σ4.1 0 3).toInt := by rw [(hcσ9_310079 0 3 (by decide) (by decide)).1]
        have sσ9_310079_0_4 : (σ9_310079.1 0 4).toInt = (σ4.1 0 4).toInt := by rw [(hcσ9_310079 0 4 (by decide) (by decide)).1]
        refine ok_some.mpr ?_
        exact ⟨hIσ9_310079, hfσ9_310079⟩
      · have g13 : (0 : Int32).toInt ≠ (0 : Int32).toInt := fun z => h_8 (Int32.toInt_inj.mp z)
        exfalso; omega
    · have l_48 : (48 : Int32).toInt = 48 := by decide
      have g14 : ¬ r3.toInt < (48 : Int32).toInt := fun z => h_6 (Int32.lt_iff_toInt_lt.mpr z)
      refine ok_ite.mpr ⟨fun h_15 => ?_, fun h_15 => ?_⟩
      · have l_57 : (57 : Int32).toInt = 57 := by decide
        have g16 : (57 : Int32).toInt < r3.toInt := Int32.lt_iff_toInt_lt.mp h_15
        refine ok_some.mpr ?_
        refine ok_ite.mpr ⟨fun h_17 => ?_, fun h_17 => ?_⟩
        · have g18 : (0 : Int32).toInt = (0 : Int32).toInt := by rw [h_17]
          try unfold jX10_number_30
          have l_1 : (1 : Int32).toInt = 1 := by decide
          have f19 : 0 ≤ (σ4.1 0 2).toInt ∧ (σ4.1 0 2).toInt ≤ 1600 := hIσ4 0 _
          refine ok_bd.mpr ((o_fX10_fail hIσ4 (by omega) (by omega) (by omega) (by omega)).mono (fun σ9_310081 ho_21 => ?_))
          obtain ⟨hIσ9_310081, hcσ9_310081⟩ := ho_21
          have hfσ9_310081 : Fr fr_fX10_number σ σ9_310081 := Fr_c hfσ4 hcσ9_310081 (by decide)
          have sσ9_310081_0_2 : (σ9_310081.1 0 2).toInt = (σ4.1 0 2).toInt := by rw [(hcσ9_310081 0 2 (by decide) (by decide)).1]
          have sσ9_310081_0_3 : (σ9_310081.1 0 3).toInt = (σ4.1 0 3).toInt := by rw [(hcσ9_310081 0 3 (by decide) (by decide)).1]
          have sσ9_310081_0_4 : (σ9_310081.1 0 4).toInt = (σ4.1 0 4).toInt := by rw [(hcσ9_310081 0 4 (by decide) (by decide)).1]
          refine ok_some.mpr ?_
          exact ⟨hIσ9_310081, hfσ9_310081⟩
        · have g22 : (0 : Int32).toInt ≠ (0 : Int32).toInt := fun z => h_17 (Int32.toInt_inj.mp z)
          exfalso; omega
      · have l_57 : (57 : Int32).toInt = 57 := by decide
        have g23 : ¬ (57 : Int32).toInt < r3.toInt := fun z => h_15 (Int32.lt_iff_toInt_lt.mpr z)
        refine ok_some.mpr ?_
        refine ok_ite.mpr ⟨fun h_24 => ?_, fun h_24 => ?_⟩
        · have l_1 : (1 : Int32).toInt = 1 := by decide
          have g25 : (1 : Int32).toInt = (0 : Int32).toInt := by rw [h_24]
          exfalso; omega
        · have l_1 : (1 : Int32).toInt = 1 := by decide
          have g26 : (1 : Int32).toInt ≠ (0 : Int32).toInt := fun z => h_24 (Int32.toInt_inj.mp z)
          refine ok_ite.mpr ⟨fun h_27 => ?_, fun h_27 => ?_⟩
          · have f28 : 0 ≤ (σ4.1 0 2).toInt ∧ (σ4.1 0 2).toInt ≤ 1600 := hIσ4 0 _
            have f29 : -1 ≤ (σ4.1 0 4).toInt ∧ (σ4.1 0 4).toInt ≤ 1600 := hIσ4 0 _
            have g30 : (σ4.1 0 2).toInt = (σ4.1 0 4).toInt := by rw [h_27]
            try unfold jX10_number_30
            refine ok_bd.mpr ((o_fX10_fail hIσ4 (by omega) (by omega) (by omega) (by omega)).mono (fun σ9_310083 ho_32 => ?_))
            obtain ⟨hIσ9_310083, hcσ9_310083⟩ := ho_32
            have hfσ9_310083 : Fr fr_fX10_number σ σ9_310083 := Fr_c hfσ4 hcσ9_310083 (by decide)
            have sσ9_310083_0_2 : (σ9_310083.1 0 2).toInt = (σ4.1 0 2).toInt := by rw [(hcσ9_310083 0 2 (by decide) (by decide)).1]
            have sσ9_310083_0_3 : (σ9_310083.1 0 3).toInt = (σ4.1 0 3).toInt := by rw [(hcσ9_310083 0 3 (by decide) (by decide)).1]
            have sσ9_310083_0_4 : (σ9_310083.1 0 4).toInt = (σ4.1 0 4).toInt := by rw [(hcσ9_310083 0 4 (by decide) (by decide)).1]
            refine ok_some.mpr ?_
            exact ⟨hIσ9_310083, hfσ9_310083⟩
          · have f33 : 0 ≤ (σ4.1 0 2).toInt ∧ (σ4.1 0 2).toInt ≤ 1600 := hIσ4 0 _
            have f34 : -1 ≤ (σ4.1 0 4).toInt ∧ (σ4.1 0 4).toInt ≤ 1600 := hIσ4 0 _
            have g35 : (σ4.1 0 2).toInt ≠ (σ4.1 0 4).toInt := fun z => h_27 (Int32.toInt_inj.mp z)
            refine ok_nm2 (fun x11_310082 ex11_310082 => ?_)
            have qx11_310082 : x11_310082.toInt = (σ4.1 0 2).toInt := by rw [ex11_310082]
            refine ok_nm2 (fun x12_310082 ex12_310082 => ?_)
            have qx12_310082 : x12_310082.toInt = 0 := by rw [ex12_310082]; decide
            refine ok_lpc (I := fun n s => n = (1600 + 1 - (s.2.1 0 2).toInt).toNat ∧ IM s.2 ∧ Fr fr_fX10_number σ s.2) (fun rec49_310084r n_310084 s_310084 hs_310084 hrec_310084 => ?_) K9 _ _ ⟨rfl, hIσ4, hfσ4⟩ (by unfold K9; (try dsimp only); omega)
            obtain ⟨a4_310084, σ1_310084⟩ := s_310084
            obtain ⟨hn_310084, hIσ1_310084, hfσ1_310084⟩ := hs_310084
            dsimp only at hn_310084 hIσ1_310084 hfσ1_310084
            unfold bX10_number_49
            try dsimp only
            refine ok_ite.mpr ⟨fun h_36 => ?_, fun h_36 => ?_⟩
            · have f37 : 0 ≤ (σ1_310084.1 0 3).toInt ∧ (σ1_310084.1 0 3).toInt ≤ 1600 := hIσ1_310084 0 _
              have f38 : 0 ≤ (σ1_310084.1 0 2).toInt ∧ (σ1_310084.1 0 2).toInt ≤ 1600 := hIσ1_310084 0 _
              have g39 : (σ1_310084.1 0 3).toInt ≤ (σ1_310084.1 0 2).toInt := Int32.le_iff_toInt_le.mp h_36
              try unfold jX10_number_129
              refine ok_nm2 (fun σ14_310101 eσ14_310101 => ?_)
              have hIσ14_310101 : IM σ14_310101 := by rw [eσ14_310101]; exact IM_w hIσ1_310084 (show -1 ≤ _ by omega) (show _ ≤ 1600 by omega)
              have hfσ14_310101 : Fr fr_fX10_number σ σ14_310101 := by rw [eσ14_310101]; exact Fr_w hfσ1_310084 (by decide)
              have sσ14_310101_0_2 : (σ14_310101.1 0 2).toInt = (σ1_310084.1 0 2).toInt := by rw [eσ14_310101]; rfl
              have sσ14_310101_0_3 : (σ14_310101.1 0 3).toInt = (σ1_310084.1 0 3).toInt := by rw [eσ14_310101]; rfl
              have sσ14_310101_0_4 : (σ14_310101.1 0 4).toInt = (σ1_310084.1 0 2).toInt := by rw [eσ14_310101]; rfl
              have sσ14_310101_0_5 : (σ14_310101.1 0 5).toInt = (σ1_310084.1 0 5).toInt := by rw [eσ14_310101]; rfl
              refine ok_bd.mpr ?_
              try unfold fX10_isIn
              refine ok_ite.mpr ⟨fun h_40 => ?_, fun h_40 => ?_⟩
              · have t41 : a4_310084.toInt64.toInt = a4_310084.toInt := Int32.toInt_toInt64 _
                have t42 : p1.toInt64.toInt = p1.toInt := Int32.toInt_toInt64 _
                have g43 : a4_310084.toInt64.toInt < p1.toInt64.toInt := Int64.lt_iff_toInt_lt.mp h_40
                refine ok_some.mpr ?_
                refine ok_ite.mpr ⟨fun h_44 => ?_, fun h_44 => ?_⟩
                · have g45 : (0 : Int32).toInt = (0 : Int32).toInt := by rw [h_44]
                  have l_2 : (2 : Int32).toInt = 2 := by decide
                  refine ok_bd.mpr ((o_fX10_fail hIσ14_310101 (by omega) (by omega) (by omega) (by omega)).mono (fun σ19_310101_310103 ho_47 => ?_))
                  obtain ⟨hIσ19_310101_310103, hcσ19_310101_310103⟩ := ho_47
                  have hfσ19_310101_310103 : Fr fr_fX10_number σ σ19_310101_310103 := Fr_c hfσ14_310101 hcσ19_310101_310103 (by decide)
                  have sσ19_310101_310103_0_2 : (σ19_310101_310103.1 0 2).toInt = (σ14_310101.1 0 2).toInt := by rw [(hcσ19_310101_310103 0 2 (by decide) (by decide)).1]
                  have sσ19_310101_310103_0_3 : (σ19_310101_310103.1 0 3).toInt = (σ14_310101.1 0 3).toInt := by rw [(hcσ19_310101_310103 0 3 (by decide) (by decide)).1]
                  have sσ19_310101_310103_0_4 : (σ19_310101_310103.1 0 4).toInt = (σ14_310101.1 0 4).toInt := by rw [(hcσ19_310101_310103 0 4 (by decide) (by decide)).1]
                  refine ok_some.mpr ?_
                  exact ⟨hIσ19_310101_310103, hfσ19_310101_310103⟩
                · have g48 : (0 : Int32).toInt ≠ (0 : Int32).toInt := fun z => h_44 (Int32.toInt_inj.mp z)
                  exfalso; omega
              · have t49 : a4_310084.toInt64.toInt = a4_310084.toInt := Int32.toInt_toInt64 _
                have t50 : p1.toInt64.toInt = p1.toInt := Int32.toInt_toInt64 _
                have g51 : ¬ a4_310084.toInt64.toInt < p1.toInt64.toInt := fun z => h_40 (Int64.lt_iff_toInt_lt.mpr z)
                refine ok_ite.mpr ⟨fun h_52 => ?_, fun h_52 => ?_⟩
                · have t53 : p2.toInt64.toInt = p2.toInt := Int32.toInt_toInt64 _
                  have g54 : p2.toInt64.toInt < a4_310084.toInt64.toInt := Int64.lt_iff_toInt_lt.mp h_52
                  refine ok_some.mpr ?_
                  refine ok_ite.mpr ⟨fun h_55 => ?_, fun h_55 => ?_⟩
                  · have g56 : (0 : Int32).toInt = (0 : Int32).toInt := by rw [h_55]
                    have l_2 : (2 : Int32).toInt = 2 := by decide
                    refine ok_bd.mpr ((o_fX10_fail hIσ14_310101 (by omega) (by omega) (by omega) (by omega)).mono (fun σ19_310101_310104 ho_58 => ?_))
                    obtain ⟨hIσ19_310101_310104, hcσ19_310101_310104⟩ := ho_58
                    have hfσ19_310101_310104 : Fr fr_fX10_number σ σ19_310101_310104 := Fr_c hfσ14_310101 hcσ19_310101_310104 (by decide)
                    have sσ19_310101_310104_0_2 : (σ19_310101_310104.1 0 2).toInt = (σ14_310101.1 0 2).toInt := by rw [(hcσ19_310101_310104 0 2 (by decide) (by decide)).1]
                    have sσ19_310101_310104_0_3 : (σ19_310101_310104.1 0 3).toInt = (σ14_310101.1 0 3).toInt := by rw [(hcσ19_310101_310104 0 3 (by decide) (by decide)).1]
                    have sσ19_310101_310104_0_4 : (σ19_310101_310104.1 0 4).toInt = (σ14_310101.1 0 4).toInt := by rw [(hcσ19_310101_310104 0 4 (by decide) (by decide)).1]
                    refine ok_some.mpr ?_
                    exact ⟨hIσ19_310101_310104, hfσ19_310101_310104⟩
                  · have g59 : (0 : Int32).toInt ≠ (0 : Int32).toInt := fun z => h_55 (Int32.toInt_inj.mp z)
                    exfalso; omega
                · have t60 : p2.toInt64.toInt = p2.toInt := Int32.toInt_toInt64 _
                  have g61 : ¬ p2.toInt64.toInt < a4_310084.toInt64.toInt := fun z => h_52 (Int64.lt_iff_toInt_lt.mpr z)
                  refine ok_some.mpr ?_
                  refine ok_ite.mpr ⟨fun h_62 => ?_, fun h_62 => ?_⟩
                  · have g63 : (1 : Int32).toInt = (0 : Int32).toInt := by rw [h_62]
                    exfalso; omega
                  · have g64 : (1 : Int32).toInt ≠ (0 : Int32).toInt := fun z => h_62 (Int32.toInt_inj.mp z)
                    refine ok_some.mpr ?_
                    exact ⟨hIσ14_310101, hfσ14_310101⟩
            · have f65 : 0 ≤ (σ1_310084.1 0 3).toInt ∧ (σ1_310084.1 0 3).toInt ≤ 1600 := hIσ1_310084 0 _
              have f66 : 0 ≤ (σ1_310084.1 0 2).toInt ∧ (σ1_310084.1 0 2).toInt ≤ 1600 := hIσ1_310084 0 _
              have g67 : ¬ (σ1_310084.1 0 3).toInt ≤ (σ1_310084.1 0 2).toInt := fun z => h_36 (Int32.le_iff_toInt_le.mpr z)
              refine ok_gd.mpr ⟨gb_of (by omega) (by omega), ?_⟩
              refine ok_nm2 (fun v20_310100 ev20_310100 => ?_)
              have f68 : 0 ≤ (σ1_310084.1 1 (σ1_310084.1 0 2).toNatClampNeg).toInt ∧ (σ1_310084.1 1 (σ1_310084.1 0 2).toNatClampNeg).toInt ≤ 255 := hIσ1_310084 1 _
              have qv20_310100 : v20_310100.toInt = (σ1_310084.1 1 (σ1_310084.1 0 2).toNatClampNeg).toInt := by rw [ev20_310100]
              refine ok_bd.mpr ?_
              try unfold fX10_isDigit
              refine ok_ite.mpr ⟨fun h_69 => ?_, fun h_69 => ?_⟩
              · have g70 : v20_310100.toInt < (48 : Int32).toInt := Int32.lt_iff_toInt_lt.mp h_69
                refine ok_some.mpr ?_
                refine ok_ite.mpr ⟨fun h_71 => ?_, fun h_71 => ?_⟩
                · have g72 : (0 : Int32).toInt = (0 : Int32).toInt := by rw [h_71]
                  try unfold jX10_number_129
                  refine ok_nm2 (fun σ14_310108 eσ14_310108 => ?_)
                  have hIσ14_310108 : IM σ14_310108 := by rw [eσ14_310108]; exact IM_w hIσ1_310084 (show -1 ≤ _ by omega) (show _ ≤ 1600 by omega)
                  have hfσ14_310108 : Fr fr_fX10_number σ σ14_310108 := by rw [eσ14_310108]; exact Fr_w hfσ1_310084 (by decide)
                  have sσ14_310108_0_2 : (σ14_310108.1 0 2).toInt = (σ1_310084.1 0 2).toInt := by rw [eσ14_310108]; rfl
                  have sσ14_310108_0_3 : (σ14_310108.1 0 3).toInt = (σ1_310084.1 0 3).toInt := by rw [eσ14_310108]; rfl
                  have sσ14_310108_0_4 : (σ14_310108.1 0 4).toInt = (σ1_310084.1 0 2).toInt := by rw [eσ14_310108]; rfl
                  have sσ14_310108_0_5 : (σ14_310108.1 0 5).toInt = (σ1_310084.1 0 5).toInt := by rw [eσ14_310108]; rfl
                  refine ok_bd.mpr ?_
                  try unfold fX10_isIn
                  refine ok_ite.mpr ⟨fun h_73 => ?_, fun h_73 => ?_⟩
                  · have t74 : a4_310084.toInt64.toInt = a4_310084.toInt := Int32.toInt_toInt64 _
                    have t75 : p1.toInt64.toInt = p1.toInt := Int32.toInt_toInt64 _
                    have g76 : a4_310084.toInt64.toInt < p1.toInt64.toInt := Int64.lt_iff_toInt_lt.mp h_73
                    refine ok_some.mpr ?_
                    refine ok_ite.mpr ⟨fun h_77 => ?_, fun h_77 => ?_⟩
                    · have g78 : (0 : Int32).toInt = (0 : Int32).toInt := by rw [h_77]
                      have l_2 : (2 : Int32).toInt = 2 := by decide
                      refine ok_bd.mpr ((o_fX10_fail hIσ14_310108 (by omega) (by omega) (by omega) (by omega)).mono (fun σ19_310108_310110 ho_80 => ?_))
                      obtain ⟨hIσ19_310108_310110, hcσ19_310108_310110⟩ := ho_80
                      have hfσ19_310108_310110 : Fr fr_fX10_number σ σ19_310108_310110 := Fr_c hfσ14_310108 hcσ19_310108_310110 (by decide)
                      have sσ19_310108_310110_0_2 : (σ19_310108_310110.1 0 2).toInt = (σ14_310108.1 0 2).toInt := by rw [(hcσ19_310108_310110 0 2 (by decide) (by decide)).1]
                      have sσ19_310108_310110_0_3 : (σ19_310108_310110.1 0 3).toInt = (σ14_310108.1 0 3).toInt := by rw [(hcσ19_310108_310110 0 3 (by decide) (by decide)).1]
                      have sσ19_310108_310110_0_4 : (σ19_310108_310110.1 0 4).toInt = (σ14_310108.1 0 4).toInt := by rw [(hcσ19_310108_310110 0 4 (by decide) (by decide)).1]
                      refine ok_some.mpr ?_
                      exact ⟨hIσ19_310108_310110, hfσ19_310108_310110⟩
                    · have g81 : (0 : Int32).toInt ≠ (0 : Int32).toInt := fun z => h_77 (Int32.toInt_inj.mp z)
                      exfalso; omega
                  · have t82 : a4_310084.toInt64.toInt = a4_310084.toInt := Int32.toInt_toInt64 _
                    have t83 : p1.toInt64.toInt = p1.toInt := Int32.toInt_toInt64 _
                    have g84 : ¬ a4_310084.toInt64.toInt < p1.toInt64.toInt := fun z => h_73 (Int64.lt_iff_toInt_lt.mpr z)
                    refine ok_ite.mpr ⟨fun h_85 => ?_, fun h_85 => ?_⟩
                    · have t86 : p2.toInt64.toInt = p2.toInt := Int32.toInt_toInt64 _
                      have g87 : p2.toInt64.toInt < a4_310084.toInt64.toInt := Int64.lt_iff_toInt_lt.mp h_85
                      refine ok_some.mpr ?_
                      refine ok_ite.mpr ⟨fun h_88 => ?_, fun h_88 => ?_⟩
                      · have g89 : (0 : Int32).toInt = (0 : Int32).toInt := by rw [h_88]
                        have l_2 : (2 : Int32).toInt = 2 := by decide
                        refine ok_bd.mpr ((o_fX10_fail hIσ14_310108 (by omega) (by omega) (by omega) (by omega)).mono (fun σ19_310108_310111 ho_91 => ?_))
                        obtain ⟨hIσ19_310108_310111, hcσ19_310108_310111⟩ := ho_91
                        have hfσ19_310108_310111 : Fr fr_fX10_number σ σ19_310108_310111 := Fr_c hfσ14_310108 hcσ19_310108_310111 (by decide)
                        have sσ19_310108_310111_0_2 : (σ19_310108_310111.1 0 2).toInt = (σ14_310108.1 0 2).toInt := by rw [(hcσ19_310108_310111 0 2 (by decide) (by decide)).1]
                        have sσ19_310108_310111_0_3 : (σ19_310108_310111.1 0 3).toInt = (σ14_310108.1 0 3).toInt := by rw [(hcσ19_310108_310111 0 3 (by decide) (by decide)).1]
                        have sσ19_310108_310111_0_4 : (σ19_310108_310111.1 0 4).toInt = (σ14_310108.1 0 4).toInt := by rw [(hcσ19_310108_310111 0 4 (by decide) (by decide)).1]
                        refine ok_some.mpr ?_
                        exact ⟨hIσ19_310108_310111, hfσ19_310108_310111⟩
                      · have g92 : (0 : Int32).toInt ≠ (0 : Int32).toInt := fun z => h_88 (Int32.toInt_inj.mp z)
                        exfalso; omega
                    · have t93 : p2.toInt64.toInt = p2.toInt := Int32.toInt_toInt64 _
                      have g94 : ¬ p2.toInt64.toInt < a4_310084.toInt64.toInt := fun z => h_85 (Int64.lt_iff_toInt_lt.mpr z)
                      refine ok_some.mpr ?_
                      refine ok_ite.mpr ⟨fun h_95 => ?_, fun h_95 => ?_⟩
                      · have g96 : (1 : Int32).toInt = (0 : Int32).toInt := by rw [h_95]
                        exfalso; omega
                      · have g97 : (1 : Int32).toInt ≠ (0 : Int32).toInt := fun z => h_95 (Int32.toInt_inj.mp z)
                        refine ok_some.mpr ?_
                        exact ⟨hIσ14_310108, hfσ14_310108⟩
                · have g98 : (0 : Int32).toInt ≠ (0 : Int32).toInt := fun z => h_71 (Int32.toInt_inj.mp z)
                  exfalso; omega
              · have g99 : ¬ v20_310100.toInt < (48 : Int32).toInt := fun z => h_69 (Int32.lt_iff_toInt_lt.mpr z)
                refine ok_ite.mpr ⟨fun h_100 => ?_, fun h_100 => ?_⟩
                · have g101 : (57 : Int32).toInt < v20_310100.toInt := Int32.lt_iff_toInt_lt.mp h_100
                  refine ok_some.mpr ?_
                  refine ok_ite.mpr ⟨fun h_102 => ?_, fun h_102 => ?_⟩
                  · have g103 : (0 : Int32).toInt = (0 : Int32).toInt := by rw [h_102]
                    try unfold jX10_number_129
                    refine ok_nm2 (fun σ14_310114 eσ14_310114 => ?_)
                    have hIσ14_310114 : IM σ14_310114 := by rw [eσ14_310114]; exact IM_w hIσ1_310084 (show -1 ≤ _ by omega) (show _ ≤ 1600 by omega)
                    have hfσ14_310114 : Fr fr_fX10_number σ σ14_310114 := by rw [eσ14_310114]; exact Fr_w hfσ1_310084 (by decide)
                    have sσ14_310114_0_2 : (σ14_310114.1 0 2).toInt = (σ1_310084.1 0 2).toInt := by rw [eσ14_310114]; rfl
                    have sσ14_310114_0_3 : (σ14_310114.1 0 3).toInt = (σ1_310084.1 0 3).toInt := by rw [eσ14_310114]; rfl
                    have sσ14_310114_0_4 : (σ14_310114.1 0 4).toInt = (σ1_310084.1 0 2).toInt := by rw [eσ14_310114]; rfl
                    have sσ14_310114_0_5 : (σ14_310114.1 0 5).toInt = (σ1_310084.1 0 5).toInt := by rw [eσ14_310114]; rfl
                    refine ok_bd.mpr ?_
                    try unfold fX10_isIn
                    refine ok_ite.mpr ⟨fun h_104 => ?_, fun h_104 => ?_⟩
                    · have t105 : a4_310084.toInt64.toInt = a4_310084.toInt := Int32.toInt_toInt64 _
                      have t106 : p1.toInt64.toInt = p1.toInt := Int32.toInt_toInt64 _
                      have g107 : a4_310084.toInt64.toInt < p1.toInt64.toInt := Int64.lt_iff_toInt_lt.mp h_104
                      refine ok_some.mpr ?_
                      refine ok_ite.mpr ⟨fun h_108 => ?_, fun h_108 => ?_⟩
                      · have g109 : (0 : Int32).toInt = (0 : Int32).toInt := by rw [h_108]
                        have l_2 : (2 : Int32).toInt = 2 := by decide
                        refine ok_bd.mpr ((o_fX10_fail hIσ14_310114 (by omega) (by omega) (by omega) (by omega)).mono (fun σ19_310114_310116 ho_111 => ?_))
                        obtain ⟨hIσ19_310114_310116, hcσ19_310114_310116⟩ := ho_111
                        have hfσ19_310114_310116 : Fr fr_fX10_number σ σ19_310114_310116 := Fr_c hfσ14_310114 hcσ19_310114_310116 (by decide)
                        have sσ19_310114_310116_0_2 : (σ19_310114_310116.1 0 2).toInt = (σ14_310114.1 0 2).toInt := by rw [(hcσ19_310114_310116 0 2 (by decide) (by decide)).1]
                        have sσ19_310114_310116_0_3 : (σ19_310114_310116.1 0 3).toInt = (σ14_310114.1 0 3).toInt := by rw [(hcσ19_310114_310116 0 3 (by decide) (by decide)).1]
                        have sσ19_310114_310116_0_4 : (σ19_310114_310116.1 0 4).toInt = (σ14_310114.1 0 4).toInt := by rw [(hcσ19_310114_310116 0 4 (by decide) (by decide)).1]
                        refine ok_some.mpr ?_
                        exact ⟨hIσ19_310114_310116, hfσ19_310114_310116⟩
                      · have g112 : (0 : Int32).toInt ≠ (0 : Int32).toInt := fun z => h_108 (Int32.toInt_inj.mp z)
                        exfalso; omega
                    · have t113 : a4_310084.toInt64.toInt = a4_310084.toInt := Int32.toInt_toInt64 _
                      have t114 : p1.toInt64.toInt = p1.toInt := Int32.toInt_toInt64 _
                      have g115 : ¬ a4_310084.toInt64.toInt < p1.toInt64.toInt := fun z => h_104 (Int64.lt_iff_toInt_lt.mpr z)
                      refine ok_ite.mpr ⟨fun h_116 => ?_, fun h_116 => ?_⟩
                      · have t117 : p2.toInt64.toInt = p2.toInt := Int32.toInt_toInt64 _
                        have g118 : p2.toInt64.toInt < a4_310084.toInt64.toInt := Int64.lt_iff_toInt_lt.mp h_116
                        refine ok_some.mpr ?_
                        refine ok_ite.mpr ⟨fun h_119 => ?_, fun h_119 => ?_⟩
                        · have g120 : (0 : Int32).toInt = (0 : Int32).toInt := by rw [h_119]
                          have l_2 : (2 : Int32).toInt = 2 := by decide
                          refine ok_bd.mpr ((o_fX10_fail hIσ14_310114 (by omega) (by omega) (by omega) (by omega)).mono (fun σ19_310114_310117 ho_122 => ?_))
                          obtain ⟨hIσ19_310114_310117, hcσ19_310114_310117⟩ := ho_122
                          have hfσ19_310114_310117 : Fr fr_fX10_number σ σ19_310114_310117 := Fr_c hfσ14_310114 hcσ19_310114_310117 (by decide)
                          have sσ19_310114_310117_0_2 : (σ19_310114_310117.1 0 2).toInt = (σ14_310114.1 0 2).toInt := by rw [(hcσ19_310114_310117 0 2 (by decide) (by decide)).1]
                          have sσ19_310114_310117_0_3 : (σ19_310114_310117.1 0 3).toInt = (σ14_310114.1 0 3).toInt := by rw [(hcσ19_310114_310117 0 3 (by decide) (by decide)).1]
                          have sσ19_310114_310117_0_4 : (σ19_310114_310117.1 0 4).toInt = (σ14_310114.1 0 4).toInt := by rw [(hcσ19_310114_310117 0 4 (by decide) (by decide)).1]
                          refine ok_some.mpr ?_
                          exact ⟨hIσ19_310114_310117, hfσ19_310114_310117⟩
                        · have g123 : (0 : Int32).toInt ≠ (0 : Int32).toInt := fun z => h_119 (Int32.toInt_inj.mp z)
                          exfalso; omega
                      · have t124 : p2.toInt64.toInt = p2.toInt := Int32.toInt_toInt64 _
                        have g125 : ¬ p2.toInt64.toInt < a4_310084.toInt64.toInt := fun z => h_116 (Int64.lt_iff_toInt_lt.mpr z)
                        refine ok_some.mpr ?_
                        refine ok_ite.mpr ⟨fun h_126 => ?_, fun h_126 => ?_⟩
                        · have g127 : (1 : Int32).toInt = (0 : Int32).toInt := by rw [h_126]
                          exfalso; omega
                        · have g128 : (1 : Int32).toInt ≠ (0 : Int32).toInt := fun z => h_126 (Int32.toInt_inj.mp z)
                          refine ok_some.mpr ?_
                          exact ⟨hIσ14_310114, hfσ14_310114⟩
                  · have g129 : (0 : Int32).toInt ≠ (0 : Int32).toInt := fun z => h_102 (Int32.toInt_inj.mp z)
                    exfalso; omega
                · have g130 : ¬ (57 : Int32).toInt < v20_310100.toInt := fun z => h_100 (Int32.lt_iff_toInt_lt.mpr z)
                  refine ok_some.mpr ?_
                  refine ok_ite.mpr ⟨fun h_131 => ?_, fun h_131 => ?_⟩
                  · have g132 : (1 : Int32).toInt = (0 : Int32).toInt := by rw [h_131]
                    exfalso; omega
                  · have g133 : (1 : Int32).toInt ≠ (0 : Int32).toInt := fun z => h_131 (Int32.toInt_inj.mp z)
                    refine ok_ite.mpr ⟨fun h_134 => ?_, fun h_134 => ?_⟩
                    · have f135 : ((σ1_310084.1 0 2) - x11_310082).toInt = (σ1_310084.1 0 2).toInt - x11_310082.toInt := isub_toInt (by omega) (by omega)
                      have l_4 : (4 : Int32).toInt = 4 := by decide
                      have g136 : ((σ1_310084.1 0 2) - x11_310082).toInt = (4 : Int32).toInt := by rw [h_134]
                      refine ok_bd.mpr ((o_fX10_fail hIσ1_310084 (by omega) (by omega) (by omega) (by omega)).mono (fun σ29_310100_310119 ho_138 => ?_))
                      obtain ⟨hIσ29_310100_310119, hcσ29_310100_310119⟩ := ho_138
                      have hfσ29_310100_310119 : Fr fr_fX10_number σ σ29_310100_310119 := Fr_c hfσ1_310084 hcσ29_310100_310119 (by decide)
                      have sσ29_310100_310119_0_2 : (σ29_310100_310119.1 0 2).toInt = (σ1_310084.1 0 2).toInt := by rw [(hcσ29_310100_310119 0 2 (by decide) (by decide)).1]
                      have sσ29_310100_310119_0_3 : (σ29_310100_310119.1 0 3).toInt = (σ1_310084.1 0 3).toInt := by rw [(hcσ29_310100_310119 0 3 (by decide) (by decide)).1]
                      have sσ29_310100_310119_0_4 : (σ29_310100_310119.1 0 4).toInt = (σ1_310084.1 0 4).toInt := by rw [(hcσ29_310100_310119 0 4 (by decide) (by decide)).1]
                      refine ok_some.mpr ?_
                      exact ⟨hIσ29_310100_310119, hfσ29_310100_310119⟩
                    · have f139 : ((σ1_310084.1 0 2) - x11_310082).toInt = (σ1_310084.1 0 2).toInt - x11_310082.toInt := isub_toInt (by omega) (by omega)
                      have l_4 : (4 : Int32).toInt = 4 := by decide
                      have g140 : ((σ1_310084.1 0 2) - x11_310082).toInt ≠ (4 : Int32).toInt := fun z => h_134 (Int32.toInt_inj.mp z)
                      refine ok_gd.mpr ⟨gb_of (by omega) (by omega), ?_⟩
                      refine ok_nm2 (fun v25_310100_310119 ev25_310100_310119 => ?_)
                      have qv25_310100_310119 : v25_310100_310119.toInt = (σ1_310084.1 1 (σ1_310084.1 0 2).toNatClampNeg).toInt := by rw [ev25_310100_310119]
                      refine ok_nm2 (fun x26_310100_310119 ex26_310100_310119 => ?_)
                      have l_10 : (10 : Int32).toInt = 10 := by decide
                      refine ok_nm2 (fun σ27_310100_310119 eσ27_310100_310119 => ?_)
                      have f141 : ((σ1_310084.1 0 2) + (1 : Int32)).toInt = (σ1_310084.1 0 2).toInt + (1 : Int32).toInt := iadd_toInt (by omega) (by omega)
                      have hIσ27_310100_310119 : IM σ27_310100_310119 := by rw [eσ27_310100_310119]; exact IM_w hIσ1_310084 (show 0 ≤ _ by omega) (show _ ≤ 1600 by omega)
                      have hfσ27_310100_310119 : Fr fr_fX10_number σ σ27_310100_310119 := by rw [eσ27_310100_310119]; exact Fr_w hfσ1_310084 (by decide)
                      have sσ27_310100_310119_0_2 : (σ27_310100_310119.1 0 2).toInt = ((σ1_310084.1 0 2) + 1).toInt := by rw [eσ27_310100_310119]; rfl
                      have sσ27_310100_310119_0_3 : (σ27_310100_310119.1 0 3).toInt = (σ1_310084.1 0 3).toInt := by rw [eσ27_310100_310119]; rfl
                      have sσ27_310100_310119_0_4 : (σ27_310100_310119.1 0 4).toInt = (σ1_310084.1 0 4).toInt := by rw [eσ27_310100_310119]; rfl
                      have sσ27_310100_310119_0_5 : (σ27_310100_310119.1 0 5).toInt = (σ1_310084.1 0 5).toInt := by rw [eσ27_310100_310119]; rfl
                      exact hrec_310084 _ (x26_310100_310119, σ27_310100_310119) (show (1600 + 1 - (σ27_310100_310119.1 0 2).toInt).toNat < n_310084 by omega) ⟨rfl, hIσ27_310100_310119, hfσ27_310100_310119⟩
  · have f142 : 0 ≤ (σ.1 0 5).toInt ∧ (σ.1 0 5).toInt ≤ 4 := hIσ 0 _
    have l_0 : (0 : Int32).toInt = 0 := by decide
    have g143 : (σ.1 0 5).toInt ≠ (0 : Int32).toInt := fun z => h_1 (Int32.toInt_inj.mp z)
    refine ok_some.mpr ?_
    exact ⟨hIσ, hfσ⟩
set_option maxRecDepth 20000 in
set_option maxHeartbeats 2000000 in
theorem o_fX10_isFull {σ : gS} (hIσ : IM σ) {p1 : Int32} {p2 : Int32} {p3 : Int32} (h0p1 : 0 ≤ p1.toInt) (h1p1 : p1.toInt ≤ 4) (h0p2 : 6 ≤ p2.toInt) (h1p2 : p2.toInt ≤ 60) (h0p3 : 0 ≤ p3.toInt) (h1p3 : p3.toInt ≤ 1600) : Ok (fX10_isFull σ p1 p2 p3) (fun out => IM out.2 ∧ Fr fr_fX10_isFull σ out.2 ∧ 0 ≤ out.1.toInt ∧ out.1.toInt ≤ 1) := by
  unfold fX10_isFull
  have hfσ : Fr fr_fX10_isFull σ σ := Fr_r
  refine ok_ite.mpr ⟨fun h_1 => ?_, fun h_1 => ?_⟩
  · have f2 : 0 ≤ (σ.1 0 5).toInt ∧ (σ.1 0 5).toInt ≤ 4 := hIσ 0 _
    have l_0 : (0 : Int32).toInt = 0 := by decide
    have g3 : (σ.1 0 5).toInt = (0 : Int32).toInt := by rw [h_1]
    refine ok_gd.mpr ⟨gb_of (by omega) (by omega), ?_⟩
    refine ok_nm2 (fun v3 ev3 => ?_)
    refine ok_ite.mpr ⟨fun h_4 => ?_, fun h_4 => ?_⟩
    · have g5 : v3.toInt = p2.toInt := by rw [h_4]
      have l_4 : (4 : Int32).toInt = 4 := by decide
      refine ok_bd.mpr ((o_fX10_fail hIσ (by omega) (by omega) (by omega) (by omega)).mono (fun σ6 ho_7 => ?_))
      obtain ⟨hIσ6, hcσ6⟩ := ho_7
      have hfσ6 : Fr fr_fX10_isFull σ σ6 := Fr_c hfσ hcσ6 (by decide)
      try unfold jX10_isFull_23
      refine ok_ite.mpr ⟨fun h_8 => ?_, fun h_8 => ?_⟩
      · have f9 : 0 ≤ (σ6.1 0 5).toInt ∧ (σ6.1 0 5).toInt ≤ 4 := hIσ6 0 _
        have g10 : (σ6.1 0 5).toInt = (0 : Int32).toInt := by rw [h_8]
        refine ok_some.mpr ?_
        exact ⟨hIσ6, hfσ6, (show 0 ≤ (0 : Int32).toInt by omega), (show (0 : Int32).toInt ≤ 1 by omega)⟩
      · have f11 : 0 ≤ (σ6.1 0 5).toInt ∧ (σ6.1 0 5).toInt ≤ 4 := hIσ6 0 _
        have g12 : (σ6.1 0 5).toInt ≠ (0 : Int32).toInt := fun z => h_8 (Int32.toInt_inj.mp z)
        refine ok_some.mpr ?_
        have l_1 : (1 : Int32).toInt = 1 := by decide
        exact ⟨hIσ6, hfσ6, (show 0 ≤ (1 : Int32).toInt by omega), (show (1 : Int32).toInt ≤ 1 by omega)⟩
    · have g13 : v3.toInt ≠ p2.toInt := fun z => h_4 (Int32.toInt_inj.mp z)
      try unfold jX10_isFull_23
      refine ok_ite.mpr ⟨fun h_14 => ?_, fun h_14 => ?_⟩
      · have g15 : (σ.1 0 5).toInt = (0 : Int32).toInt := by rw [h_14]
        refine ok_some.mpr ?_
        exact ⟨hIσ, hfσ, (show 0 ≤ (0 : Int32).toInt by omega), (show (0 : Int32).toInt ≤ 1 by omega)⟩
      · have g16 : (σ.1 0 5).toInt ≠ (0 : Int32).toInt := fun z => h_14 (Int32.toInt_inj.mp z)
        exfalso; omega
  · have f17 : 0 ≤ (σ.1 0 5).toInt ∧ (σ.1 0 5).toInt ≤ 4 := hIσ 0 _
    have l_0 : (0 : Int32).toInt = 0 := by decide
    have g18 : (σ.1 0 5).toInt ≠ (0 : Int32).toInt := fun z => h_1 (Int32.toInt_inj.mp z)
    try unfold jX10_isFull_23
    refine ok_ite.mpr ⟨fun h_19 => ?_, fun h_19 => ?_⟩
    · have g20 : (σ.1 0 5).toInt = (0 : Int32).toInt := by rw [h_19]
      exfalso; omega
    · have g21 : (σ.1 0 5).toInt ≠ (0 : Int32).toInt := fun z => h_19 (Int32.toInt_inj.mp z)
      refine ok_some.mpr ?_
      have l_1 : (1 : Int32).toInt = 1 := by decide
      exact ⟨hIσ, hfσ, (show 0 ≤ (1 : Int32).toInt by omega), (show (1 : Int32).toInt ≤ 1 by omega)⟩
set_option maxRecDepth 20000 in
set_option maxHeartbeats 2000000 in
theorem o_fX10_fault {σ : gS} (hIσ : IM σ) {p1 : Int32}  : Ok (fX10_fault σ p1) (fun out => -1 ≤ out.toInt ∧ out.toInt ≤ 1600) := by
  unfold fX10_fault
  have hfσ : Fr fr_fX10_fault σ σ := Fr_r
  refine ok_ite.mpr ⟨fun h_1 => ?_, fun h_1 => ?_⟩
  · have l_0 : (0 : Int32).toInt = 0 := by decide
    have g2 : p1.toInt = (0 : Int32).toInt := by rw [h_1]
    refine ok_some.mpr ?_
    have f3 : 0 ≤ (σ.1 0 7).toInt ∧ (σ.1 0 7).toInt ≤ 4 := hIσ 0 _
    exact ⟨(show -1 ≤ (σ.1 0 7).toInt by omega), (show (σ.1 0 7).toInt ≤ 1600 by omega)⟩
  · have l_0 : (0 : Int32).toInt = 0 := by decide
    have g4 : p1.toInt ≠ (0 : Int32).toInt := fun z => h_1 (Int32.toInt_inj.mp z)
    refine ok_ite.mpr ⟨fun h_5 => ?_, fun h_5 => ?_⟩
    · have l_1 : (1 : Int32).toInt = 1 := by decide
      have g6 : p1.toInt = (1 : Int32).toInt := by rw [h_5]
      refine ok_some.mpr ?_
      have f7 : -1 ≤ (σ.1 0 8).toInt ∧ (σ.1 0 8).toInt ≤ 1600 := hIσ 0 _
      exact ⟨(show -1 ≤ (σ.1 0 8).toInt by omega), (show (σ.1 0 8).toInt ≤ 1600 by omega)⟩
    · have l_1 : (1 : Int32).toInt = 1 := by decide
      have g8 : p1.toInt ≠ (1 : Int32).toInt := fun z => h_5 (Int32.toInt_inj.mp z)
      refine ok_some.mpr ?_
      have l_m1 : (-1 : Int32).toInt = -1 := by decide
      exact ⟨(show -1 ≤ (-1 : Int32).toInt by omega), (show (-1 : Int32).toInt ≤ 1600 by omega)⟩
set_option maxRecDepth 20000 in
set_option maxHeartbeats 2000000 in
theorem o_fX10_dropped {σ : gS} (hIσ : IM σ)   : Ok (fX10_dropped σ ) (fun _ => True) := by
  unfold fX10_dropped
  have hfσ : Fr fr_fX10_dropped σ σ := Fr_r
  refine ok_nm2 (fun x1 ex1 => ?_)
  have l_0 : (0 : Int32).toInt = 0 := by decide
  have qx1 : x1.toInt = 0 := by rw [ex1]; decide
  refine ok_nm2 (fun x2 ex2 => ?_)
  have qx2 : x2.toInt = 0 := by rw [ex2]; decide
  refine ok_lpc (I := fun n s => n = (60 + 1 - s.2.toInt).toNat ∧ 0 ≤ s.2.toInt ∧ s.2.toInt ≤ 60) (fun rec4_310127r n_310127 s_310127 hs_310127 hrec_310127 => ?_) K9 _ _ ⟨rfl, (by (try dsimp only); omega), (by (try dsimp only); omega)⟩ (by unfold K9; (try dsimp only); omega)
  obtain ⟨a1_310127, a2_310127⟩ := s_310127
  obtain ⟨hn_310127, b0a2_310127, b1a2_310127⟩ := hs_310127
  dsimp only at hn_310127 b0a2_310127 b1a2_310127
  unfold bX10_dropped_4
  try dsimp only
  refine ok_bd.mpr ?_
  try unfold fX10_rows
  have l_9 : (9 : Int32).toInt = 9 := by decide
  refine ok_gd.mpr ⟨gb_of (by omega) (by omega), ?_⟩
  refine ok_nm2 (fun v1_310148 ev1_310148 => ?_)
  have f1 : 0 ≤ (σ.1 15 (9 : Int32).toNatClampNeg).toInt ∧ (σ.1 15 (9 : Int32).toNatClampNeg).toInt ≤ 60 := hIσ 15 _
  have qv1_310148 : v1_310148.toInt = (σ.1 15 (9 : Int32).toNatClampNeg).toInt := by rw [ev1_310148]
  refine ok_some.mpr ?_
  refine ok_ite.mpr ⟨fun h_2 => ?_, fun h_2 => ?_⟩
  · have g3 : v1_310148.toInt ≤ a2_310127.toInt := Int32.le_iff_toInt_le.mp h_2
    refine ok_some.mpr ?_
    exact trivial
  · have g4 : ¬ v1_310148.toInt ≤ a2_310127.toInt := fun z => h_2 (Int32.le_iff_toInt_le.mpr z)
    refine ok_gd.mpr ⟨gb_of (by omega) (by omega), ?_⟩
    refine ok_nm2 (fun v6_310147_310149 ev6_310147_310149 => ?_)
    have f5 : 0 ≤ (σ.1 26 a2_310127.toNatClampNeg).toInt ∧ (σ.1 26 a2_310127.toNatClampNeg).toInt ≤ 1 := hIσ 26 _
    have qv6_310147_310149 : v6_310147_310149.toInt = (σ.1 26 a2_310127.toNatClampNeg).toInt := by rw [ev6_310147_310149]
    refine ok_ite.mpr ⟨fun h_6 => ?_, fun h_6 => ?_⟩
    · have g7 : v6_310147_310149.toInt = (0 : Int32).toInt := by rw [h_6]
      refine ok_nm2 (fun x8_310147_310149 ex8_310147_310149 => ?_)
      have l_1 : (1 : Int32).toInt = 1 := by decide
      have f8 : (a2_310127 + (1 : Int32)).toInt = a2_310127.toInt + (1 : Int32).toInt := iadd_toInt (by omega) (by omega)
      have qx8_310147_310149 : x8_310147_310149.toInt = (a2_310127 + 1).toInt := by rw [ex8_310147_310149]
      exact hrec_310127 _ (a1_310127, x8_310147_310149) (show (60 + 1 - x8_310147_310149.toInt).toNat < n_310127 by omega) ⟨rfl, (show 0 ≤ x8_310147_310149.toInt by omega), (show x8_310147_310149.toInt ≤ 60 by omega)⟩
    · have g9 : v6_310147_310149.toInt ≠ (0 : Int32).toInt := fun z => h_6 (Int32.toInt_inj.mp z)
      refine ok_nm2 (fun x9_310147_310149 ex9_310147_310149 => ?_)
      have l_1 : (1 : Int32).toInt = 1 := by decide
      refine ok_nm2 (fun x10_310147_310149 ex10_310147_310149 => ?_)
      have f10 : (a2_310127 + (1 : Int32)).toInt = a2_310127.toInt + (1 : Int32).toInt := iadd_toInt (by omega) (by omega)
      have qx10_310147_310149 : x10_310147_310149.toInt = (a2_310127 + 1).toInt := by rw [ex10_310147_310149]
      exact hrec_310127 _ (x9_310147_310149, x10_310147_310149) (show (60 + 1 - x10_310147_310149.toInt).toNat < n_310127 by omega) ⟨rfl, (show 0 ≤ x10_310147_310149.toInt by omega), (show x10_310147_310149.toInt ≤ 60 by omega)⟩
set_option maxRecDepth 20000 in
set_option maxHeartbeats 2000000 in
theorem o_fX10_controls {σ : gS} (hIσ : IM σ)   : Ok (fX10_controls σ ) (fun _ => True) := by
  unfold fX10_controls
  have hfσ : Fr fr_fX10_controls σ σ := Fr_r
  refine ok_nm2 (fun x1 ex1 => ?_)
  have l_0 : (0 : Int32).toInt = 0 := by decide
  have qx1 : x1.toInt = 0 := by rw [ex1]; decide
  refine ok_nm2 (fun x2 ex2 => ?_)
  have qx2 : x2.toInt = 0 := by rw [ex2]; decide
  refine ok_lpc (I := fun n s => n = (20 + 1 - s.2.toInt).toNat ∧ 0 ≤ s.2.toInt ∧ s.2.toInt ≤ 20) (fun rec4_310150r n_310150 s_310150 hs_310150 hrec_310150 => ?_) K9 _ _ ⟨rfl, (by (try dsimp only); omega), (by (try dsimp only); omega)⟩ (by unfold K9; (try dsimp only); omega)
  obtain ⟨a1_310150, a2_310150⟩ := s_310150
  obtain ⟨hn_310150, b0a2_310150, b1a2_310150⟩ := hs_310150
  dsimp only at hn_310150 b0a2_310150 b1a2_310150
  unfold bX10_controls_4
  try dsimp only
  refine ok_bd.mpr ?_
  try unfold fX10_points
  have l_8 : (8 : Int32).toInt = 8 := by decide
  refine ok_gd.mpr ⟨gb_of (by omega) (by omega), ?_⟩
  refine ok_nm2 (fun v1_310190 ev1_310190 => ?_)
  have f1 : 0 ≤ (σ.1 15 (8 : Int32).toNatClampNeg).toInt ∧ (σ.1 15 (8 : Int32).toNatClampNeg).toInt ≤ 20 := hIσ 15 _
  have qv1_310190 : v1_310190.toInt = (σ.1 15 (8 : Int32).toNatClampNeg).toInt := by rw [ev1_310190]
  refine ok_some.mpr ?_
  refine ok_ite.mpr ⟨fun h_2 => ?_, fun h_2 => ?_⟩
  · have g3 : v1_310190.toInt ≤ a2_310150.toInt := Int32.le_iff_toInt_le.mp h_2
    refine ok_some.mpr ?_
    exact trivial
  · have g4 : ¬ v1_310190.toInt ≤ a2_310150.toInt := fun z => h_2 (Int32.le_iff_toInt_le.mpr z)
    refine ok_bd.mpr ?_
    try unfold fX10_isControl
    have l_20 : (20 : Int32).toInt = 20 := by decide
    have f5 : ((20 : Int32) + a2_310150).toInt = (20 : Int32).toInt + a2_310150.toInt := iadd_toInt (by omega) (by omega)
    refine ok_gd.mpr ⟨gb_of (by omega) (by omega), ?_⟩
    refine ok_nm2 (fun v1_310192 ev1_310192 => ?_)
    have f6 : 0 ≤ (σ.1 20 (20 + a2_310150).toNatClampNeg).toInt ∧ (σ.1 20 (20 + a2_310150).toNatClampNeg).toInt ≤ 2 := hIσ 20 _
    have qv1_310192 : v1_310192.toInt = (σ.1 20 (20 + a2_310150).toNatClampNeg).toInt := by rw [ev1_310192]
    refine ok_nm2 (fun x2_310192 ex2_310192 => ?_)
    have qx2_310192 : x2_310192.toInt = v1_310192.toInt := by rw [ex2_310192]
    refine ok_ite.mpr ⟨fun h_7 => ?_, fun h_7 => ?_⟩
    · have g8 : x2_310192.toInt = (0 : Int32).toInt := by rw [h_7]
      refine ok_some.mpr ?_
      refine ok_ite.mpr ⟨fun h_9 => ?_, fun h_9 => ?_⟩
      · have g10 : (0 : Int32).toInt = (0 : Int32).toInt := by rw [h_9]
        refine ok_nm2 (fun x9_310189_310191_310193 ex9_310189_310191_310193 => ?_)
        have l_1 : (1 : Int32).toInt = 1 := by decide
        have f11 : (a2_310150 + (1 : Int32)).toInt = a2_310150.toInt + (1 : Int32).toInt := iadd_toInt (by omega) (by omega)
        have qx9_310189_310191_310193 : x9_310189_310191_310193.toInt = (a2_310150 + 1).toInt := by rw [ex9_310189_310191_310193]
        exact hrec_310150 _ (a1_310150, x9_310189_310191_310193) (show (20 + 1 - x9_310189_310191_310193.toInt).toNat < n_310150 by omega) ⟨rfl, (show 0 ≤ x9_310189_310191_310193.toInt by omega), (show x9_310189_310191_310193.toInt ≤ 20 by omega)⟩
      · have g12 : (0 : Int32).toInt ≠ (0 : Int32).toInt := fun z => h_9 (Int32.toInt_inj.mp z)
        exfalso; omega
    · have g13 : x2_310192.toInt ≠ (0 : Int32).toInt := fun z => h_7 (Int32.toInt_inj.mp z)
      refine ok_ite.mpr ⟨fun h_14 => ?_, fun h_14 => ?_⟩
      · have l_1 : (1 : Int32).toInt = 1 := by decide
        have g15 : (((σ.1 0 36) >>> ((x2_310192 - 1) &&& 31)) &&& 1).toInt = (1 : Int32).toInt := by rw [h_14]
        refine ok_some.mpr ?_
        refine ok_ite.mpr ⟨fun h_16 => ?_, fun h_16 => ?_⟩
        · have g17 : (1 : Int32).toInt = (0 : Int32).toInt := by rw [h_16]
          exfalso; omega
        · have g18 : (1 : Int32).toInt ≠ (0 : Int32).toInt := fun z => h_16 (Int32.toInt_inj.mp z)
          refine ok_nm2 (fun x10_310189_310191_310194 ex10_310189_310191_310194 => ?_)
          refine ok_nm2 (fun x11_310189_310191_310194 ex11_310189_310191_310194 => ?_)
          have f19 : (a2_310150 + (1 : Int32)).toInt = a2_310150.toInt + (1 : Int32).toInt := iadd_toInt (by omega) (by omega)
          have qx11_310189_310191_310194 : x11_310189_310191_310194.toInt = (a2_310150 + 1).toInt := by rw [ex11_310189_310191_310194]
          exact hrec_310150 _ (x10_310189_310191_310194, x11_310189_310191_310194) (show (20 + 1 - x11_310189_310191_310194.toInt).toNat < n_310150 by omega) ⟨rfl, (show 0 ≤ x11_310189_310191_310194.toInt by omega), (show x11_310189_310191_310194.toInt ≤ 20 by omega)⟩
      · have l_1 : (1 : Int32).toInt = 1 := by decide
        have g20 : (((σ.1 0 36) >>> ((x2_310192 - 1) &&& 31)) &&& 1).toInt ≠ (1 : Int32).toInt := fun z => h_14 (Int32.toInt_inj.mp z)
        refine ok_some.mpr ?_
        refine ok_ite.mpr ⟨fun h_21 => ?_, fun h_21 => ?_⟩
        · have g22 : (0 : Int32).toInt = (0 : Int32).toInt := by rw [h_21]
          refine ok_nm2 (fun x9_310189_310191_310195 ex9_310189_310191_310195 => ?_)
          have f23 : (a2_310150 + (1 : Int32)).toInt = a2_310150.toInt + (1 : Int32).toInt := iadd_toInt (by omega) (by omega)
          have qx9_310189_310191_310195 : x9_310189_310191_310195.toInt = (a2_310150 + 1).toInt := by rw [ex9_310189_310191_310195]
          exact hrec_310150 _ (a1_310150, x9_310189_310191_310195) (show (20 + 1 - x9_310189_310191_310195.toInt).toNat < n_310150 by omega) ⟨rfl, (show 0 ≤ x9_310189_310191_310195.toInt by omega), (show x9_310189_310191_310195.toInt ≤ 20 by omega)⟩
        · have g24 : (0 : Int32).toInt ≠ (0 : Int32).toInt := fun z => h_21 (Int32.toInt_inj.mp z)
          exfalso; omega
set_option maxRecDepth 20000 in
set_option maxHeartbeats 2000000 in
theorem o_fX10_has {σ : gS} (hIσ : IM σ) {p1 : Int32}  : Ok (fX10_has σ p1) (fun _ => True) := by
  unfold fX10_has
  have hfσ : Fr fr_fX10_has σ σ := Fr_r
  refine ok_ite.mpr ⟨fun h_1 => ?_, fun h_1 => ?_⟩
  · have l_0 : (0 : Int32).toInt = 0 := by decide
    have g2 : p1.toInt = (0 : Int32).toInt := by rw [h_1]
    try unfold jX10_has_52
    have l_6 : (6 : Int32).toInt = 6 := by decide
    have f3 : ((6 : Int32) + p1).toInt = (6 : Int32).toInt + p1.toInt := iadd_toInt (by omega) (by omega)
    refine ok_gd.mpr ⟨gb_of (by omega) (by omega), ?_⟩
    refine ok_nm2 (fun v1_310196 ev1_310196 => ?_)
    have f4 : 0 ≤ (σ.1 15 (6 + p1).toNatClampNeg).toInt ∧ (σ.1 15 (6 + p1).toNatClampNeg).toInt ≤ 6 := by
      have hz : (6 + p1).toNatClampNeg = (6 + p1).toInt.toNat := rfl
      have hb := hIσ 15 (6 + p1).toNatClampNeg
      have hj : (6 + p1).toNatClampNeg = 6 := by omega
      generalize (6 + p1).toNatClampNeg = j at hb hj ⊢
      rcases hj with rfl <;> exact ⟨Int.le_trans (by decide) hb.1, Int.le_trans hb.2 (by decide)⟩
    have qv1_310196 : v1_310196.toInt = (σ.1 15 (6 + p1).toNatClampNeg).toInt := by rw [ev1_310196]
    refine ok_some.mpr ?_
    exact trivial
  · have l_0 : (0 : Int32).toInt = 0 := by decide
    have g5 : p1.toInt ≠ (0 : Int32).toInt := fun z => h_1 (Int32.toInt_inj.mp z)
    refine ok_ite.mpr ⟨fun h_6 => ?_, fun h_6 => ?_⟩
    · have l_1 : (1 : Int32).toInt = 1 := by decide
      have g7 : p1.toInt = (1 : Int32).toInt := by rw [h_6]
      try unfold jX10_has_52
      have l_6 : (6 : Int32).toInt = 6 := by decide
      have f8 : ((6 : Int32) + p1).toInt = (6 : Int32).toInt + p1.toInt := iadd_toInt (by omega) (by omega)
      refine ok_gd.mpr ⟨gb_of (by omega) (by omega), ?_⟩
      refine ok_nm2 (fun v1_310197 ev1_310197 => ?_)
      have f9 : 0 ≤ (σ.1 15 (6 + p1).toNatClampNeg).toInt ∧ (σ.1 15 (6 + p1).toNatClampNeg).toInt ≤ 12 := by
        have hz : (6 + p1).toNatClampNeg = (6 + p1).toInt.toNat := rfl
        have hb := hIσ 15 (6 + p1).toNatClampNeg
        have hj : (6 + p1).toNatClampNeg = 7 := by omega
        generalize (6 + p1).toNatClampNeg = j at hb hj ⊢
        rcases hj with rfl <;> exact ⟨Int.le_trans (by decide) hb.1, Int.le_trans hb.2 (by decide)⟩
      have qv1_310197 : v1_310197.toInt = (σ.1 15 (6 + p1).toNatClampNeg).toInt := by rw [ev1_310197]
      refine ok_some.mpr ?_
      exact trivial
    · have l_1 : (1 : Int32).toInt = 1 := by decide
      have g10 : p1.toInt ≠ (1 : Int32).toInt := fun z => h_6 (Int32.toInt_inj.mp z)
      refine ok_ite.mpr ⟨fun h_11 => ?_, fun h_11 => ?_⟩
      · have l_2 : (2 : Int32).toInt = 2 := by decide
        have g12 : p1.toInt = (2 : Int32).toInt := by rw [h_11]
        try unfold jX10_has_52
        have l_6 : (6 : Int32).toInt = 6 := by decide
        have f13 : ((6 : Int32) + p1).toInt = (6 : Int32).toInt + p1.toInt := iadd_toInt (by omega) (by omega)
        refine ok_gd.mpr ⟨gb_of (by omega) (by omega), ?_⟩
        refine ok_nm2 (fun v1_310198 ev1_310198 => ?_)
        have f14 : 0 ≤ (σ.1 15 (6 + p1).toNatClampNeg).toInt ∧ (σ.1 15 (6 + p1).toNatClampNeg).toInt ≤ 20 := by
          have hz : (6 + p1).toNatClampNeg = (6 + p1).toInt.toNat := rfl
          have hb := hIσ 15 (6 + p1).toNatClampNeg
          have hj : (6 + p1).toNatClampNeg = 8 := by omega
          generalize (6 + p1).toNatClampNeg = j at hb hj ⊢
          rcases hj with rfl <;> exact ⟨Int.le_trans (by decide) hb.1, Int.le_trans hb.2 (by decide)⟩
        have qv1_310198 : v1_310198.toInt = (σ.1 15 (6 + p1).toNatClampNeg).toInt := by rw [ev1_310198]
        refine ok_some.mpr ?_
        exact trivial
      · have l_2 : (2 : Int32).toInt = 2 := by decide
        have g15 : p1.toInt ≠ (2 : Int32).toInt := fun z => h_11 (Int32.toInt_inj.mp z)
        refine ok_ite.mpr ⟨fun h_16 => ?_, fun h_16 => ?_⟩
        · have l_3 : (3 : Int32).toInt = 3 := by decide
          have g17 : p1.toInt = (3 : Int32).toInt := by rw [h_16]
          try unfold jX10_has_52
          have l_6 : (6 : Int32).toInt = 6 := by decide
          have f18 : ((6 : Int32) + p1).toInt = (6 : Int32).toInt + p1.toInt := iadd_toInt (by omega) (by omega)
          refine ok_gd.mpr ⟨gb_of (by omega) (by omega), ?_⟩
          refine ok_nm2 (fun v1_310199 ev1_310199 => ?_)
          have f19 : 0 ≤ (σ.1 15 (6 + p1).toNatClampNeg).toInt ∧ (σ.1 15 (6 + p1).toNatClampNeg).toInt ≤ 60 := by
            have hz : (6 + p1).toNatClampNeg = (6 + p1).toInt.toNat := rfl
            have hb := hIσ 15 (6 + p1).toNatClampNeg
            have hj : (6 + p1).toNatClampNeg = 9 := by omega
            generalize (6 + p1).toNatClampNeg = j at hb hj ⊢
            rcases hj with rfl <;> exact ⟨Int.le_trans (by decide) hb.1, Int.le_trans hb.2 (by decide)⟩
          have qv1_310199 : v1_310199.toInt = (σ.1 15 (6 + p1).toNatClampNeg).toInt := by rw [ev1_310199]
          refine ok_some.mpr ?_
          exact trivial
        · have l_3 : (3 : Int32).toInt = 3 := by decide
          have g20 : p1.toInt ≠ (3 : Int32).toInt := fun z => h_16 (Int32.toInt_inj.mp z)
          refine ok_ite.mpr ⟨fun h_21 => ?_, fun h_21 => ?_⟩
          · have l_4 : (4 : Int32).toInt = 4 := by decide
            have g22 : p1.toInt = (4 : Int32).toInt := by rw [h_21]
            try unfold jX10_has_52
            have l_6 : (6 : Int32).toInt = 6 := by decide
            have f23 : ((6 : Int32) + p1).toInt = (6 : Int32).toInt + p1.toInt := iadd_toInt (by omega) (by omega)
            refine ok_gd.mpr ⟨gb_of (by omega) (by omega), ?_⟩
            refine ok_nm2 (fun v1_310200 ev1_310200 => ?_)
            refine ok_some.mpr ?_
            exact trivial
          · have l_4 : (4 : Int32).toInt = 4 := by decide
            have g24 : p1.toInt ≠ (4 : Int32).toInt := fun z => h_21 (Int32.toInt_inj.mp z)
            refine ok_ite.mpr ⟨fun h_25 => ?_, fun h_25 => ?_⟩
            · have l_5 : (5 : Int32).toInt = 5 := by decide
              have g26 : p1.toInt = (5 : Int32).toInt := by rw [h_25]
              try unfold jX10_has_52
              have l_6 : (6 : Int32).toInt = 6 := by decide
              have f27 : ((6 : Int32) + p1).toInt = (6 : Int32).toInt + p1.toInt := iadd_toInt (by omega) (by omega)
              refine ok_gd.mpr ⟨gb_of (by omega) (by omega), ?_⟩
              refine ok_nm2 (fun v1_310201 ev1_310201 => ?_)
              refine ok_some.mpr ?_
              exact trivial
            · have l_5 : (5 : Int32).toInt = 5 := by decide
              have g28 : p1.toInt ≠ (5 : Int32).toInt := fun z => h_25 (Int32.toInt_inj.mp z)
              refine ok_ite.mpr ⟨fun h_29 => ?_, fun h_29 => ?_⟩
              · have l_6 : (6 : Int32).toInt = 6 := by decide
                have g30 : p1.toInt = (6 : Int32).toInt := by rw [h_29]
                refine ok_bd.mpr ((o_fX10_dropped hIσ ).mono (fun r9 ho_32 => ?_))
                refine ok_some.mpr ?_
                exact trivial
              · have l_6 : (6 : Int32).toInt = 6 := by decide
                have g33 : p1.toInt ≠ (6 : Int32).toInt := fun z => h_29 (Int32.toInt_inj.mp z)
                refine ok_ite.mpr ⟨fun h_34 => ?_, fun h_34 => ?_⟩
                · have l_7 : (7 : Int32).toInt = 7 := by decide
                  have g35 : p1.toInt = (7 : Int32).toInt := by rw [h_34]
                  refine ok_some.mpr ?_
                  exact trivial
                · have l_7 : (7 : Int32).toInt = 7 := by decide
                  have g36 : p1.toInt ≠ (7 : Int32).toInt := fun z => h_34 (Int32.toInt_inj.mp z)
                  refine ok_ite.mpr ⟨fun h_37 => ?_, fun h_37 => ?_⟩
                  · have l_8 : (8 : Int32).toInt = 8 := by decide
                    have g38 : p1.toInt = (8 : Int32).toInt := by rw [h_37]
                    refine ok_bd.mpr ((o_fX10_controls hIσ ).mono (fun r13 ho_40 => ?_))
                    refine ok_some.mpr ?_
                    exact trivial
                  · have l_8 : (8 : Int32).toInt = 8 := by decide
                    have g41 : p1.toInt ≠ (8 : Int32).toInt := fun z => h_37 (Int32.toInt_inj.mp z)
                    refine ok_some.mpr ?_
                    exact trivial
set_option maxRecDepth 20000 in
set_option maxHeartbeats 2000000 in
theorem o_fX10_rowsOf {σ : gS} (hIσ : IM σ) {p1 : Int32} {p2 : Int32} (h0p1 : -1 ≤ p1.toInt) (h1p1 : p1.toInt ≤ 11) (h0p2 : -1 ≤ p2.toInt) (h1p2 : p2.toInt ≤ 19) : Ok (fX10_rowsOf σ p1 p2) (fun _ => True) := by
  unfold fX10_rowsOf
  have hfσ : Fr fr_fX10_rowsOf σ σ := Fr_r
  refine ok_nm2 (fun x1 ex1 => ?_)
  have l_0 : (0 : Int32).toInt = 0 := by decide
  have qx1 : x1.toInt = 0 := by rw [ex1]; decide
  refine ok_nm2 (fun x2 ex2 => ?_)
  have qx2 : x2.toInt = 0 := by rw [ex2]; decide
  refine ok_lpc (I := fun n s => n = (60 + 1 - s.2.toInt).toNat ∧ 0 ≤ s.2.toInt ∧ s.2.toInt ≤ 60) (fun rec5_310216r n_310216 s_310216 hs_310216 hrec_310216 => ?_) K9 _ _ ⟨rfl, (by (try dsimp only); omega), (by (try dsimp only); omega)⟩ (by unfold K9; (try dsimp only); omega)
  obtain ⟨a3_310216, a4_310216⟩ := s_310216
  obtain ⟨hn_310216, b0a4_310216, b1a4_310216⟩ := hs_310216
  dsimp only at hn_310216 b0a4_310216 b1a4_310216
  unfold bX10_rowsOf_5
  try dsimp only
  refine ok_bd.mpr ?_
  try unfold fX10_rows
  have l_9 : (9 : Int32).toInt = 9 := by decide
  refine ok_gd.mpr ⟨gb_of (by omega) (by omega), ?_⟩
  refine ok_nm2 (fun v1_310296 ev1_310296 => ?_)
  have f1 : 0 ≤ (σ.1 15 (9 : Int32).toNatClampNeg).toInt ∧ (σ.1 15 (9 : Int32).toNatClampNeg).toInt ≤ 60 := hIσ 15 _
  have qv1_310296 : v1_310296.toInt = (σ.1 15 (9 : Int32).toNatClampNeg).toInt := by rw [ev1_310296]
  refine ok_some.mpr ?_
  refine ok_ite.mpr ⟨fun h_2 => ?_, fun h_2 => ?_⟩
  · have g3 : v1_310296.toInt ≤ a4_310216.toInt := Int32.le_iff_toInt_le.mp h_2
    refine ok_some.mpr ?_
    exact trivial
  · have g4 : ¬ v1_310296.toInt ≤ a4_310216.toInt := fun z => h_2 (Int32.le_iff_toInt_le.mpr z)
    refine ok_gd.mpr ⟨gb_of (by omega) (by omega), ?_⟩
    refine ok_nm2 (fun v6_310293_310297 ev6_310293_310297 => ?_)
    have f5 : 0 ≤ (σ.1 26 a4_310216.toNatClampNeg).toInt ∧ (σ.1 26 a4_310216.toNatClampNeg).toInt ≤ 1 := hIσ 26 _
    have qv6_310293_310297 : v6_310293_310297.toInt = (σ.1 26 a4_310216.toNatClampNeg).toInt := by rw [ev6_310293_310297]
    refine ok_ite.mpr ⟨fun h_6 => ?_, fun h_6 => ?_⟩
    · have g7 : v6_310293_310297.toInt = (0 : Int32).toInt := by rw [h_6]
      refine ok_ite.mpr ⟨fun h_8 => ?_, fun h_8 => ?_⟩
      · have l_m1 : (-1 : Int32).toInt = -1 := by decide
        have g9 : p1.toInt = (-1 : Int32).toInt := by rw [h_8]
        try unfold jX10_rowsOf_39
        refine ok_ite.mpr ⟨fun h_10 => ?_, fun h_10 => ?_⟩
        · have g11 : p2.toInt = (-1 : Int32).toInt := by rw [h_10]
          refine ok_nm2 (fun x11_310298 ex11_310298 => ?_)
          have l_1 : (1 : Int32).toInt = 1 := by decide
          refine ok_nm2 (fun x12_310298 ex12_310298 => ?_)
          have f12 : (a4_310216 + (1 : Int32)).toInt = a4_310216.toInt + (1 : Int32).toInt := iadd_toInt (by omega) (by omega)
          have qx12_310298 : x12_310298.toInt = (a4_310216 + 1).toInt := by rw [ex12_310298]
          exact hrec_310216 _ (x11_310298, x12_310298) (show (60 + 1 - x12_310298.toInt).toNat < n_310216 by omega) ⟨rfl, (show 0 ≤ x12_310298.toInt by omega), (show x12_310298.toInt ≤ 60 by omega)⟩
        · have g13 : p2.toInt ≠ (-1 : Int32).toInt := fun z => h_10 (Int32.toInt_inj.mp z)
          refine ok_bd.mpr ?_
          try unfold fX10_pointOf
          have l_60 : (60 : Int32).toInt = 60 := by decide
          have f14 : ((60 : Int32) + a4_310216).toInt = (60 : Int32).toInt + a4_310216.toInt := iadd_toInt (by omega) (by omega)
          refine ok_gd.mpr ⟨gb_of (by omega) (by omega), ?_⟩
          refine ok_nm2 (fun v1_310299 ev1_310299 => ?_)
          have f15 : 0 ≤ (σ.1 23 (60 + a4_310216).toNatClampNeg).toInt ∧ (σ.1 23 (60 + a4_310216).toNatClampNeg).toInt ≤ 19 := hIσ 23 _
          have qv1_310299 : v1_310299.toInt = (σ.1 23 (60 + a4_310216).toNatClampNeg).toInt := by rw [ev1_310299]
          refine ok_some.mpr ?_
          refine ok_ite.mpr ⟨fun h_16 => ?_, fun h_16 => ?_⟩
          · have g17 : v1_310299.toInt = p2.toInt := by rw [h_16]
            refine ok_nm2 (fun x17_310298_310300 ex17_310298_310300 => ?_)
            have l_1 : (1 : Int32).toInt = 1 := by decide
            refine ok_nm2 (fun x18_310298_310300 ex18_310298_310300 => ?_)
            have f18 : (a4_310216 + (1 : Int32)).toInt = a4_310216.toInt + (1 : Int32).toInt := iadd_toInt (by omega) (by omega)
            have qx18_310298_310300 : x18_310298_310300.toInt = (a4_310216 + 1).toInt := by rw [ex18_310298_310300]
            exact hrec_310216 _ (x17_310298_310300, x18_310298_310300) (show (60 + 1 - x18_310298_310300.toInt).toNat < n_310216 by omega) ⟨rfl, (show 0 ≤ x18_310298_310300.toInt by omega), (show x18_310298_310300.toInt ≤ 60 by omega)⟩
          · have g19 : v1_310299.toInt ≠ p2.toInt := fun z => h_16 (Int32.toInt_inj.mp z)
            refine ok_nm2 (fun x16_310298_310300 ex16_310298_310300 => ?_)
            have l_1 : (1 : Int32).toInt = 1 := by decide
            have f20 : (a4_310216 + (1 : Int32)).toInt = a4_310216.toInt + (1 : Int32).toInt := iadd_toInt (by omega) (by omega)
            have qx16_310298_310300 : x16_310298_310300.toInt = (a4_310216 + 1).toInt := by rw [ex16_310298_310300]
            exact hrec_310216 _ (a3_310216, x16_310298_310300) (show (60 + 1 - x16_310298_310300.toInt).toNat < n_310216 by omega) ⟨rfl, (show 0 ≤ x16_310298_310300.toInt by omega), (show x16_310298_310300.toInt ≤ 60 by omega)⟩
      · have l_m1 : (-1 : Int32).toInt = -1 := by decide
        have g21 : p1.toInt ≠ (-1 : Int32).toInt := fun z => h_8 (Int32.toInt_inj.mp z)
        refine ok_bd.mpr ?_
        try unfold fX10_pictureOf
        have l_60 : (60 : Int32).toInt = 60 := by decide
        have f22 : ((60 : Int32) + a4_310216).toInt = (60 : Int32).toInt + a4_310216.toInt := iadd_toInt (by omega) (by omega)
        refine ok_gd.mpr ⟨gb_of (by omega) (by omega), ?_⟩
        refine ok_nm2 (fun v1_310301 ev1_310301 => ?_)
        have f23 : 0 ≤ (σ.1 22 (60 + a4_310216).toNatClampNeg).toInt ∧ (σ.1 22 (60 + a4_310216).toNatClampNeg).toInt ≤ 11 := hIσ 22 _
        have qv1_310301 : v1_310301.toInt = (σ.1 22 (60 + a4_310216).toNatClampNeg).toInt := by rw [ev1_310301]
        refine ok_some.mpr ?_
        refine ok_ite.mpr ⟨fun h_24 => ?_, fun h_24 => ?_⟩
        · have g25 : v1_310301.toInt = p1.toInt := by rw [h_24]
          try unfold jX10_rowsOf_39
          refine ok_ite.mpr ⟨fun h_26 => ?_, fun h_26 => ?_⟩
          · have g27 : p2.toInt = (-1 : Int32).toInt := by rw [h_26]
            refine ok_nm2 (fun x11_310303 ex11_310303 => ?_)
            have l_1 : (1 : Int32).toInt = 1 := by decide
            refine ok_nm2 (fun x12_310303 ex12_310303 => ?_)
            have f28 : (a4_310216 + (1 : Int32)).toInt = a4_310216.toInt + (1 : Int32).toInt := iadd_toInt (by omega) (by omega)
            have qx12_310303 : x12_310303.toInt = (a4_310216 + 1).toInt := by rw [ex12_310303]
            exact hrec_310216 _ (x11_310303, x12_310303) (show (60 + 1 - x12_310303.toInt).toNat < n_310216 by omega) ⟨rfl, (show 0 ≤ x12_310303.toInt by omega), (show x12_310303.toInt ≤ 60 by omega)⟩
          · have g29 : p2.toInt ≠ (-1 : Int32).toInt := fun z => h_26 (Int32.toInt_inj.mp z)
            refine ok_bd.mpr ?_
            try unfold fX10_pointOf
            refine ok_gd.mpr ⟨gb_of (by omega) (by omega), ?_⟩
            refine ok_nm2 (fun v1_310304 ev1_310304 => ?_)
            have f30 : 0 ≤ (σ.1 23 (60 + a4_310216).toNatClampNeg).toInt ∧ (σ.1 23 (60 + a4_310216).toNatClampNeg).toInt ≤ 19 := hIσ 23 _
            have qv1_310304 : v1_310304.toInt = (σ.1 23 (60 + a4_310216).toNatClampNeg).toInt := by rw [ev1_310304]
            refine ok_some.mpr ?_
            refine ok_ite.mpr ⟨fun h_31 => ?_, fun h_31 => ?_⟩
            · have g32 : v1_310304.toInt = p2.toInt := by rw [h_31]
              refine ok_nm2 (fun x17_310303_310305 ex17_310303_310305 => ?_)
              have l_1 : (1 : Int32).toInt = 1 := by decide
              refine ok_nm2 (fun x18_310303_310305 ex18_310303_310305 => ?_)
              have f33 : (a4_310216 + (1 : Int32)).toInt = a4_310216.toInt + (1 : Int32).toInt := iadd_toInt (by omega) (by omega)
              have qx18_310303_310305 : x18_310303_310305.toInt = (a4_310216 + 1).toInt := by rw [ex18_310303_310305]
              exact hrec_310216 _ (x17_310303_310305, x18_310303_310305) (show (60 + 1 - x18_310303_310305.toInt).toNat < n_310216 by omega) ⟨rfl, (show 0 ≤ x18_310303_310305.toInt by omega), (show x18_310303_310305.toInt ≤ 60 by omega)⟩
            · have g34 : v1_310304.toInt ≠ p2.toInt := fun z => h_31 (Int32.toInt_inj.mp z)
              refine ok_nm2 (fun x16_310303_310305 ex16_310303_310305 => ?_)
              have l_1 : (1 : Int32).toInt = 1 := by decide
              have f35 : (a4_310216 + (1 : Int32)).toInt = a4_310216.toInt + (1 : Int32).toInt := iadd_toInt (by omega) (by omega)
              have qx16_310303_310305 : x16_310303_310305.toInt = (a4_310216 + 1).toInt := by rw [ex16_310303_310305]
              exact hrec_310216 _ (a3_310216, x16_310303_310305) (show (60 + 1 - x16_310303_310305.toInt).toNat < n_310216 by omega) ⟨rfl, (show 0 ≤ x16_310303_310305.toInt by omega), (show x16_310303_310305.toInt ≤ 60 by omega)⟩
        · have g36 : v1_310301.toInt ≠ p1.toInt := fun z => h_24 (Int32.toInt_inj.mp z)
          refine ok_nm2 (fun x22_310293_310297_310302 ex22_310293_310297_310302 => ?_)
          have l_1 : (1 : Int32).toInt = 1 := by decide
          have f37 : (a4_310216 + (1 : Int32)).toInt = a4_310216.toInt + (1 : Int32).toInt := iadd_toInt (by omega) (by omega)
          have qx22_310293_310297_310302 : x22_310293_310297_310302.toInt = (a4_310216 + 1).toInt := by rw [ex22_310293_310297_310302]
          exact hrec_310216 _ (a3_310216, x22_310293_310297_310302) (show (60 + 1 - x22_310293_310297_310302.toInt).toNat < n_310216 by omega) ⟨rfl, (show 0 ≤ x22_310293_310297_310302.toInt by omega), (show x22_310293_310297_310302.toInt ≤ 60 by omega)⟩
    · have g38 : v6_310293_310297.toInt ≠ (0 : Int32).toInt := fun z => h_6 (Int32.toInt_inj.mp z)
      refine ok_nm2 (fun x8_310293_310297 ex8_310293_310297 => ?_)
      have l_1 : (1 : Int32).toInt = 1 := by decide
      have f39 : (a4_310216 + (1 : Int32)).toInt = a4_310216.toInt + (1 : Int32).toInt := iadd_toInt (by omega) (by omega)
      have qx8_310293_310297 : x8_310293_310297.toInt = (a4_310216 + 1).toInt := by rw [ex8_310293_310297]
      exact hrec_310216 _ (a3_310216, x8_310293_310297) (show (60 + 1 - x8_310293_310297.toInt).toNat < n_310216 by omega) ⟨rfl, (show 0 ≤ x8_310293_310297.toInt by omega), (show x8_310293_310297.toInt ≤ 60 by omega)⟩
set_option maxRecDepth 20000 in
set_option maxHeartbeats 2000000 in
theorem o_fX10_joins {σ : gS} (hIσ : IM σ) {p1 : Int32} {p2 : Int32} (h0p1 : 0 ≤ p1.toInt) (h1p1 : p1.toInt ≤ 11) (h0p2 : 0 ≤ p2.toInt) (h1p2 : p2.toInt ≤ 31) : Ok (fX10_joins σ p1 p2) (fun out => IM out.2 ∧ Fr fr_fX10_joins σ out.2 ∧ 0 ≤ out.1.toInt ∧ out.1.toInt ≤ 1) := by
  unfold fX10_joins
  have hfσ : Fr fr_fX10_joins σ σ := Fr_r
  refine ok_gd.mpr ⟨gb_of (by omega) (by omega), ?_⟩
  refine ok_nm2 (fun v1 ev1 => ?_)
  have f1 : 0 ≤ (σ.1 32 p1.toNatClampNeg).toInt ∧ (σ.1 32 p1.toNatClampNeg).toInt ≤ 31 := hIσ 32 _
  have qv1 : v1.toInt = (σ.1 32 p1.toNatClampNeg).toInt := by rw [ev1]
  refine ok_nm2 (fun x2 ex2 => ?_)
  have qx2 : x2.toInt = v1.toInt := by rw [ex2]
  refine ok_gd.mpr ⟨gb_of (by omega) (by omega), ?_⟩
  refine ok_nm2 (fun v3 ev3 => ?_)
  have f2 : 0 ≤ (σ.1 32 p2.toNatClampNeg).toInt ∧ (σ.1 32 p2.toNatClampNeg).toInt ≤ 31 := hIσ 32 _
  have qv3 : v3.toInt = (σ.1 32 p2.toNatClampNeg).toInt := by rw [ev3]
  refine ok_nm2 (fun x4 ex4 => ?_)
  have qx4 : x4.toInt = v3.toInt := by rw [ex4]
  refine ok_ite.mpr ⟨fun h_3 => ?_, fun h_3 => ?_⟩
  · have g4 : x2.toInt = x4.toInt := by rw [h_3]
    refine ok_some.mpr ?_
    have l_0 : (0 : Int32).toInt = 0 := by decide
    exact ⟨hIσ, hfσ, (show 0 ≤ (0 : Int32).toInt by omega), (show (0 : Int32).toInt ≤ 1 by omega)⟩
  · have g5 : x2.toInt ≠ x4.toInt := fun z => h_3 (Int32.toInt_inj.mp z)
    refine ok_nm2 (fun x6 ex6 => ?_)
    have l_0 : (0 : Int32).toInt = 0 := by decide
    have qx6 : x6.toInt = 0 := by rw [ex6]; decide
    refine ok_lpc (I := fun n s => n = (32 + 1 - s.1.toInt).toNat ∧ IM s.2 ∧ Fr fr_fX10_joins σ s.2 ∧ 0 ≤ s.1.toInt ∧ s.1.toInt ≤ 32) (fun rec26_310306r n_310306 s_310306 hs_310306 hrec_310306 => ?_) K9 _ _ ⟨rfl, hIσ, hfσ, (by (try dsimp only); omega), (by (try dsimp only); omega)⟩ (by unfold K9; (try dsimp only); omega)
    obtain ⟨a5_310306, σ1_310306⟩ := s_310306
    obtain ⟨hn_310306, hIσ1_310306, hfσ1_310306, b0a5_310306, b1a5_310306⟩ := hs_310306
    dsimp only at hn_310306 hIσ1_310306 hfσ1_310306 b0a5_310306 b1a5_310306
    unfold bX10_joins_26
    try dsimp only
    refine ok_ite.mpr ⟨fun h_6 => ?_, fun h_6 => ?_⟩
    · have l_32 : (32 : Int32).toInt = 32 := by decide
      have g7 : (32 : Int32).toInt ≤ a5_310306.toInt := Int32.le_iff_toInt_le.mp h_6
      refine ok_some.mpr ?_
      have l_1 : (1 : Int32).toInt = 1 := by decide
      exact ⟨hIσ1_310306, hfσ1_310306, (show 0 ≤ (1 : Int32).toInt by omega), (show (1 : Int32).toInt ≤ 1 by omega)⟩
    · have l_32 : (32 : Int32).toInt = 32 := by decide
      have g8 : ¬ (32 : Int32).toInt ≤ a5_310306.toInt := fun z => h_6 (Int32.le_iff_toInt_le.mpr z)
      refine ok_gd.mpr ⟨gb_of (by omega) (by omega), ?_⟩
      refine ok_nm2 (fun v8_310307 ev8_310307 => ?_)
      have f9 : 0 ≤ (σ1_310306.1 32 a5_310306.toNatClampNeg).toInt ∧ (σ1_310306.1 32 a5_310306.toNatClampNeg).toInt ≤ 31 := hIσ1_310306 32 _
      have qv8_310307 : v8_310307.toInt = (σ1_310306.1 32 a5_310306.toNatClampNeg).toInt := by rw [ev8_310307]
      refine ok_ite.mpr ⟨fun h_10 => ?_, fun h_10 => ?_⟩
      · have g11 : v8_310307.toInt = x4.toInt := by rw [h_10]
        refine ok_gd.mpr ⟨gb_of (by omega) (by omega), ?_⟩
        refine ok_nm2 (fun σ11_310307 eσ11_310307 => ?_)
        have hIσ11_310307 : IM σ11_310307 := by rw [eσ11_310307]; exact IM_w hIσ1_310306 (show 0 ≤ _ by omega) (show _ ≤ 31 by omega)
        have hfσ11_310307 : Fr fr_fX10_joins σ σ11_310307 := by rw [eσ11_310307]; exact Fr_w0 hfσ1_310306 (by decide)
        refine ok_nm2 (fun x12_310307 ex12_310307 => ?_)
        have l_1 : (1 : Int32).toInt = 1 := by decide
        have f12 : (a5_310306 + (1 : Int32)).toInt = a5_310306.toInt + (1 : Int32).toInt := iadd_toInt (by omega) (by omega)
        have qx12_310307 : x12_310307.toInt = (a5_310306 + 1).toInt := by rw [ex12_310307]
        exact hrec_310306 _ (x12_310307, σ11_310307) (show (32 + 1 - x12_310307.toInt).toNat < n_310306 by omega) ⟨rfl, hIσ11_310307, hfσ11_310307, (show 0 ≤ x12_310307.toInt by omega), (show x12_310307.toInt ≤ 32 by omega)⟩
      · have g13 : v8_310307.toInt ≠ x4.toInt := fun z => h_10 (Int32.toInt_inj.mp z)
        refine ok_nm2 (fun x10_310307 ex10_310307 => ?_)
        have l_1 : (1 : Int32).toInt = 1 := by decide
        have f14 : (a5_310306 + (1 : Int32)).toInt = a5_310306.toInt + (1 : Int32).toInt := iadd_toInt (by omega) (by omega)
        have qx10_310307 : x10_310307.toInt = (a5_310306 + 1).toInt := by rw [ex10_310307]
        exact hrec_310306 _ (x10_310307, σ1_310306) (show (32 + 1 - x10_310307.toInt).toNat < n_310306 by omega) ⟨rfl, hIσ1_310306, hfσ1_310306, (show 0 ≤ x10_310307.toInt by omega), (show x10_310307.toInt ≤ 32 by omega)⟩
set_option maxRecDepth 20000 in
set_option maxHeartbeats 2000000 in
theorem o_fX10_hangs {σ : gS} (hIσ : IM σ)   : Ok (fX10_hangs σ ) (fun out => IM out ∧ Fr fr_fX10_hangs σ out) := by
  unfold fX10_hangs
  have hfσ : Fr fr_fX10_hangs σ σ := Fr_r
  refine ok_nm2 (fun x1 ex1 => ?_)
  have l_0 : (0 : Int32).toInt = 0 := by decide
  have qx1 : x1.toInt = 0 := by rw [ex1]; decide
  refine ok_lpc (I := fun n s => n = (32 + 1 - s.1.toInt).toNat ∧ IM s.2 ∧ Fr fr_fX10_hangs σ s.2 ∧ 0 ≤ s.1.toInt ∧ s.1.toInt ≤ 32) (fun rec2_310308r n_310308 s_310308 hs_310308 hrec_310308 => ?_) K9 _ _ ⟨rfl, hIσ, hfσ, (by (try dsimp only); omega), (by (try dsimp only); omega)⟩ (by unfold K9; (try dsimp only); omega)
  obtain ⟨a1_310308, σ1_310308⟩ := s_310308
  obtain ⟨hn_310308, hIσ1_310308, hfσ1_310308, b0a1_310308, b1a1_310308⟩ := hs_310308
  dsimp only at hn_310308 hIσ1_310308 hfσ1_310308 b0a1_310308 b1a1_310308
  unfold bX10_hangs_2
  try dsimp only
  refine ok_ite.mpr ⟨fun h_1 => ?_, fun h_1 => ?_⟩
  · have l_32 : (32 : Int32).toInt = 32 := by decide
    have g2 : (32 : Int32).toInt ≤ a1_310308.toInt := Int32.le_iff_toInt_le.mp h_1
    refine ok_nm2 (fun x3_310412 ex3_310412 => ?_)
    have qx3_310412 : x3_310412.toInt = 0 := by rw [ex3_310412]; decide
    refine ok_nm2 (fun x4_310412 ex4_310412 => ?_)
    have qx4_310412 : x4_310412.toInt = 0 := by rw [ex4_310412]; decide
    refine ok_lpc (I := fun n s => n = (60 + 1 - s.1.toInt).toNat ∧ IM s.2 ∧ Fr fr_fX10_hangs σ s.2 ∧ 0 ≤ s.1.toInt ∧ s.1.toInt ≤ 60) (fun rec25_310413r n_310413 s_310413 hs_310413 hrec_310413 => ?_) K9 _ _ ⟨rfl, hIσ1_310308, hfσ1_310308, (by (try dsimp only); omega), (by (try dsimp only); omega)⟩ (by unfold K9; (try dsimp only); omega)
    obtain ⟨a2_310413, σ1_310413⟩ := s_310413
    obtain ⟨hn_310413, hIσ1_310413, hfσ1_310413, b0a2_310413, b1a2_310413⟩ := hs_310413
    dsimp only at hn_310413 hIσ1_310413 hfσ1_310413 b0a2_310413 b1a2_310413
    unfold bX10_hangs_25
    try dsimp only
    refine ok_bd.mpr ?_
    try unfold fX10_rows
    have l_9 : (9 : Int32).toInt = 9 := by decide
    refine ok_gd.mpr ⟨gb_of (by omega) (by omega), ?_⟩
    refine ok_nm2 (fun v1_310518 ev1_310518 => ?_)
    have f3 : 0 ≤ (σ1_310413.1 15 (9 : Int32).toNatClampNeg).toInt ∧ (σ1_310413.1 15 (9 : Int32).toNatClampNeg).toInt ≤ 60 := hIσ1_310413 15 _
    have qv1_310518 : v1_310518.toInt = (σ1_310413.1 15 (9 : Int32).toNatClampNeg).toInt := by rw [ev1_310518]
    refine ok_some.mpr ?_
    refine ok_ite.mpr ⟨fun h_4 => ?_, fun h_4 => ?_⟩
    · have g5 : v1_310518.toInt ≤ a2_310413.toInt := Int32.le_iff_toInt_le.mp h_4
      refine ok_nm2 (fun x8_310517_310519 ex8_310517_310519 => ?_)
      have qx8_310517_310519 : x8_310517_310519.toInt = 0 := by rw [ex8_310517_310519]; decide
      refine ok_lpc (I := fun n s => n = (12 + 1 - s.1.toInt).toNat ∧ IM s.2 ∧ Fr fr_fX10_hangs σ s.2 ∧ 0 ≤ s.1.toInt ∧ s.1.toInt ≤ 12) (fun rec72_310520r n_310520 s_310520 hs_310520 hrec_310520 => ?_) K9 _ _ ⟨rfl, hIσ1_310413, hfσ1_310413, (by (try dsimp only); omega), (by (try dsimp only); omega)⟩ (by unfold K9; (try dsimp only); omega)
      obtain ⟨a2_310520, σ1_310520⟩ := s_310520
      obtain ⟨hn_310520, hIσ1_310520, hfσ1_310520, b0a2_310520, b1a2_310520⟩ := hs_310520
      dsimp only at hn_310520 hIσ1_310520 hfσ1_310520 b0a2_310520 b1a2_310520
      unfold bX10_hangs_72
      try dsimp only
      refine ok_bd.mpr ?_
      try unfold fX10_pictures
      have l_7 : (7 : Int32).toInt = 7 := by decide
      refine ok_gd.mpr ⟨gb_of (by omega) (by omega), ?_⟩
      refine ok_nm2 (fun v1_310597 ev1_310597 => ?_)
      have f6 : 0 ≤ (σ1_310520.1 15 (7 : Int32).toNatClampNeg).toInt ∧ (σ1_310520.1 15 (7 : Int32).toNatClampNeg).toInt ≤ 12 := hIσ1_310520 15 _
      have qv1_310597 : v1_310597.toInt = (σ1_310520.1 15 (7 : Int32).toNatClampNeg).toInt := by rw [ev1_310597]
      refine ok_some.mpr ?_
      refine ok_ite.mpr ⟨fun h_7 => ?_, fun h_7 => ?_⟩
      · have g8 : v1_310597.toInt ≤ a2_310520.toInt := Int32.le_iff_toInt_le.mp h_7
        refine ok_some.mpr ?_
        exact ⟨hIσ1_310520, hfσ1_310520⟩
      · have g9 : ¬ v1_310597.toInt ≤ a2_310520.toInt := fun z => h_7 (Int32.le_iff_toInt_le.mpr z)
        refine ok_nm2 (fun x12_310594_310598 ex12_310594_310598 => ?_)
        have qx12_310594_310598 : x12_310594_310598.toInt = 0 := by rw [ex12_310594_310598]; decide
        refine ok_lpc (I := fun n s => n = (12 + 1 - s.1.toInt).toNat ∧ IM s.2 ∧ Fr fr_fX10_hangs σ s.2 ∧ 0 ≤ s.1.toInt ∧ s.1.toInt ≤ 12) (fun rec82_310599r n_310599 s_310599 hs_310599 hrec_310599 => ?_) K9 _ _ ⟨rfl, hIσ1_310520, hfσ1_310520, (by (try dsimp only); omega), (by (try dsimp only); omega)⟩ (by unfold K9; (try dsimp only); omega)
        obtain ⟨a3_310599, σ1_310599⟩ := s_310599
        obtain ⟨hn_310599, hIσ1_310599, hfσ1_310599, b0a3_310599, b1a3_310599⟩ := hs_310599
        dsimp only at hn_310599 hIσ1_310599 hfσ1_310599 b0a3_310599 b1a3_310599
        unfold bX10_hangs_82
        try dsimp only
        refine ok_ite.mpr ⟨fun h_10 => ?_, fun h_10 => ?_⟩
        · have g11 : a2_310520.toInt ≤ a3_310599.toInt := Int32.le_iff_toInt_le.mp h_10
          refine ok_nm2 (fun x14_310620 ex14_310620 => ?_)
          have l_1 : (1 : Int32).toInt = 1 := by decide
          have f12 : (a2_310520 + (1 : Int32)).toInt = a2_310520.toInt + (1 : Int32).toInt := iadd_toInt (by omega) (by omega)
          have qx14_310620 : x14_310620.toInt = (a2_310520 + 1).toInt := by rw [ex14_310620]
          exact hrec_310520 _ (x14_310620, σ1_310599) (show (12 + 1 - x14_310620.toInt).toNat < n_310520 by omega) ⟨rfl, hIσ1_310599, hfσ1_310599, (show 0 ≤ x14_310620.toInt by omega), (show x14_310620.toInt ≤ 12 by omega)⟩
        · have g13 : ¬ a2_310520.toInt ≤ a3_310599.toInt := fun z => h_10 (Int32.le_iff_toInt_le.mpr z)
          refine ok_bd.mpr ?_
          try unfold fX10_centreOf
          have l_12 : (12 : Int32).toInt = 12 := by decide
          have f14 : ((12 : Int32) + a2_310520).toInt = (12 : Int32).toInt + a2_310520.toInt := iadd_toInt (by omega) (by omega)
          refine ok_gd.mpr ⟨gb_of (by omega) (by omega), ?_⟩
          refine ok_nm2 (fun v1_310621 ev1_310621 => ?_)
          have f15 : 0 ≤ (σ1_310599.1 18 (12 + a2_310520).toNatClampNeg).toInt ∧ (σ1_310599.1 18 (12 + a2_310520).toNatClampNeg).toInt ≤ 9 := hIσ1_310599 18 _
          have qv1_310621 : v1_310621.toInt = (σ1_310599.1 18 (12 + a2_310520).toNatClampNeg).toInt := by rw [ev1_310621]
          refine ok_some.mpr ?_
          refine ok_ite.mpr ⟨fun h_16 => ?_, fun h_16 => ?_⟩
          · have g17 : v1_310621.toInt ≤ (0 : Int32).toInt := Int32.le_iff_toInt_le.mp h_16
            refine ok_nm2 (fun x18_310620_310622 ex18_310620_310622 => ?_)
            have l_1 : (1 : Int32).toInt = 1 := by decide
            have f18 : (a3_310599 + (1 : Int32)).toInt = a3_310599.toInt + (1 : Int32).toInt := iadd_toInt (by omega) (by omega)
            have qx18_310620_310622 : x18_310620_310622.toInt = (a3_310599 + 1).toInt := by rw [ex18_310620_310622]
            exact hrec_310599 _ (x18_310620_310622, σ1_310599) (show (12 + 1 - x18_310620_310622.toInt).toNat < n_310599 by omega) ⟨rfl, hIσ1_310599, hfσ1_310599, (show 0 ≤ x18_310620_310622.toInt by omega), (show x18_310620_310622.toInt ≤ 12 by omega)⟩
          · have g19 : ¬ v1_310621.toInt ≤ (0 : Int32).toInt := fun z => h_16 (Int32.le_iff_toInt_le.mpr z)
            refine ok_bd.mpr ?_
            try unfold fX10_centreOf
            have f20 : ((12 : Int32) + a3_310599).toInt = (12 : Int32).toInt + a3_310599.toInt := iadd_toInt (by omega) (by omega)
            refine ok_gd.mpr ⟨gb_of (by omega) (by omega), ?_⟩
            refine ok_nm2 (fun v1_310623 ev1_310623 => ?_)
            have f21 : 0 ≤ (σ1_310599.1 18 (12 + a3_310599).toNatClampNeg).toInt ∧ (σ1_310599.1 18 (12 + a3_310599).toNatClampNeg).toInt ≤ 9 := hIσ1_310599 18 _
            have qv1_310623 : v1_310623.toInt = (σ1_310599.1 18 (12 + a3_310599).toNatClampNeg).toInt := by rw [ev1_310623]
            refine ok_some.mpr ?_
            refine ok_ite.mpr ⟨fun h_22 => ?_, fun h_22 => ?_⟩
            · have g23 : v1_310623.toInt ≤ (0 : Int32).toInt := Int32.le_iff_toInt_le.mp h_22
              refine ok_nm2 (fun x22_310620_310622_310624 ex22_310620_310622_310624 => ?_)
              have l_1 : (1 : Int32).toInt = 1 := by decide
              have f24 : (a3_310599 + (1 : Int32)).toInt = a3_310599.toInt + (1 : Int32).toInt := iadd_toInt (by omega) (by omega)
              have qx22_310620_310622_310624 : x22_310620_310622_310624.toInt = (a3_310599 + 1).toInt := by rw [ex22_310620_310622_310624]
              exact hrec_310599 _ (x22_310620_310622_310624, σ1_310599) (show (12 + 1 - x22_310620_310622_310624.toInt).toNat < n_310599 by omega) ⟨rfl, hIσ1_310599, hfσ1_310599, (show 0 ≤ x22_310620_310622_310624.toInt by omega), (show x22_310620_310622_310624.toInt ≤ 12 by omega)⟩
            · have g25 : ¬ v1_310623.toInt ≤ (0 : Int32).toInt := fun z => h_22 (Int32.le_iff_toInt_le.mpr z)
              refine ok_bd.mpr ?_
              try unfold fX10_strip
              refine ok_gd.mpr ⟨gb_of (by omega) (by omega), ?_⟩
              refine ok_nm2 (fun v1_310625 ev1_310625 => ?_)
              have f26 : 0 ≤ (σ1_310599.1 16 (12 + a2_310520).toNatClampNeg).toInt ∧ (σ1_310599.1 16 (12 + a2_310520).toNatClampNeg).toInt ≤ 5 := hIσ1_310599 16 _
              have qv1_310625 : v1_310625.toInt = (σ1_310599.1 16 (12 + a2_310520).toNatClampNeg).toInt := by rw [ev1_310625]
              refine ok_some.mpr ?_
              refine ok_bd.mpr ?_
              try unfold fX10_strip
              refine ok_gd.mpr ⟨gb_of (by omega) (by omega), ?_⟩
              refine ok_nm2 (fun v1_310627 ev1_310627 => ?_)
              have f27 : 0 ≤ (σ1_310599.1 16 (12 + a3_310599).toNatClampNeg).toInt ∧ (σ1_310599.1 16 (12 + a3_310599).toNatClampNeg).toInt ≤ 5 := hIσ1_310599 16 _
              have qv1_310627 : v1_310627.toInt = (σ1_310599.1 16 (12 + a3_310599).toNatClampNeg).toInt := by rw [ev1_310627]
              refine ok_some.mpr ?_
              refine ok_ite.mpr ⟨fun h_28 => ?_, fun h_28 => ?_⟩
              · have g29 : v1_310625.toInt = v1_310627.toInt := by rw [h_28]
                refine ok_bd2.mpr ((o_fX10_joins hIσ1_310599 (by omega) (by omega) (by omega) (by omega)).mono (fun o_30 ho_31 => ?_))
                obtain ⟨r30_310620_310622_310624_310626_310628, σ31_310620_310622_310624_310626_310628⟩ := o_30
                obtain ⟨hIσ31_310620_310622_310624_310626_310628, hcσ31_310620_310622_310624_310626_310628, r0r30_310620_310622_310624_310626_310628, r1r30_310620_310622_310624_310626_310628⟩ := ho_31
                dsimp only at hIσ31_310620_310622_310624_310626_310628 hcσ31_310620_310622_310624_310626_310628 r0r30_310620_310622_310624_310626_310628 r1r30_310620_310622_310624_310626_310628 ⊢
                have hfσ31_310620_310622_310624_310626_310628 : Fr fr_fX10_hangs σ σ31_310620_310622_310624_310626_310628 := Fr_c hfσ1_310599 hcσ31_310620_310622_310624_310626_310628 (by decide)
                refine ok_ite.mpr ⟨fun h_32 => ?_, fun h_32 => ?_⟩
                · have g33 : r30_310620_310622_310624_310626_310628.toInt = (0 : Int32).toInt := by rw [h_32]
                  refine ok_nm2 (fun x33_310620_310622_310624_310626_310628 ex33_310620_310622_310624_310626_310628 => ?_)
                  have l_1 : (1 : Int32).toInt = 1 := by decide
                  have f34 : (a3_310599 + (1 : Int32)).toInt = a3_310599.toInt + (1 : Int32).toInt := iadd_toInt (by omega) (by omega)
                  have qx33_310620_310622_310624_310626_310628 : x33_310620_310622_310624_310626_310628.toInt = (a3_310599 + 1).toInt := by rw [ex33_310620_310622_310624_310626_310628]
                  exact hrec_310599 _ (x33_310620_310622_310624_310626_310628, σ31_310620_310622_310624_310626_310628) (show (12 + 1 - x33_310620_310622_310624_310626_310628.toInt).toNat < n_310599 by omega) ⟨rfl, hIσ31_310620_310622_310624_310626_310628, hfσ31_310620_310622_310624_310626_310628, (show 0 ≤ x33_310620_310622_310624_310626_310628.toInt by omega), (show x33_310620_310622_310624_310626_310628.toInt ≤ 12 by omega)⟩
                · have g35 : r30_310620_310622_310624_310626_310628.toInt ≠ (0 : Int32).toInt := fun z => h_32 (Int32.toInt_inj.mp z)
                  refine ok_nm2 (fun x34_310620_310622_310624_310626_310628 ex34_310620_310622_310624_310626_310628 => ?_)
                  have l_1 : (1 : Int32).toInt = 1 := by decide
                  have qx34_310620_310622_310624_310626_310628 : x34_310620_310622_310624_310626_310628.toInt = 1 := by rw [ex34_310620_310622_310624_310626_310628]; decide
                  refine ok_nm2 (fun x35_310620_310622_310624_310626_310628 ex35_310620_310622_310624_310626_310628 => ?_)
                  have f36 : (a3_310599 + (1 : Int32)).toInt = a3_310599.toInt + (1 : Int32).toInt := iadd_toInt (by omega) (by omega)
                  have qx35_310620_310622_310624_310626_310628 : x35_310620_310622_310624_310626_310628.toInt = (a3_310599 + 1).toInt := by rw [ex35_310620_310622_310624_310626_310628]
                  exact hrec_310599 _ (x35_310620_310622_310624_310626_310628, σ31_310620_310622_310624_310626_310628) (show (12 + 1 - x35_310620_310622_310624_310626_310628.toInt).toNat < n_310599 by omega) ⟨rfl, hIσ31_310620_310622_310624_310626_310628, hfσ31_310620_310622_310624_310626_310628, (show 0 ≤ x35_310620_310622_310624_310626_310628.toInt by omega), (show x35_310620_310622_310624_310626_310628.toInt ≤ 12 by omega)⟩
              · have g37 : v1_310625.toInt ≠ v1_310627.toInt := fun z => h_28 (Int32.toInt_inj.mp z)
                refine ok_nm2 (fun x28_310620_310622_310624_310626_310628 ex28_310620_310622_310624_310626_310628 => ?_)
                have l_1 : (1 : Int32).toInt = 1 := by decide
                have f38 : (a3_310599 + (1 : Int32)).toInt = a3_310599.toInt + (1 : Int32).toInt := iadd_toInt (by omega) (by omega)
                have qx28_310620_310622_310624_310626_310628 : x28_310620_310622_310624_310626_310628.toInt = (a3_310599 + 1).toInt := by rw [ex28_310620_310622_310624_310626_310628]
                exact hrec_310599 _ (x28_310620_310622_310624_310626_310628, σ1_310599) (show (12 + 1 - x28_310620_310622_310624_310626_310628.toInt).toNat < n_310599 by omega) ⟨rfl, hIσ1_310599, hfσ1_310599, (show 0 ≤ x28_310620_310622_310624_310626_310628.toInt by omega), (show x28_310620_310622_310624_310626_310628.toInt ≤ 12 by omega)⟩
    · have g39 : ¬ v1_310518.toInt ≤ a2_310413.toInt := fun z => h_4 (Int32.le_iff_toInt_le.mpr z)
      refine ok_gd.mpr ⟨gb_of (by omega) (by omega), ?_⟩
      refine ok_nm2 (fun v36_310517_310519 ev36_310517_310519 => ?_)
      have f40 : 0 ≤ (σ1_310413.1 26 a2_310413.toNatClampNeg).toInt ∧ (σ1_310413.1 26 a2_310413.toNatClampNeg).toInt ≤ 1 := hIσ1_310413 26 _
      have qv36_310517_310519 : v36_310517_310519.toInt = (σ1_310413.1 26 a2_310413.toNatClampNeg).toInt := by rw [ev36_310517_310519]
      refine ok_ite.mpr ⟨fun h_41 => ?_, fun h_41 => ?_⟩
      · have g42 : v36_310517_310519.toInt = (0 : Int32).toInt := by rw [h_41]
        refine ok_bd.mpr ?_
        try unfold fX10_pictureOf
        have l_60 : (60 : Int32).toInt = 60 := by decide
        have f43 : ((60 : Int32) + a2_310413).toInt = (60 : Int32).toInt + a2_310413.toInt := iadd_toInt (by omega) (by omega)
        refine ok_gd.mpr ⟨gb_of (by omega) (by omega), ?_⟩
        refine ok_nm2 (fun v1_310629 ev1_310629 => ?_)
        have f44 : 0 ≤ (σ1_310413.1 22 (60 + a2_310413).toNatClampNeg).toInt ∧ (σ1_310413.1 22 (60 + a2_310413).toNatClampNeg).toInt ≤ 11 := hIσ1_310413 22 _
        have qv1_310629 : v1_310629.toInt = (σ1_310413.1 22 (60 + a2_310413).toNatClampNeg).toInt := by rw [ev1_310629]
        refine ok_some.mpr ?_
        refine ok_bd.mpr ?_
        try unfold fX10_pointOf
        refine ok_gd.mpr ⟨gb_of (by omega) (by omega), ?_⟩
        refine ok_nm2 (fun v1_310631 ev1_310631 => ?_)
        have f45 : 0 ≤ (σ1_310413.1 23 (60 + a2_310413).toNatClampNeg).toInt ∧ (σ1_310413.1 23 (60 + a2_310413).toNatClampNeg).toInt ≤ 19 := hIσ1_310413 23 _
        have qv1_310631 : v1_310631.toInt = (σ1_310413.1 23 (60 + a2_310413).toNatClampNeg).toInt := by rw [ev1_310631]
        refine ok_some.mpr ?_
        have l_12 : (12 : Int32).toInt = 12 := by decide
        have f46 : ((12 : Int32) + v1_310631).toInt = (12 : Int32).toInt + v1_310631.toInt := iadd_toInt (by omega) (by omega)
        refine ok_bd2.mpr ((o_fX10_joins hIσ1_310413 (by omega) (by omega) (by omega) (by omega)).mono (fun o_47 ho_48 => ?_))
        obtain ⟨r44_310517_310519_310630_310632, σ45_310517_310519_310630_310632⟩ := o_47
        obtain ⟨hIσ45_310517_310519_310630_310632, hcσ45_310517_310519_310630_310632, r0r44_310517_310519_310630_310632, r1r44_310517_310519_310630_310632⟩ := ho_48
        dsimp only at hIσ45_310517_310519_310630_310632 hcσ45_310517_310519_310630_310632 r0r44_310517_310519_310630_310632 r1r44_310517_310519_310630_310632 ⊢
        have hfσ45_310517_310519_310630_310632 : Fr fr_fX10_hangs σ σ45_310517_310519_310630_310632 := Fr_c hfσ1_310413 hcσ45_310517_310519_310630_310632 (by decide)
        refine ok_ite.mpr ⟨fun h_49 => ?_, fun h_49 => ?_⟩
        · have g50 : r44_310517_310519_310630_310632.toInt = (0 : Int32).toInt := by rw [h_49]
          refine ok_nm2 (fun x47_310517_310519_310630_310632 ex47_310517_310519_310630_310632 => ?_)
          have l_1 : (1 : Int32).toInt = 1 := by decide
          have f51 : (a2_310413 + (1 : Int32)).toInt = a2_310413.toInt + (1 : Int32).toInt := iadd_toInt (by omega) (by omega)
          have qx47_310517_310519_310630_310632 : x47_310517_310519_310630_310632.toInt = (a2_310413 + 1).toInt := by rw [ex47_310517_310519_310630_310632]
          exact hrec_310413 _ (x47_310517_310519_310630_310632, σ45_310517_310519_310630_310632) (show (60 + 1 - x47_310517_310519_310630_310632.toInt).toNat < n_310413 by omega) ⟨rfl, hIσ45_310517_310519_310630_310632, hfσ45_310517_310519_310630_310632, (show 0 ≤ x47_310517_310519_310630_310632.toInt by omega), (show x47_310517_310519_310630_310632.toInt ≤ 60 by omega)⟩
        · have g52 : r44_310517_310519_310630_310632.toInt ≠ (0 : Int32).toInt := fun z => h_49 (Int32.toInt_inj.mp z)
          refine ok_nm2 (fun x48_310517_310519_310630_310632 ex48_310517_310519_310630_310632 => ?_)
          have l_1 : (1 : Int32).toInt = 1 := by decide
          have qx48_310517_310519_310630_310632 : x48_310517_310519_310630_310632.toInt = 1 := by rw [ex48_310517_310519_310630_310632]; decide
          refine ok_nm2 (fun x49_310517_310519_310630_310632 ex49_310517_310519_310630_310632 => ?_)
          have f53 : (a2_310413 + (1 : Int32)).toInt = a2_310413.toInt + (1 : Int32).toInt := iadd_toInt (by omega) (by omega)
          have qx49_310517_310519_310630_310632 : x49_310517_310519_310630_310632.toInt = (a2_310413 + 1).toInt := by rw [ex49_310517_310519_310630_310632]
          exact hrec_310413 _ (x49_310517_310519_310630_310632, σ45_310517_310519_310630_310632) (show (60 + 1 - x49_310517_310519_310630_310632.toInt).toNat < n_310413 by omega) ⟨rfl, hIσ45_310517_310519_310630_310632, hfσ45_310517_310519_310630_310632, (show 0 ≤ x49_310517_310519_310630_310632.toInt by omega), (show x49_310517_310519_310630_310632.toInt ≤ 60 by omega)⟩
      · have g54 : v36_310517_310519.toInt ≠ (0 : Int32).toInt := fun z => h_41 (Int32.toInt_inj.mp z)
        refine ok_nm2 (fun x38_310517_310519 ex38_310517_310519 => ?_)
        have l_1 : (1 : Int32).toInt = 1 := by decide
        have f55 : (a2_310413 + (1 : Int32)).toInt = a2_310413.toInt + (1 : Int32).toInt := iadd_toInt (by omega) (by omega)
        have qx38_310517_310519 : x38_310517_310519.toInt = (a2_310413 + 1).toInt := by rw [ex38_310517_310519]
        exact hrec_310413 _ (x38_310517_310519, σ1_310413) (show (60 + 1 - x38_310517_310519.toInt).toNat < n_310413 by omega) ⟨rfl, hIσ1_310413, hfσ1_310413, (show 0 ≤ x38_310517_310519.toInt by omega), (show x38_310517_310519.toInt ≤ 60 by omega)⟩
  · have l_32 : (32 : Int32).toInt = 32 := by decide
    have g56 : ¬ (32 : Int32).toInt ≤ a1_310308.toInt := fun z => h_1 (Int32.le_iff_toInt_le.mpr z)
    refine ok_gd.mpr ⟨gb_of (by omega) (by omega), ?_⟩
    refine ok_nm2 (fun σ50_310412 eσ50_310412 => ?_)
    have hIσ50_310412 : IM σ50_310412 := by rw [eσ50_310412]; exact IM_w hIσ1_310308 (show 0 ≤ _ by omega) (show _ ≤ 31 by omega)
    have hfσ50_310412 : Fr fr_fX10_hangs σ σ50_310412 := by rw [eσ50_310412]; exact Fr_w0 hfσ1_310308 (by decide)
    refine ok_nm2 (fun x51_310412 ex51_310412 => ?_)
    have l_1 : (1 : Int32).toInt = 1 := by decide
    have f57 : (a1_310308 + (1 : Int32)).toInt = a1_310308.toInt + (1 : Int32).toInt := iadd_toInt (by omega) (by omega)
    have qx51_310412 : x51_310412.toInt = (a1_310308 + 1).toInt := by rw [ex51_310412]
    exact hrec_310308 _ (x51_310412, σ50_310412) (show (32 + 1 - x51_310412.toInt).toNat < n_310308 by omega) ⟨rfl, hIσ50_310412, hfσ50_310412, (show 0 ≤ x51_310412.toInt by omega), (show x51_310412.toInt ≤ 32 by omega)⟩
set_option maxRecDepth 20000 in
set_option maxHeartbeats 2000000 in
theorem o_fX10_isLoose {σ : gS} (hIσ : IM σ) {p1 : Int32} (h0p1 : 0 ≤ p1.toInt) (h1p1 : p1.toInt ≤ 31) : Ok (fX10_isLoose σ p1) (fun out => 0 ≤ out.toInt ∧ out.toInt ≤ 1) := by
  unfold fX10_isLoose
  have hfσ : Fr fr_fX10_isLoose σ σ := Fr_r
  refine ok_nm2 (fun x1 ex1 => ?_)
  have l_0 : (0 : Int32).toInt = 0 := by decide
  have qx1 : x1.toInt = 0 := by rw [ex1]; decide
  refine ok_lpc (I := fun n s => n = (20 + 1 - s.toInt).toNat ∧ 0 ≤ s.toInt ∧ s.toInt ≤ 20) (fun rec2_310633r n_310633 s_310633 hs_310633 hrec_310633 => ?_) K9 _ _ ⟨rfl, (by (try dsimp only); omega), (by (try dsimp only); omega)⟩ (by unfold K9; (try dsimp only); omega)
  obtain ⟨a2_310633, hq_310633⟩ : ∃ y, y = s_310633 := ⟨_, rfl⟩
  subst hq_310633
  obtain ⟨hn_310633, b0a2_310633, b1a2_310633⟩ := hs_310633
  skip
  unfold bX10_isLoose_2
  try dsimp only
  refine ok_bd.mpr ?_
  try unfold fX10_points
  have l_8 : (8 : Int32).toInt = 8 := by decide
  refine ok_gd.mpr ⟨gb_of (by omega) (by omega), ?_⟩
  refine ok_nm2 (fun v1_310647 ev1_310647 => ?_)
  have f1 : 0 ≤ (σ.1 15 (8 : Int32).toNatClampNeg).toInt ∧ (σ.1 15 (8 : Int32).toNatClampNeg).toInt ≤ 20 := hIσ 15 _
  have qv1_310647 : v1_310647.toInt = (σ.1 15 (8 : Int32).toNatClampNeg).toInt := by rw [ev1_310647]
  refine ok_some.mpr ?_
  refine ok_ite.mpr ⟨fun h_2 => ?_, fun h_2 => ?_⟩
  · have g3 : v1_310647.toInt ≤ a2_310633.toInt := Int32.le_iff_toInt_le.mp h_2
    refine ok_some.mpr ?_
    have l_1 : (1 : Int32).toInt = 1 := by decide
    exact ⟨(show 0 ≤ (1 : Int32).toInt by omega), (show (1 : Int32).toInt ≤ 1 by omega)⟩
  · have g4 : ¬ v1_310647.toInt ≤ a2_310633.toInt := fun z => h_2 (Int32.le_iff_toInt_le.mpr z)
    refine ok_bd.mpr ?_
    try unfold fX10_isControl
    have l_20 : (20 : Int32).toInt = 20 := by decide
    have f5 : ((20 : Int32) + a2_310633).toInt = (20 : Int32).toInt + a2_310633.toInt := iadd_toInt (by omega) (by omega)
    refine ok_gd.mpr ⟨gb_of (by omega) (by omega), ?_⟩
    refine ok_nm2 (fun v1_310649 ev1_310649 => ?_)
    have f6 : 0 ≤ (σ.1 20 (20 + a2_310633).toNatClampNeg).toInt ∧ (σ.1 20 (20 + a2_310633).toNatClampNeg).toInt ≤ 2 := hIσ 20 _
    have qv1_310649 : v1_310649.toInt = (σ.1 20 (20 + a2_310633).toNatClampNeg).toInt := by rw [ev1_310649]
    refine ok_nm2 (fun x2_310649 ex2_310649 => ?_)
    have qx2_310649 : x2_310649.toInt = v1_310649.toInt := by rw [ex2_310649]
    refine ok_ite.mpr ⟨fun h_7 => ?_, fun h_7 => ?_⟩
    · have g8 : x2_310649.toInt = (0 : Int32).toInt := by rw [h_7]
      refine ok_some.mpr ?_
      refine ok_ite.mpr ⟨fun h_9 => ?_, fun h_9 => ?_⟩
      · have g10 : (0 : Int32).toInt = (0 : Int32).toInt := by rw [h_9]
        refine ok_nm2 (fun x8_310646_310648_310650 ex8_310646_310648_310650 => ?_)
        have l_1 : (1 : Int32).toInt = 1 := by decide
        have f11 : (a2_310633 + (1 : Int32)).toInt = a2_310633.toInt + (1 : Int32).toInt := iadd_toInt (by omega) (by omega)
        have qx8_310646_310648_310650 : x8_310646_310648_310650.toInt = (a2_310633 + 1).toInt := by rw [ex8_310646_310648_310650]
        exact hrec_310633 _ x8_310646_310648_310650 (show (20 + 1 - x8_310646_310648_310650.toInt).toNat < n_310633 by omega) ⟨rfl, (show 0 ≤ x8_310646_310648_310650.toInt by omega), (show x8_310646_310648_310650.toInt ≤ 20 by omega)⟩
      · have g12 : (0 : Int32).toInt ≠ (0 : Int32).toInt := fun z => h_9 (Int32.toInt_inj.mp z)
        exfalso; omega
    · have g13 : x2_310649.toInt ≠ (0 : Int32).toInt := fun z => h_7 (Int32.toInt_inj.mp z)
      refine ok_ite.mpr ⟨fun h_14 => ?_, fun h_14 => ?_⟩
      · have l_1 : (1 : Int32).toInt = 1 := by decide
        have g15 : (((σ.1 0 36) >>> ((x2_310649 - 1) &&& 31)) &&& 1).toInt = (1 : Int32).toInt := by rw [h_14]
        refine ok_some.mpr ?_
        refine ok_ite.mpr ⟨fun h_16 => ?_, fun h_16 => ?_⟩
        · have g17 : (1 : Int32).toInt = (0 : Int32).toInt := by rw [h_16]
          exfalso; omega
        · have g18 : (1 : Int32).toInt ≠ (0 : Int32).toInt := fun z => h_16 (Int32.toInt_inj.mp z)
          have l_12 : (12 : Int32).toInt = 12 := by decide
          have f19 : ((12 : Int32) + a2_310633).toInt = (12 : Int32).toInt + a2_310633.toInt := iadd_toInt (by omega) (by omega)
          refine ok_gd.mpr ⟨gb_of (by omega) (by omega), ?_⟩
          refine ok_nm2 (fun v9_310646_310648_310651 ev9_310646_310648_310651 => ?_)
          have f20 : 0 ≤ (σ.1 32 (12 + a2_310633).toNatClampNeg).toInt ∧ (σ.1 32 (12 + a2_310633).toNatClampNeg).toInt ≤ 31 := hIσ 32 _
          have qv9_310646_310648_310651 : v9_310646_310648_310651.toInt = (σ.1 32 (12 + a2_310633).toNatClampNeg).toInt := by rw [ev9_310646_310648_310651]
          refine ok_gd.mpr ⟨gb_of (by omega) (by omega), ?_⟩
          refine ok_nm2 (fun v10_310646_310648_310651 ev10_310646_310648_310651 => ?_)
          have f21 : 0 ≤ (σ.1 32 p1.toNatClampNeg).toInt ∧ (σ.1 32 p1.toNatClampNeg).toInt ≤ 31 := hIσ 32 _
          have qv10_310646_310648_310651 : v10_310646_310648_310651.toInt = (σ.1 32 p1.toNatClampNeg).toInt := by rw [ev10_310646_310648_310651]
          refine ok_ite.mpr ⟨fun h_22 => ?_, fun h_22 => ?_⟩
          · have g23 : v9_310646_310648_310651.toInt = v10_310646_310648_310651.toInt := by rw [h_22]
            refine ok_some.mpr ?_
            exact ⟨(show 0 ≤ (0 : Int32).toInt by omega), (show (0 : Int32).toInt ≤ 1 by omega)⟩
          · have g24 : v9_310646_310648_310651.toInt ≠ v10_310646_310648_310651.toInt := fun z => h_22 (Int32.toInt_inj.mp z)
            refine ok_nm2 (fun x12_310646_310648_310651 ex12_310646_310648_310651 => ?_)
            have f25 : (a2_310633 + (1 : Int32)).toInt = a2_310633.toInt + (1 : Int32).toInt := iadd_toInt (by omega) (by omega)
            have qx12_310646_310648_310651 : x12_310646_310648_310651.toInt = (a2_310633 + 1).toInt := by rw [ex12_310646_310648_310651]
            exact hrec_310633 _ x12_310646_310648_310651 (show (20 + 1 - x12_310646_310648_310651.toInt).toNat < n_310633 by omega) ⟨rfl, (show 0 ≤ x12_310646_310648_310651.toInt by omega), (show x12_310646_310648_310651.toInt ≤ 20 by omega)⟩
      · have l_1 : (1 : Int32).toInt = 1 := by decide
        have g26 : (((σ.1 0 36) >>> ((x2_310649 - 1) &&& 31)) &&& 1).toInt ≠ (1 : Int32).toInt := fun z => h_14 (Int32.toInt_inj.mp z)
        refine ok_some.mpr ?_
        refine ok_ite.mpr ⟨fun h_27 => ?_, fun h_27 => ?_⟩
        · have g28 : (0 : Int32).toInt = (0 : Int32).toInt := by rw [h_27]
          refine ok_nm2 (fun x8_310646_310648_310652 ex8_310646_310648_310652 => ?_)
          have f29 : (a2_310633 + (1 : Int32)).toInt = a2_310633.toInt + (1 : Int32).toInt := iadd_toInt (by omega) (by omega)
          have qx8_310646_310648_310652 : x8_310646_310648_310652.toInt = (a2_310633 + 1).toInt := by rw [ex8_310646_310648_310652]
          exact hrec_310633 _ x8_310646_310648_310652 (show (20 + 1 - x8_310646_310648_310652.toInt).toNat < n_310633 by omega) ⟨rfl, (show 0 ≤ x8_310646_310648_310652.toInt by omega), (show x8_310646_310648_310652.toInt ≤ 20 by omega)⟩
        · have g30 : (0 : Int32).toInt ≠ (0 : Int32).toInt := fun z => h_27 (Int32.toInt_inj.mp z)
          exfalso; omega
set_option maxRecDepth 20000 in
set_option maxHeartbeats 2000000 in
theorem o_fX10_picture {σ : gS} (hIσ : IM σ) {p1 : Int32} {p2 : Int32}  : Ok (fX10_picture σ p1 p2) (fun out => IM out.2 ∧ Fr fr_fX10_picture σ out.2) := by
  unfold fX10_picture
  have hfσ : Fr fr_fX10_picture σ σ := Fr_r
  refine ok_bd.mpr ?_
  try unfold fX10_isPicture
  refine ok_bd.mpr ?_
  try unfold fX10_pictures
  have l_7 : (7 : Int32).toInt = 7 := by decide
  refine ok_gd.mpr ⟨gb_of (by omega) (by omega), ?_⟩
  refine ok_nm2 (fun v1_310654 ev1_310654 => ?_)
  have f1 : 0 ≤ (σ.1 15 (7 : Int32).toNatClampNeg).toInt ∧ (σ.1 15 (7 : Int32).toNatClampNeg).toInt ≤ 12 := hIσ 15 _
  have qv1_310654 : v1_310654.toInt = (σ.1 15 (7 : Int32).toNatClampNeg).toInt := by rw [ev1_310654]
  refine ok_some.mpr ?_
  refine ok_bd.mpr ?_
  try unfold fX10_isIn
  refine ok_ite.mpr ⟨fun h_2 => ?_, fun h_2 => ?_⟩
  · have t3 : p1.toInt64.toInt = p1.toInt := Int32.toInt_toInt64 _
    have t4 : (0 : Int64).toInt = 0 := by decide
    have g5 : p1.toInt64.toInt < (0 : Int64).toInt := Int64.lt_iff_toInt_lt.mp h_2
    refine ok_some.mpr ?_
    refine ok_some.mpr ?_
    refine ok_ite.mpr ⟨fun h_6 => ?_, fun h_6 => ?_⟩
    · have f7 : (vp_nar .boolean 0).toInt = 0 := by decide
      have l_0 : (0 : Int32).toInt = 0 := by decide
      have g8 : (vp_nar .boolean 0).toInt = (0 : Int32).toInt := by rw [h_6]
      refine ok_some.mpr ?_
      exact ⟨hIσ, hfσ⟩
    · have f9 : (vp_nar .boolean 0).toInt = 0 := by decide
      have l_0 : (0 : Int32).toInt = 0 := by decide
      have g10 : (vp_nar .boolean 0).toInt ≠ (0 : Int32).toInt := fun z => h_6 (Int32.toInt_inj.mp z)
      exfalso; omega
  · have t11 : p1.toInt64.toInt = p1.toInt := Int32.toInt_toInt64 _
    have t12 : (0 : Int64).toInt = 0 := by decide
    have g13 : ¬ p1.toInt64.toInt < (0 : Int64).toInt := fun z => h_2 (Int64.lt_iff_toInt_lt.mpr z)
    refine ok_ite.mpr ⟨fun h_14 => ?_, fun h_14 => ?_⟩
    · have l_1 : (1 : Int32).toInt = 1 := by decide
      have f15 : (v1_310654 - (1 : Int32)).toInt = v1_310654.toInt - (1 : Int32).toInt := isub_toInt (by omega) (by omega)
      have t16 : (v1_310654 - 1).toInt64.toInt = (v1_310654 - 1).toInt := Int32.toInt_toInt64 _
      have g17 : (v1_310654 - 1).toInt64.toInt < p1.toInt64.toInt := Int64.lt_iff_toInt_lt.mp h_14
      refine ok_some.mpr ?_
      refine ok_some.mpr ?_
      refine ok_ite.mpr ⟨fun h_18 => ?_, fun h_18 => ?_⟩
      · have f19 : (vp_nar .boolean 0).toInt = 0 := by decide
        have l_0 : (0 : Int32).toInt = 0 := by decide
        have g20 : (vp_nar .boolean 0).toInt = (0 : Int32).toInt := by rw [h_18]
        refine ok_some.mpr ?_
        exact ⟨hIσ, hfσ⟩
      · have f21 : (vp_nar .boolean 0).toInt = 0 := by decide
        have l_0 : (0 : Int32).toInt = 0 := by decide
        have g22 : (vp_nar .boolean 0).toInt ≠ (0 : Int32).toInt := fun z => h_18 (Int32.toInt_inj.mp z)
        exfalso; omega
    · have l_1 : (1 : Int32).toInt = 1 := by decide
      have f23 : (v1_310654 - (1 : Int32)).toInt = v1_310654.toInt - (1 : Int32).toInt := isub_toInt (by omega) (by omega)
      have t24 : (v1_310654 - 1).toInt64.toInt = (v1_310654 - 1).toInt := Int32.toInt_toInt64 _
      have g25 : ¬ (v1_310654 - 1).toInt64.toInt < p1.toInt64.toInt := fun z => h_14 (Int64.lt_iff_toInt_lt.mpr z)
      refine ok_some.mpr ?_
      refine ok_some.mpr ?_
      refine ok_ite.mpr ⟨fun h_26 => ?_, fun h_26 => ?_⟩
      · have f27 : (vp_nar .boolean 1).toInt = 1 := by decide
        have l_0 : (0 : Int32).toInt = 0 := by decide
        have g28 : (vp_nar .boolean 1).toInt = (0 : Int32).toInt := by rw [h_26]
        exfalso; omega
      · have f29 : (vp_nar .boolean 1).toInt = 1 := by decide
        have l_0 : (0 : Int32).toInt = 0 := by decide
        have g30 : (vp_nar .boolean 1).toInt ≠ (0 : Int32).toInt := fun z => h_26 (Int32.toInt_inj.mp z)
        refine ok_ite.mpr ⟨fun h_31 => ?_, fun h_31 => ?_⟩
        · have g32 : p2.toInt = (0 : Int32).toInt := by rw [h_31]
          refine ok_bd.mpr ?_
          try unfold fX10_strip
          have l_12 : (12 : Int32).toInt = 12 := by decide
          have f33 : ((12 : Int32) + p1).toInt = (12 : Int32).toInt + p1.toInt := iadd_toInt (by omega) (by omega)
          refine ok_gd.mpr ⟨gb_of (by omega) (by omega), ?_⟩
          refine ok_nm2 (fun v1_310663 ev1_310663 => ?_)
          have f34 : 0 ≤ (σ.1 16 (12 + p1).toNatClampNeg).toInt ∧ (σ.1 16 (12 + p1).toNatClampNeg).toInt ≤ 5 := hIσ 16 _
          have qv1_310663 : v1_310663.toInt = (σ.1 16 (12 + p1).toNatClampNeg).toInt := by rw [ev1_310663]
          refine ok_some.mpr ?_
          refine ok_some.mpr ?_
          exact ⟨hIσ, hfσ⟩
        · have g35 : p2.toInt ≠ (0 : Int32).toInt := fun z => h_31 (Int32.toInt_inj.mp z)
          refine ok_ite.mpr ⟨fun h_36 => ?_, fun h_36 => ?_⟩
          · have g37 : p2.toInt = (1 : Int32).toInt := by rw [h_36]
            refine ok_gd.mpr ⟨gb_of (by omega) (by omega), ?_⟩
            refine ok_nm2 (fun v7_310655_310661_310662 ev7_310655_310661_310662 => ?_)
            have f38 : 0 ≤ (σ.1 27 p1.toNatClampNeg).toInt ∧ (σ.1 27 p1.toNatClampNeg).toInt ≤ 3 := by
              have hz : p1.toNatClampNeg = p1.toInt.toNat := rfl
              have hb := hIσ 27 p1.toNatClampNeg
              have hj : p1.toNatClampNeg = 0 ∨ p1.toNatClampNeg = 1 ∨ p1.toNatClampNeg = 2 ∨ p1.toNatClampNeg = 3 ∨ p1.toNatClampNeg = 4 ∨ p1.toNatClampNeg = 5 ∨ p1.toNatClampNeg = 6 ∨ p1.toNatClampNeg = 7 ∨ p1.toNatClampNeg = 8 ∨ p1.toNatClampNeg = 9 ∨ p1.toNatClampNeg = 10 ∨ p1.toNatClampNeg = 11 := by omega
              generalize p1.toNatClampNeg = j at hb hj ⊢
              rcases hj with rfl | rfl | rfl | rfl | rfl | rfl | rfl | rfl | rfl | rfl | rfl | rfl <;> exact ⟨Int.le_trans (by decide) hb.1, Int.le_trans hb.2 (by decide)⟩
            have qv7_310655_310661_310662 : v7_310655_310661_310662.toInt = (σ.1 27 p1.toNatClampNeg).toInt := by rw [ev7_310655_310661_310662]
            refine ok_some.mpr ?_
            exact ⟨hIσ, hfσ⟩
          · have g39 : p2.toInt ≠ (1 : Int32).toInt := fun z => h_36 (Int32.toInt_inj.mp z)
            refine ok_ite.mpr ⟨fun h_40 => ?_, fun h_40 => ?_⟩
            · have l_2 : (2 : Int32).toInt = 2 := by decide
              have g41 : p2.toInt = (2 : Int32).toInt := by rw [h_40]
              have l_12 : (12 : Int32).toInt = 12 := by decide
              have f42 : ((12 : Int32) + p1).toInt = (12 : Int32).toInt + p1.toInt := iadd_toInt (by omega) (by omega)
              refine ok_gd.mpr ⟨gb_of (by omega) (by omega), ?_⟩
              refine ok_nm2 (fun v9_310655_310661_310662 ev9_310655_310661_310662 => ?_)
              have f43 : 0 ≤ (σ.1 17 (12 + p1).toNatClampNeg).toInt ∧ (σ.1 17 (12 + p1).toNatClampNeg).toInt ≤ 4 := hIσ 17 _
              have qv9_310655_310661_310662 : v9_310655_310661_310662.toInt = (σ.1 17 (12 + p1).toNatClampNeg).toInt := by rw [ev9_310655_310661_310662]
              refine ok_ite.mpr ⟨fun h_44 => ?_, fun h_44 => ?_⟩
              · have l_4 : (4 : Int32).toInt = 4 := by decide
                have g45 : v9_310655_310661_310662.toInt = (4 : Int32).toInt := by rw [h_44]
                refine ok_some.mpr ?_
                exact ⟨hIσ, hfσ⟩
              · have l_4 : (4 : Int32).toInt = 4 := by decide
                have g46 : v9_310655_310661_310662.toInt ≠ (4 : Int32).toInt := fun z => h_44 (Int32.toInt_inj.mp z)
                refine ok_some.mpr ?_
                exact ⟨hIσ, hfσ⟩
            · have l_2 : (2 : Int32).toInt = 2 := by decide
              have g47 : p2.toInt ≠ (2 : Int32).toInt := fun z => h_40 (Int32.toInt_inj.mp z)
              refine ok_ite.mpr ⟨fun h_48 => ?_, fun h_48 => ?_⟩
              · have l_3 : (3 : Int32).toInt = 3 := by decide
                have g49 : p2.toInt = (3 : Int32).toInt := by rw [h_48]
                refine ok_gd.mpr ⟨gb_of (by omega) (by omega), ?_⟩
                refine ok_nm2 (fun v12_310655_310661_310662 ev12_310655_310661_310662 => ?_)
                refine ok_some.mpr ?_
                exact ⟨hIσ, hfσ⟩
              · have l_3 : (3 : Int32).toInt = 3 := by decide
                have g50 : p2.toInt ≠ (3 : Int32).toInt := fun z => h_48 (Int32.toInt_inj.mp z)
                refine ok_ite.mpr ⟨fun h_51 => ?_, fun h_51 => ?_⟩
                · have l_4 : (4 : Int32).toInt = 4 := by decide
                  have g52 : p2.toInt = (4 : Int32).toInt := by rw [h_51]
                  have l_38 : (38 : Int32).toInt = 38 := by decide
                  have f53 : ((38 : Int32) + p1).toInt = (38 : Int32).toInt + p1.toInt := iadd_toInt (by omega) (by omega)
                  refine ok_gd.mpr ⟨gb_of (by omega) (by omega), ?_⟩
                  refine ok_nm2 (fun v14_310655_310661_310662 ev14_310655_310661_310662 => ?_)
                  refine ok_some.mpr ?_
                  exact ⟨hIσ, hfσ⟩
                · have l_4 : (4 : Int32).toInt = 4 := by decide
                  have g54 : p2.toInt ≠ (4 : Int32).toInt := fun z => h_51 (Int32.toInt_inj.mp z)
                  refine ok_ite.mpr ⟨fun h_55 => ?_, fun h_55 => ?_⟩
                  · have l_5 : (5 : Int32).toInt = 5 := by decide
                    have g56 : p2.toInt = (5 : Int32).toInt := by rw [h_55]
                    have l_m1 : (-1 : Int32).toInt = -1 := by decide
                    refine ok_bd.mpr ((o_fX10_rowsOf hIσ (by omega) (by omega) (by omega) (by omega)).mono (fun r17_310655_310661_310662 ho_58 => ?_))
                    refine ok_some.mpr ?_
                    exact ⟨hIσ, hfσ⟩
                  · have l_5 : (5 : Int32).toInt = 5 := by decide
                    have g59 : p2.toInt ≠ (5 : Int32).toInt := fun z => h_55 (Int32.toInt_inj.mp z)
                    refine ok_ite.mpr ⟨fun h_60 => ?_, fun h_60 => ?_⟩
                    · have l_6 : (6 : Int32).toInt = 6 := by decide
                      have g61 : p2.toInt = (6 : Int32).toInt := by rw [h_60]
                      refine ok_bd.mpr ((o_fX10_hangs hIσ ).mono (fun σ20_310655_310661_310662 ho_63 => ?_))
                      obtain ⟨hIσ20_310655_310661_310662, hcσ20_310655_310661_310662⟩ := ho_63
                      have hfσ20_310655_310661_310662 : Fr fr_fX10_picture σ σ20_310655_310661_310662 := Fr_c hfσ hcσ20_310655_310661_310662 (by decide)
                      refine ok_bd.mpr ((o_fX10_isLoose hIσ20_310655_310661_310662 (by omega) (by omega)).mono (fun r22_310655_310661_310662 ho_65 => ?_))
                      obtain ⟨r0r22_310655_310661_310662, r1r22_310655_310661_310662⟩ := ho_65
                      refine ok_ite.mpr ⟨fun h_66 => ?_, fun h_66 => ?_⟩
                      · have g67 : r22_310655_310661_310662.toInt = (0 : Int32).toInt := by rw [h_66]
                        refine ok_some.mpr ?_
                        exact ⟨hIσ20_310655_310661_310662, hfσ20_310655_310661_310662⟩
                      · have g68 : r22_310655_310661_310662.toInt ≠ (0 : Int32).toInt := fun z => h_66 (Int32.toInt_inj.mp z)
                        refine ok_some.mpr ?_
                        exact ⟨hIσ20_310655_310661_310662, hfσ20_310655_310661_310662⟩
                    · have l_6 : (6 : Int32).toInt = 6 := by decide
                      have g69 : p2.toInt ≠ (6 : Int32).toInt := fun z => h_60 (Int32.toInt_inj.mp z)
                      refine ok_ite.mpr ⟨fun h_70 => ?_, fun h_70 => ?_⟩
                      · have g71 : p2.toInt = (7 : Int32).toInt := by rw [h_70]
                        refine ok_bd.mpr ?_
                        try unfold fX10_centreOf
                        have l_12 : (12 : Int32).toInt = 12 := by decide
                        have f72 : ((12 : Int32) + p1).toInt = (12 : Int32).toInt + p1.toInt := iadd_toInt (by omega) (by omega)
                        refine ok_gd.mpr ⟨gb_of (by omega) (by omega), ?_⟩
                        refine ok_nm2 (fun v1_310665 ev1_310665 => ?_)
                        have f73 : 0 ≤ (σ.1 18 (12 + p1).toNatClampNeg).toInt ∧ (σ.1 18 (12 + p1).toNatClampNeg).toInt ≤ 9 := hIσ 18 _
                        have qv1_310665 : v1_310665.toInt = (σ.1 18 (12 + p1).toNatClampNeg).toInt := by rw [ev1_310665]
                        refine ok_some.mpr ?_
                        refine ok_ite.mpr ⟨fun h_74 => ?_, fun h_74 => ?_⟩
                        · have g75 : v1_310665.toInt ≤ (0 : Int32).toInt := Int32.le_iff_toInt_le.mp h_74
                          refine ok_some.mpr ?_
                          exact ⟨hIσ, hfσ⟩
                        · have g76 : ¬ v1_310665.toInt ≤ (0 : Int32).toInt := fun z => h_74 (Int32.le_iff_toInt_le.mpr z)
                          refine ok_some.mpr ?_
                          exact ⟨hIσ, hfσ⟩
                      · have g77 : p2.toInt ≠ (7 : Int32).toInt := fun z => h_70 (Int32.toInt_inj.mp z)
                        refine ok_some.mpr ?_
                        exact ⟨hIσ, hfσ⟩
set_option maxRecDepth 20000 in
set_option maxHeartbeats 2000000 in
theorem o_fX10_point {σ : gS} (hIσ : IM σ) {p1 : Int32} {p2 : Int32}  : Ok (fX10_point σ p1 p2) (fun out => IM out.2 ∧ Fr fr_fX10_point σ out.2) := by
  unfold fX10_point
  have hfσ : Fr fr_fX10_point σ σ := Fr_r
  refine ok_bd.mpr ?_
  try unfold fX10_isPoint
  refine ok_bd.mpr ?_
  try unfold fX10_points
  have l_8 : (8 : Int32).toInt = 8 := by decide
  refine ok_gd.mpr ⟨gb_of (by omega) (by omega), ?_⟩
  refine ok_nm2 (fun v1_310668 ev1_310668 => ?_)
  have f1 : 0 ≤ (σ.1 15 (8 : Int32).toNatClampNeg).toInt ∧ (σ.1 15 (8 : Int32).toNatClampNeg).toInt ≤ 20 := hIσ 15 _
  have qv1_310668 : v1_310668.toInt = (σ.1 15 (8 : Int32).toNatClampNeg).toInt := by rw [ev1_310668]
  refine ok_some.mpr ?_
  refine ok_bd.mpr ?_
  try unfold fX10_isIn
  refine ok_ite.mpr ⟨fun h_2 => ?_, fun h_2 => ?_⟩
  · have t3 : p1.toInt64.toInt = p1.toInt := Int32.toInt_toInt64 _
    have t4 : (0 : Int64).toInt = 0 := by decide
    have g5 : p1.toInt64.toInt < (0 : Int64).toInt := Int64.lt_iff_toInt_lt.mp h_2
    refine ok_some.mpr ?_
    refine ok_some.mpr ?_
    refine ok_ite.mpr ⟨fun h_6 => ?_, fun h_6 => ?_⟩
    · have f7 : (vp_nar .boolean 0).toInt = 0 := by decide
      have l_0 : (0 : Int32).toInt = 0 := by decide
      have g8 : (vp_nar .boolean 0).toInt = (0 : Int32).toInt := by rw [h_6]
      refine ok_some.mpr ?_
      exact ⟨hIσ, hfσ⟩
    · have f9 : (vp_nar .boolean 0).toInt = 0 := by decide
      have l_0 : (0 : Int32).toInt = 0 := by decide
      have g10 : (vp_nar .boolean 0).toInt ≠ (0 : Int32).toInt := fun z => h_6 (Int32.toInt_inj.mp z)
      exfalso; omega
  · have t11 : p1.toInt64.toInt = p1.toInt := Int32.toInt_toInt64 _
    have t12 : (0 : Int64).toInt = 0 := by decide
    have g13 : ¬ p1.toInt64.toInt < (0 : Int64).toInt := fun z => h_2 (Int64.lt_iff_toInt_lt.mpr z)
    refine ok_ite.mpr ⟨fun h_14 => ?_, fun h_14 => ?_⟩
    · have l_1 : (1 : Int32).toInt = 1 := by decide
      have f15 : (v1_310668 - (1 : Int32)).toInt = v1_310668.toInt - (1 : Int32).toInt := isub_toInt (by omega) (by omega)
      have t16 : (v1_310668 - 1).toInt64.toInt = (v1_310668 - 1).toInt := Int32.toInt_toInt64 _
      have g17 : (v1_310668 - 1).toInt64.toInt < p1.toInt64.toInt := Int64.lt_iff_toInt_lt.mp h_14
      refine ok_some.mpr ?_
      refine ok_some.mpr ?_
      refine ok_ite.mpr ⟨fun h_18 => ?_, fun h_18 => ?_⟩
      · have f19 : (vp_nar .boolean 0).toInt = 0 := by decide
        have l_0 : (0 : Int32).toInt = 0 := by decide
        have g20 : (vp_nar .boolean 0).toInt = (0 : Int32).toInt := by rw [h_18]
        refine ok_some.mpr ?_
        exact ⟨hIσ, hfσ⟩
      · have f21 : (vp_nar .boolean 0).toInt = 0 := by decide
        have l_0 : (0 : Int32).toInt = 0 := by decide
        have g22 : (vp_nar .boolean 0).toInt ≠ (0 : Int32).toInt := fun z => h_18 (Int32.toInt_inj.mp z)
        exfalso; omega
    · have l_1 : (1 : Int32).toInt = 1 := by decide
      have f23 : (v1_310668 - (1 : Int32)).toInt = v1_310668.toInt - (1 : Int32).toInt := isub_toInt (by omega) (by omega)
      have t24 : (v1_310668 - 1).toInt64.toInt = (v1_310668 - 1).toInt := Int32.toInt_toInt64 _
      have g25 : ¬ (v1_310668 - 1).toInt64.toInt < p1.toInt64.toInt := fun z => h_14 (Int64.lt_iff_toInt_lt.mpr z)
      refine ok_some.mpr ?_
      refine ok_some.mpr ?_
      refine ok_ite.mpr ⟨fun h_26 => ?_, fun h_26 => ?_⟩
      · have f27 : (vp_nar .boolean 1).toInt = 1 := by decide
        have l_0 : (0 : Int32).toInt = 0 := by decide
        have g28 : (vp_nar .boolean 1).toInt = (0 : Int32).toInt := by rw [h_26]
        exfalso; omega
      · have f29 : (vp_nar .boolean 1).toInt = 1 := by decide
        have l_0 : (0 : Int32).toInt = 0 := by decide
        have g30 : (vp_nar .boolean 1).toInt ≠ (0 : Int32).toInt := fun z => h_26 (Int32.toInt_inj.mp z)
        refine ok_ite.mpr ⟨fun h_31 => ?_, fun h_31 => ?_⟩
        · have g32 : p2.toInt = (0 : Int32).toInt := by rw [h_31]
          have l_12 : (12 : Int32).toInt = 12 := by decide
          have f33 : ((12 : Int32) + p1).toInt = (12 : Int32).toInt + p1.toInt := iadd_toInt (by omega) (by omega)
          refine ok_gd.mpr ⟨gb_of (by omega) (by omega), ?_⟩
          refine ok_nm2 (fun v4_310669_310675_310676 ev4_310669_310675_310676 => ?_)
          refine ok_some.mpr ?_
          exact ⟨hIσ, hfσ⟩
        · have g34 : p2.toInt ≠ (0 : Int32).toInt := fun z => h_31 (Int32.toInt_inj.mp z)
          refine ok_ite.mpr ⟨fun h_35 => ?_, fun h_35 => ?_⟩
          · have g36 : p2.toInt = (1 : Int32).toInt := by rw [h_35]
            have l_50 : (50 : Int32).toInt = 50 := by decide
            have f37 : ((50 : Int32) + p1).toInt = (50 : Int32).toInt + p1.toInt := iadd_toInt (by omega) (by omega)
            refine ok_gd.mpr ⟨gb_of (by omega) (by omega), ?_⟩
            refine ok_nm2 (fun v6_310669_310675_310676 ev6_310669_310675_310676 => ?_)
            refine ok_some.mpr ?_
            exact ⟨hIσ, hfσ⟩
          · have g38 : p2.toInt ≠ (1 : Int32).toInt := fun z => h_35 (Int32.toInt_inj.mp z)
            refine ok_ite.mpr ⟨fun h_39 => ?_, fun h_39 => ?_⟩
            · have l_2 : (2 : Int32).toInt = 2 := by decide
              have g40 : p2.toInt = (2 : Int32).toInt := by rw [h_39]
              have l_m1 : (-1 : Int32).toInt = -1 := by decide
              refine ok_bd.mpr ((o_fX10_rowsOf hIσ (by omega) (by omega) (by omega) (by omega)).mono (fun r9_310669_310675_310676 ho_42 => ?_))
              refine ok_some.mpr ?_
              exact ⟨hIσ, hfσ⟩
            · have l_2 : (2 : Int32).toInt = 2 := by decide
              have g43 : p2.toInt ≠ (2 : Int32).toInt := fun z => h_39 (Int32.toInt_inj.mp z)
              refine ok_ite.mpr ⟨fun h_44 => ?_, fun h_44 => ?_⟩
              · have l_3 : (3 : Int32).toInt = 3 := by decide
                have g45 : p2.toInt = (3 : Int32).toInt := by rw [h_44]
                have l_20 : (20 : Int32).toInt = 20 := by decide
                have f46 : ((20 : Int32) + p1).toInt = (20 : Int32).toInt + p1.toInt := iadd_toInt (by omega) (by omega)
                refine ok_gd.mpr ⟨gb_of (by omega) (by omega), ?_⟩
                refine ok_nm2 (fun v11_310669_310675_310676 ev11_310669_310675_310676 => ?_)
                have f47 : 0 ≤ (σ.1 20 (20 + p1).toNatClampNeg).toInt ∧ (σ.1 20 (20 + p1).toNatClampNeg).toInt ≤ 2 := hIσ 20 _
                have qv11_310669_310675_310676 : v11_310669_310675_310676.toInt = (σ.1 20 (20 + p1).toNatClampNeg).toInt := by rw [ev11_310669_310675_310676]
                refine ok_ite.mpr ⟨fun h_48 => ?_, fun h_48 => ?_⟩
                · have g49 : v11_310669_310675_310676.toInt = (0 : Int32).toInt := by rw [h_48]
                  refine ok_some.mpr ?_
                  exact ⟨hIσ, hfσ⟩
                · have g50 : v11_310669_310675_310676.toInt ≠ (0 : Int32).toInt := fun z => h_48 (Int32.toInt_inj.mp z)
                  refine ok_some.mpr ?_
                  exact ⟨hIσ, hfσ⟩
              · have l_3 : (3 : Int32).toInt = 3 := by decide
                have g51 : p2.toInt ≠ (3 : Int32).toInt := fun z => h_44 (Int32.toInt_inj.mp z)
                refine ok_ite.mpr ⟨fun h_52 => ?_, fun h_52 => ?_⟩
                · have l_4 : (4 : Int32).toInt = 4 := by decide
                  have g53 : p2.toInt = (4 : Int32).toInt := by rw [h_52]
                  refine ok_bd.mpr ?_
                  try unfold fX10_isControl
                  have l_20 : (20 : Int32).toInt = 20 := by decide
                  have f54 : ((20 : Int32) + p1).toInt = (20 : Int32).toInt + p1.toInt := iadd_toInt (by omega) (by omega)
                  refine ok_gd.mpr ⟨gb_of (by omega) (by omega), ?_⟩
                  refine ok_nm2 (fun v1_310677 ev1_310677 => ?_)
                  have f55 : 0 ≤ (σ.1 20 (20 + p1).toNatClampNeg).toInt ∧ (σ.1 20 (20 + p1).toNatClampNeg).toInt ≤ 2 := hIσ 20 _
                  have qv1_310677 : v1_310677.toInt = (σ.1 20 (20 + p1).toNatClampNeg).toInt := by rw [ev1_310677]
                  refine ok_nm2 (fun x2_310677 ex2_310677 => ?_)
                  have qx2_310677 : x2_310677.toInt = v1_310677.toInt := by rw [ex2_310677]
                  refine ok_ite.mpr ⟨fun h_56 => ?_, fun h_56 => ?_⟩
                  · have g57 : x2_310677.toInt = (0 : Int32).toInt := by rw [h_56]
                    refine ok_some.mpr ?_
                    refine ok_ite.mpr ⟨fun h_58 => ?_, fun h_58 => ?_⟩
                    · have g59 : (0 : Int32).toInt = (0 : Int32).toInt := by rw [h_58]
                      refine ok_some.mpr ?_
                      exact ⟨hIσ, hfσ⟩
                    · have g60 : (0 : Int32).toInt ≠ (0 : Int32).toInt := fun z => h_58 (Int32.toInt_inj.mp z)
                      exfalso; omega
                  · have g61 : x2_310677.toInt ≠ (0 : Int32).toInt := fun z => h_56 (Int32.toInt_inj.mp z)
                    refine ok_ite.mpr ⟨fun h_62 => ?_, fun h_62 => ?_⟩
                    · have g63 : (((σ.1 0 36) >>> ((x2_310677 - 1) &&& 31)) &&& 1).toInt = (1 : Int32).toInt := by rw [h_62]
                      refine ok_some.mpr ?_
                      refine ok_ite.mpr ⟨fun h_64 => ?_, fun h_64 => ?_⟩
                      · have g65 : (1 : Int32).toInt = (0 : Int32).toInt := by rw [h_64]
                        exfalso; omega
                      · have g66 : (1 : Int32).toInt ≠ (0 : Int32).toInt := fun z => h_64 (Int32.toInt_inj.mp z)
                        refine ok_some.mpr ?_
                        exact ⟨hIσ, hfσ⟩
                    · have g67 : (((σ.1 0 36) >>> ((x2_310677 - 1) &&& 31)) &&& 1).toInt ≠ (1 : Int32).toInt := fun z => h_62 (Int32.toInt_inj.mp z)
                      refine ok_some.mpr ?_
                      refine ok_ite.mpr ⟨fun h_68 => ?_, fun h_68 => ?_⟩
                      · have g69 : (0 : Int32).toInt = (0 : Int32).toInt := by rw [h_68]
                        refine ok_some.mpr ?_
                        exact ⟨hIσ, hfσ⟩
                      · have g70 : (0 : Int32).toInt ≠ (0 : Int32).toInt := fun z => h_68 (Int32.toInt_inj.mp z)
                        exfalso; omega
                · have l_4 : (4 : Int32).toInt = 4 := by decide
                  have g71 : p2.toInt ≠ (4 : Int32).toInt := fun z => h_52 (Int32.toInt_inj.mp z)
                  refine ok_ite.mpr ⟨fun h_72 => ?_, fun h_72 => ?_⟩
                  · have l_5 : (5 : Int32).toInt = 5 := by decide
                    have g73 : p2.toInt = (5 : Int32).toInt := by rw [h_72]
                    refine ok_bd.mpr ((o_fX10_hangs hIσ ).mono (fun σ19_310669_310675_310676 ho_75 => ?_))
                    obtain ⟨hIσ19_310669_310675_310676, hcσ19_310669_310675_310676⟩ := ho_75
                    have hfσ19_310669_310675_310676 : Fr fr_fX10_point σ σ19_310669_310675_310676 := Fr_c hfσ hcσ19_310669_310675_310676 (by decide)
                    have l_12 : (12 : Int32).toInt = 12 := by decide
                    have f76 : ((12 : Int32) + p1).toInt = (12 : Int32).toInt + p1.toInt := iadd_toInt (by omega) (by omega)
                    refine ok_bd.mpr ((o_fX10_isLoose hIσ19_310669_310675_310676 (by omega) (by omega)).mono (fun r21_310669_310675_310676 ho_78 => ?_))
                    obtain ⟨r0r21_310669_310675_310676, r1r21_310669_310675_310676⟩ := ho_78
                    refine ok_ite.mpr ⟨fun h_79 => ?_, fun h_79 => ?_⟩
                    · have g80 : r21_310669_310675_310676.toInt = (0 : Int32).toInt := by rw [h_79]
                      refine ok_some.mpr ?_
                      exact ⟨hIσ19_310669_310675_310676, hfσ19_310669_310675_310676⟩
                    · have g81 : r21_310669_310675_310676.toInt ≠ (0 : Int32).toInt := fun z => h_79 (Int32.toInt_inj.mp z)
                      refine ok_some.mpr ?_
                      exact ⟨hIσ19_310669_310675_310676, hfσ19_310669_310675_310676⟩
                  · have l_5 : (5 : Int32).toInt = 5 := by decide
                    have g82 : p2.toInt ≠ (5 : Int32).toInt := fun z => h_72 (Int32.toInt_inj.mp z)
                    refine ok_some.mpr ?_
                    exact ⟨hIσ, hfσ⟩
set_option maxRecDepth 20000 in
set_option maxHeartbeats 2000000 in
theorem o_fX10_canShow {σ : gS} (hIσ : IM σ) {p1 : Int32} (h0p1 : 0 ≤ p1.toInt) (h1p1 : p1.toInt ≤ 59) : Ok (fX10_canShow σ p1) (fun out => IM out.2 ∧ Fr fr_fX10_canShow σ out.2 ∧ 0 ≤ out.1.toInt ∧ out.1.toInt ≤ 1) := by
  unfold fX10_canShow
  have hfσ : Fr fr_fX10_canShow σ σ := Fr_r
  refine ok_gd.mpr ⟨gb_of (by omega) (by omega), ?_⟩
  refine ok_nm2 (fun v1 ev1 => ?_)
  have f1 : 0 ≤ (σ.1 26 p1.toNatClampNeg).toInt ∧ (σ.1 26 p1.toNatClampNeg).toInt ≤ 1 := hIσ 26 _
  have qv1 : v1.toInt = (σ.1 26 p1.toNatClampNeg).toInt := by rw [ev1]
  refine ok_ite.mpr ⟨fun h_2 => ?_, fun h_2 => ?_⟩
  · have l_0 : (0 : Int32).toInt = 0 := by decide
    have g3 : v1.toInt = (0 : Int32).toInt := by rw [h_2]
    refine ok_gd.mpr ⟨gb_of (by omega) (by omega), ?_⟩
    refine ok_nm2 (fun σ3 eσ3 => ?_)
    have f4 : (vp_nar .boolean 1).toInt = 1 := by decide
    have hIσ3 : IM σ3 := by rw [eσ3]; exact IM_w hIσ (show 0 ≤ _ by omega) (show _ ≤ 1 by omega)
    have hfσ3 : Fr fr_fX10_canShow σ σ3 := by rw [eσ3]; exact Fr_w0 hfσ (by decide)
    refine ok_bd.mpr ((o_fX10_hangs hIσ3 ).mono (fun σ5 ho_6 => ?_))
    obtain ⟨hIσ5, hcσ5⟩ := ho_6
    have hfσ5 : Fr fr_fX10_canShow σ σ5 := Fr_c hfσ3 hcσ5 (by decide)
    refine ok_gd.mpr ⟨gb_of (by omega) (by omega), ?_⟩
    refine ok_nm2 (fun σ6 eσ6 => ?_)
    have f7 : (vp_nar .boolean 0).toInt = 0 := by decide
    have hIσ6 : IM σ6 := by rw [eσ6]; exact IM_w hIσ5 (show 0 ≤ _ by omega) (show _ ≤ 1 by omega)
    have hfσ6 : Fr fr_fX10_canShow σ σ6 := by rw [eσ6]; exact Fr_w0 hfσ5 (by decide)
    refine ok_bd.mpr ?_
    try unfold fX10_pictureOf
    have l_60 : (60 : Int32).toInt = 60 := by decide
    have f8 : ((60 : Int32) + p1).toInt = (60 : Int32).toInt + p1.toInt := iadd_toInt (by omega) (by omega)
    refine ok_gd.mpr ⟨gb_of (by omega) (by omega), ?_⟩
    refine ok_nm2 (fun v1_310682 ev1_310682 => ?_)
    have f9 : 0 ≤ (σ6.1 22 (60 + p1).toNatClampNeg).toInt ∧ (σ6.1 22 (60 + p1).toNatClampNeg).toInt ≤ 11 := hIσ6 22 _
    have qv1_310682 : v1_310682.toInt = (σ6.1 22 (60 + p1).toNatClampNeg).toInt := by rw [ev1_310682]
    refine ok_some.mpr ?_
    refine ok_nm2 (fun x9_310683 ex9_310683 => ?_)
    have qx9_310683 : x9_310683.toInt = v1_310682.toInt := by rw [ex9_310683]
    refine ok_bd.mpr ?_
    try unfold fX10_pointOf
    refine ok_gd.mpr ⟨gb_of (by omega) (by omega), ?_⟩
    refine ok_nm2 (fun v1_310684 ev1_310684 => ?_)
    have f10 : 0 ≤ (σ6.1 23 (60 + p1).toNatClampNeg).toInt ∧ (σ6.1 23 (60 + p1).toNatClampNeg).toInt ≤ 19 := hIσ6 23 _
    have qv1_310684 : v1_310684.toInt = (σ6.1 23 (60 + p1).toNatClampNeg).toInt := by rw [ev1_310684]
    refine ok_some.mpr ?_
    refine ok_nm2 (fun x12_310683_310685 ex12_310683_310685 => ?_)
    have l_12 : (12 : Int32).toInt = 12 := by decide
    have f11 : ((12 : Int32) + v1_310684).toInt = (12 : Int32).toInt + v1_310684.toInt := iadd_toInt (by omega) (by omega)
    have qx12_310683_310685 : x12_310683_310685.toInt = (12 + v1_310684).toInt := by rw [ex12_310683_310685]
    refine ok_gd.mpr ⟨gb_of (by omega) (by omega), ?_⟩
    refine ok_nm2 (fun v13_310683_310685 ev13_310683_310685 => ?_)
    have f12 : 0 ≤ (σ6.1 32 x9_310683.toNatClampNeg).toInt ∧ (σ6.1 32 x9_310683.toNatClampNeg).toInt ≤ 31 := hIσ6 32 _
    have qv13_310683_310685 : v13_310683_310685.toInt = (σ6.1 32 x9_310683.toNatClampNeg).toInt := by rw [ev13_310683_310685]
    refine ok_gd.mpr ⟨gb_of (by omega) (by omega), ?_⟩
    refine ok_nm2 (fun v14_310683_310685 ev14_310683_310685 => ?_)
    have f13 : 0 ≤ (σ6.1 32 x12_310683_310685.toNatClampNeg).toInt ∧ (σ6.1 32 x12_310683_310685.toNatClampNeg).toInt ≤ 31 := hIσ6 32 _
    have qv14_310683_310685 : v14_310683_310685.toInt = (σ6.1 32 x12_310683_310685.toNatClampNeg).toInt := by rw [ev14_310683_310685]
    refine ok_ite.mpr ⟨fun h_14 => ?_, fun h_14 => ?_⟩
    · have g15 : v13_310683_310685.toInt = v14_310683_310685.toInt := by rw [h_14]
      refine ok_some.mpr ?_
      have l_1 : (1 : Int32).toInt = 1 := by decide
      exact ⟨hIσ6, hfσ6, (show 0 ≤ (1 : Int32).toInt by omega), (show (1 : Int32).toInt ≤ 1 by omega)⟩
    · have g16 : v13_310683_310685.toInt ≠ v14_310683_310685.toInt := fun z => h_14 (Int32.toInt_inj.mp z)
      refine ok_bd.mpr ((o_fX10_isLoose hIσ6 (by omega) (by omega)).mono (fun r17_310683_310685 ho_18 => ?_))
      obtain ⟨r0r17_310683_310685, r1r17_310683_310685⟩ := ho_18
      refine ok_ite.mpr ⟨fun h_19 => ?_, fun h_19 => ?_⟩
      · have g20 : r17_310683_310685.toInt = (0 : Int32).toInt := by rw [h_19]
        refine ok_bd.mpr ((o_fX10_isLoose hIσ6 (by omega) (by omega)).mono (fun r20_310683_310685 ho_22 => ?_))
        obtain ⟨r0r20_310683_310685, r1r20_310683_310685⟩ := ho_22
        refine ok_ite.mpr ⟨fun h_23 => ?_, fun h_23 => ?_⟩
        · have g24 : r20_310683_310685.toInt = (0 : Int32).toInt := by rw [h_23]
          refine ok_some.mpr ?_
          have l_1 : (1 : Int32).toInt = 1 := by decide
          exact ⟨hIσ6, hfσ6, (show 0 ≤ (1 : Int32).toInt by omega), (show (1 : Int32).toInt ≤ 1 by omega)⟩
        · have g25 : r20_310683_310685.toInt ≠ (0 : Int32).toInt := fun z => h_23 (Int32.toInt_inj.mp z)
          refine ok_some.mpr ?_
          exact ⟨hIσ6, hfσ6, (show 0 ≤ (0 : Int32).toInt by omega), (show (0 : Int32).toInt ≤ 1 by omega)⟩
      · have g26 : r17_310683_310685.toInt ≠ (0 : Int32).toInt := fun z => h_19 (Int32.toInt_inj.mp z)
        refine ok_some.mpr ?_
        exact ⟨hIσ6, hfσ6, (show 0 ≤ (0 : Int32).toInt by omega), (show (0 : Int32).toInt ≤ 1 by omega)⟩
  · have l_0 : (0 : Int32).toInt = 0 := by decide
    have g27 : v1.toInt ≠ (0 : Int32).toInt := fun z => h_2 (Int32.toInt_inj.mp z)
    refine ok_some.mpr ?_
    exact ⟨hIσ, hfσ, (show 0 ≤ (0 : Int32).toInt by omega), (show (0 : Int32).toInt ≤ 1 by omega)⟩
set_option maxRecDepth 20000 in
set_option maxHeartbeats 2000000 in
theorem o_fX10_hasDrift {σ : gS} (hIσ : IM σ) {p1 : Int32} (h0p1 : 0 ≤ p1.toInt) (h1p1 : p1.toInt ≤ 2147483615) : Ok (fX10_hasDrift σ p1) (fun out => 0 ≤ out.toInt ∧ out.toInt ≤ 1) := by
  unfold fX10_hasDrift
  have hfσ : Fr fr_fX10_hasDrift σ σ := Fr_r
  refine ok_nm2 (fun x1 ex1 => ?_)
  have l_0 : (0 : Int32).toInt = 0 := by decide
  have qx1 : x1.toInt = 0 := by rw [ex1]; decide
  refine ok_lpc (I := fun n s => n = (12 + 1 - s.toInt).toNat ∧ 0 ≤ s.toInt ∧ s.toInt ≤ 12) (fun rec2_310705r n_310705 s_310705 hs_310705 hrec_310705 => ?_) K9 _ _ ⟨rfl, (by (try dsimp only); omega), (by (try dsimp only); omega)⟩ (by unfold K9; (try dsimp only); omega)
  obtain ⟨a2_310705, hq_310705⟩ : ∃ y, y = s_310705 := ⟨_, rfl⟩
  subst hq_310705
  obtain ⟨hn_310705, b0a2_310705, b1a2_310705⟩ := hs_310705
  skip
  unfold bX10_hasDrift_2
  try dsimp only
  refine ok_bd.mpr ?_
  try unfold fX10_pictures
  have l_7 : (7 : Int32).toInt = 7 := by decide
  refine ok_gd.mpr ⟨gb_of (by omega) (by omega), ?_⟩
  refine ok_nm2 (fun v1_310722 ev1_310722 => ?_)
  have f1 : 0 ≤ (σ.1 15 (7 : Int32).toNatClampNeg).toInt ∧ (σ.1 15 (7 : Int32).toNatClampNeg).toInt ≤ 12 := hIσ 15 _
  have qv1_310722 : v1_310722.toInt = (σ.1 15 (7 : Int32).toNatClampNeg).toInt := by rw [ev1_310722]
  refine ok_some.mpr ?_
  refine ok_ite.mpr ⟨fun h_2 => ?_, fun h_2 => ?_⟩
  · have g3 : v1_310722.toInt ≤ a2_310705.toInt := Int32.le_iff_toInt_le.mp h_2
    refine ok_some.mpr ?_
    exact ⟨(show 0 ≤ (0 : Int32).toInt by omega), (show (0 : Int32).toInt ≤ 1 by omega)⟩
  · have g4 : ¬ v1_310722.toInt ≤ a2_310705.toInt := fun z => h_2 (Int32.le_iff_toInt_le.mpr z)
    refine ok_bd.mpr ?_
    try unfold fX10_strip
    have l_12 : (12 : Int32).toInt = 12 := by decide
    have f5 : ((12 : Int32) + a2_310705).toInt = (12 : Int32).toInt + a2_310705.toInt := iadd_toInt (by omega) (by omega)
    refine ok_gd.mpr ⟨gb_of (by omega) (by omega), ?_⟩
    refine ok_nm2 (fun v1_310724 ev1_310724 => ?_)
    have f6 : 0 ≤ (σ.1 16 (12 + a2_310705).toNatClampNeg).toInt ∧ (σ.1 16 (12 + a2_310705).toNatClampNeg).toInt ≤ 5 := hIσ 16 _
    have qv1_310724 : v1_310724.toInt = (σ.1 16 (12 + a2_310705).toNatClampNeg).toInt := by rw [ev1_310724]
    refine ok_some.mpr ?_
    refine ok_ite.mpr ⟨fun h_7 => ?_, fun h_7 => ?_⟩
    · have g8 : v1_310724.toInt = p1.toInt := by rw [h_7]
      refine ok_bd.mpr ?_
      try unfold fX10_centreOf
      refine ok_gd.mpr ⟨gb_of (by omega) (by omega), ?_⟩
      refine ok_nm2 (fun v1_310726 ev1_310726 => ?_)
      have f9 : 0 ≤ (σ.1 18 (12 + a2_310705).toNatClampNeg).toInt ∧ (σ.1 18 (12 + a2_310705).toNatClampNeg).toInt ≤ 9 := hIσ 18 _
      have qv1_310726 : v1_310726.toInt = (σ.1 18 (12 + a2_310705).toNatClampNeg).toInt := by rw [ev1_310726]
      refine ok_some.mpr ?_
      refine ok_ite.mpr ⟨fun h_10 => ?_, fun h_10 => ?_⟩
      · have g11 : v1_310726.toInt ≤ (0 : Int32).toInt := Int32.le_iff_toInt_le.mp h_10
        refine ok_nm2 (fun x12_310721_310723_310725_310727 ex12_310721_310723_310725_310727 => ?_)
        have l_1 : (1 : Int32).toInt = 1 := by decide
        have f12 : (a2_310705 + (1 : Int32)).toInt = a2_310705.toInt + (1 : Int32).toInt := iadd_toInt (by omega) (by omega)
        have qx12_310721_310723_310725_310727 : x12_310721_310723_310725_310727.toInt = (a2_310705 + 1).toInt := by rw [ex12_310721_310723_310725_310727]
        exact hrec_310705 _ x12_310721_310723_310725_310727 (show (12 + 1 - x12_310721_310723_310725_310727.toInt).toNat < n_310705 by omega) ⟨rfl, (show 0 ≤ x12_310721_310723_310725_310727.toInt by omega), (show x12_310721_310723_310725_310727.toInt ≤ 12 by omega)⟩
      · have g13 : ¬ v1_310726.toInt ≤ (0 : Int32).toInt := fun z => h_10 (Int32.le_iff_toInt_le.mpr z)
        refine ok_some.mpr ?_
        have l_1 : (1 : Int32).toInt = 1 := by decide
        exact ⟨(show 0 ≤ (1 : Int32).toInt by omega), (show (1 : Int32).toInt ≤ 1 by omega)⟩
    · have g14 : v1_310724.toInt ≠ p1.toInt := fun z => h_7 (Int32.toInt_inj.mp z)
      refine ok_nm2 (fun x8_310721_310723_310725 ex8_310721_310723_310725 => ?_)
      have l_1 : (1 : Int32).toInt = 1 := by decide
      have f15 : (a2_310705 + (1 : Int32)).toInt = a2_310705.toInt + (1 : Int32).toInt := iadd_toInt (by omega) (by omega)
      have qx8_310721_310723_310725 : x8_310721_310723_310725.toInt = (a2_310705 + 1).toInt := by rw [ex8_310721_310723_310725]
      exact hrec_310705 _ x8_310721_310723_310725 (show (12 + 1 - x8_310721_310723_310725.toInt).toNat < n_310705 by omega) ⟨rfl, (show 0 ≤ x8_310721_310723_310725.toInt by omega), (show x8_310721_310723_310725.toInt ≤ 12 by omega)⟩
set_option maxRecDepth 20000 in
set_option maxHeartbeats 2000000 in
theorem o_fX10_drift {σ : gS} (hIσ : IM σ) {p1 : Int32} {p2 : Int32}  : Ok (fX10_drift σ p1 p2) (fun _ => True) := by
  unfold fX10_drift
  have hfσ : Fr fr_fX10_drift σ σ := Fr_r
  have l_6 : (6 : Int32).toInt = 6 := by decide
  refine ok_gd.mpr ⟨gb_of (by omega) (by omega), ?_⟩
  refine ok_nm2 (fun v1 ev1 => ?_)
  have f1 : 0 ≤ (σ.1 15 (6 : Int32).toNatClampNeg).toInt ∧ (σ.1 15 (6 : Int32).toNatClampNeg).toInt ≤ 6 := hIσ 15 _
  have qv1 : v1.toInt = (σ.1 15 (6 : Int32).toNatClampNeg).toInt := by rw [ev1]
  refine ok_bd.mpr ?_
  try unfold fX10_isIn
  refine ok_ite.mpr ⟨fun h_2 => ?_, fun h_2 => ?_⟩
  · have t3 : p1.toInt64.toInt = p1.toInt := Int32.toInt_toInt64 _
    have t4 : (0 : Int64).toInt = 0 := by decide
    have g5 : p1.toInt64.toInt < (0 : Int64).toInt := Int64.lt_iff_toInt_lt.mp h_2
    refine ok_some.mpr ?_
    refine ok_ite.mpr ⟨fun h_6 => ?_, fun h_6 => ?_⟩
    · have l_0 : (0 : Int32).toInt = 0 := by decide
      have g7 : (0 : Int32).toInt = (0 : Int32).toInt := by rw [h_6]
      refine ok_some.mpr ?_
      exact trivial
    · have l_0 : (0 : Int32).toInt = 0 := by decide
      have g8 : (0 : Int32).toInt ≠ (0 : Int32).toInt := fun z => h_6 (Int32.toInt_inj.mp z)
      exfalso; omega
  · have t9 : p1.toInt64.toInt = p1.toInt := Int32.toInt_toInt64 _
    have t10 : (0 : Int64).toInt = 0 := by decide
    have g11 : ¬ p1.toInt64.toInt < (0 : Int64).toInt := fun z => h_2 (Int64.lt_iff_toInt_lt.mpr z)
    refine ok_ite.mpr ⟨fun h_12 => ?_, fun h_12 => ?_⟩
    · have l_1 : (1 : Int32).toInt = 1 := by decide
      have f13 : (v1 - (1 : Int32)).toInt = v1.toInt - (1 : Int32).toInt := isub_toInt (by omega) (by omega)
      have t14 : (v1 - 1).toInt64.toInt = (v1 - 1).toInt := Int32.toInt_toInt64 _
      have g15 : (v1 - 1).toInt64.toInt < p1.toInt64.toInt := Int64.lt_iff_toInt_lt.mp h_12
      refine ok_some.mpr ?_
      refine ok_ite.mpr ⟨fun h_16 => ?_, fun h_16 => ?_⟩
      · have l_0 : (0 : Int32).toInt = 0 := by decide
        have g17 : (0 : Int32).toInt = (0 : Int32).toInt := by rw [h_16]
        refine ok_some.mpr ?_
        exact trivial
      · have l_0 : (0 : Int32).toInt = 0 := by decide
        have g18 : (0 : Int32).toInt ≠ (0 : Int32).toInt := fun z => h_16 (Int32.toInt_inj.mp z)
        exfalso; omega
    · have l_1 : (1 : Int32).toInt = 1 := by decide
      have f19 : (v1 - (1 : Int32)).toInt = v1.toInt - (1 : Int32).toInt := isub_toInt (by omega) (by omega)
      have t20 : (v1 - 1).toInt64.toInt = (v1 - 1).toInt := Int32.toInt_toInt64 _
      have g21 : ¬ (v1 - 1).toInt64.toInt < p1.toInt64.toInt := fun z => h_12 (Int64.lt_iff_toInt_lt.mpr z)
      refine ok_some.mpr ?_
      refine ok_ite.mpr ⟨fun h_22 => ?_, fun h_22 => ?_⟩
      · have l_0 : (0 : Int32).toInt = 0 := by decide
        have g23 : (1 : Int32).toInt = (0 : Int32).toInt := by rw [h_22]
        exfalso; omega
      · have l_0 : (0 : Int32).toInt = 0 := by decide
        have g24 : (1 : Int32).toInt ≠ (0 : Int32).toInt := fun z => h_22 (Int32.toInt_inj.mp z)
        refine ok_bd.mpr ?_
        try unfold fX10_isIn
        refine ok_ite.mpr ⟨fun h_25 => ?_, fun h_25 => ?_⟩
        · have t26 : p2.toInt64.toInt = p2.toInt := Int32.toInt_toInt64 _
          have g27 : p2.toInt64.toInt < (0 : Int64).toInt := Int64.lt_iff_toInt_lt.mp h_25
          refine ok_some.mpr ?_
          refine ok_ite.mpr ⟨fun h_28 => ?_, fun h_28 => ?_⟩
          · have g29 : (0 : Int32).toInt = (0 : Int32).toInt := by rw [h_28]
            refine ok_some.mpr ?_
            exact trivial
          · have g30 : (0 : Int32).toInt ≠ (0 : Int32).toInt := fun z => h_28 (Int32.toInt_inj.mp z)
            exfalso; omega
        · have t31 : p2.toInt64.toInt = p2.toInt := Int32.toInt_toInt64 _
          have g32 : ¬ p2.toInt64.toInt < (0 : Int64).toInt := fun z => h_25 (Int64.lt_iff_toInt_lt.mpr z)
          refine ok_ite.mpr ⟨fun h_33 => ?_, fun h_33 => ?_⟩
          · have t34 : (1 : Int64).toInt = 1 := by decide
            have g35 : (1 : Int64).toInt < p2.toInt64.toInt := Int64.lt_iff_toInt_lt.mp h_33
            refine ok_some.mpr ?_
            refine ok_ite.mpr ⟨fun h_36 => ?_, fun h_36 => ?_⟩
            · have g37 : (0 : Int32).toInt = (0 : Int32).toInt := by rw [h_36]
              refine ok_some.mpr ?_
              exact trivial
            · have g38 : (0 : Int32).toInt ≠ (0 : Int32).toInt := fun z => h_36 (Int32.toInt_inj.mp z)
              exfalso; omega
          · have t39 : (1 : Int64).toInt = 1 := by decide
            have g40 : ¬ (1 : Int64).toInt < p2.toInt64.toInt := fun z => h_33 (Int64.lt_iff_toInt_lt.mpr z)
            refine ok_some.mpr ?_
            refine ok_ite.mpr ⟨fun h_41 => ?_, fun h_41 => ?_⟩
            · have g42 : (1 : Int32).toInt = (0 : Int32).toInt := by rw [h_41]
              exfalso; omega
            · have g43 : (1 : Int32).toInt ≠ (0 : Int32).toInt := fun z => h_41 (Int32.toInt_inj.mp z)
              refine ok_bd.mpr ((o_fX10_hasDrift hIσ (by omega) (by omega)).mono (fun r9_310731_310735 ho_45 => ?_))
              obtain ⟨r0r9_310731_310735, r1r9_310731_310735⟩ := ho_45
              refine ok_ite.mpr ⟨fun h_46 => ?_, fun h_46 => ?_⟩
              · have g47 : r9_310731_310735.toInt = (0 : Int32).toInt := by rw [h_46]
                refine ok_some.mpr ?_
                exact trivial
              · have g48 : r9_310731_310735.toInt ≠ (0 : Int32).toInt := fun z => h_46 (Int32.toInt_inj.mp z)
                have l_38 : (38 : Int32).toInt = 38 := by decide
                have f49 : ((38 : Int32) * p2).toInt = 38 * p2.toInt := imulc l_38 (by omega) (by omega)
                have l_32 : (32 : Int32).toInt = 32 := by decide
                have f50 : ((38 * p2) + (32 : Int32)).toInt = (38 * p2).toInt + (32 : Int32).toInt := iadd_toInt (by omega) (by omega)
                have f51 : (((38 * p2) + 32) + p1).toInt = ((38 * p2) + 32).toInt + p1.toInt := iadd_toInt (by omega) (by omega)
                refine ok_gd.mpr ⟨gb_of (by omega) (by omega), ?_⟩
                refine ok_nm2 (fun v11_310731_310735 ev11_310731_310735 => ?_)
                refine ok_some.mpr ?_
                exact trivial
set_option maxRecDepth 20000 in
set_option maxHeartbeats 2000000 in
theorem o_fX10_noMean {σ : gS} (hIσ : IM σ)   : Ok (fX10_noMean σ ) (fun out => IM out ∧ Fr fr_fX10_noMean σ out) := by
  unfold fX10_noMean
  have hfσ : Fr fr_fX10_noMean σ σ := Fr_r
  refine ok_nm2 (fun σ1 eσ1 => ?_)
  have hIσ1 : IM σ1 := by rw [eσ1]; exact IM_l hIσ
  have hfσ1 : Fr fr_fX10_noMean σ σ1 := by rw [eσ1]; exact Fr_l hfσ (by decide)
  refine ok_nm2 (fun σ2 eσ2 => ?_)
  have l_0 : (0 : Int32).toInt = 0 := by decide
  have hIσ2 : IM σ2 := by rw [eσ2]; exact IM_w hIσ1 (Int32.le_toInt _) (Int32.toInt_le _)
  have hfσ2 : Fr fr_fX10_noMean σ σ2 := by rw [eσ2]; exact Fr_w hfσ1 (by decide)
  refine ok_some.mpr ?_
  exact ⟨hIσ2, hfσ2⟩
set_option maxRecDepth 20000 in
set_option maxHeartbeats 2000000 in
theorem o_fX10_becomes {σ : gS} (hIσ : IM σ) {p1 : Int32} (h0p1 : 0 ≤ p1.toInt) (h1p1 : p1.toInt ≤ 75) : Ok (fX10_becomes σ p1) (fun out => IM out.2 ∧ Fr fr_fX10_becomes σ out.2 ∧ 0 ≤ out.1.toInt ∧ out.1.toInt ≤ 1) := by
  unfold fX10_becomes
  have hfσ : Fr fr_fX10_becomes σ σ := Fr_r
  refine ok_ite.mpr ⟨fun h_1 => ?_, fun h_1 => ?_⟩
  · have l_0 : (0 : Int32).toInt = 0 := by decide
    have g2 : (σ.1 0 41).toInt = (0 : Int32).toInt := by rw [h_1]
    refine ok_some.mpr ?_
    exact ⟨hIσ, hfσ, (show 0 ≤ (0 : Int32).toInt by omega), (show (0 : Int32).toInt ≤ 1 by omega)⟩
  · have l_0 : (0 : Int32).toInt = 0 := by decide
    have g3 : (σ.1 0 41).toInt ≠ (0 : Int32).toInt := fun z => h_1 (Int32.toInt_inj.mp z)
    refine ok_gd.mpr ⟨decide_eq_true (fun h_4 => ?_), ?_⟩
    · have t5 : (σ.1 0 41).toInt64.toInt = (σ.1 0 41).toInt := Int32.toInt_toInt64 _
      have t6 : (0 : Int64).toInt = 0 := by decide
      have g7 : (σ.1 0 41).toInt64.toInt = (0 : Int64).toInt := by rw [h_4]
      exfalso; omega
    refine ok_nm2 (fun x3 ex3 => ?_)
    refine ok_gd.mpr ⟨decide_eq_true (fun h_8 => ?_), ?_⟩
    · have t9 : (σ.1 0 41).toInt64.toInt = (σ.1 0 41).toInt := Int32.toInt_toInt64 _
      have t10 : (0 : Int64).toInt = 0 := by decide
      have g11 : (σ.1 0 41).toInt64.toInt = (0 : Int64).toInt := by rw [h_8]
      exfalso; omega
    refine ok_nm2 (fun x5 ex5 => ?_)
    refine ok_ite.mpr ⟨fun h_12 => ?_, fun h_12 => ?_⟩
    · have t13 : (0 : Int64).toInt = 0 := by decide
      try unfold jX10_becomes_53
      refine ok_gd.mpr ⟨gb_of (by omega) (by omega), ?_⟩
      refine ok_nm2 (fun v7_310736 ev7_310736 => ?_)
      refine ok_nm2 (fun x8_310736 ex8_310736 => ?_)
      have qx8_310736 : x8_310736.toInt = v7_310736.toInt := by rw [ex8_310736]
      refine ok_ite.mpr ⟨fun h_14 => ?_, fun h_14 => ?_⟩
      · have t15 : (σ.1 0 41).toInt64.toInt = (σ.1 0 41).toInt := Int32.toInt_toInt64 _
        refine ok_nm2 (fun x10_310736 ex10_310736 => ?_)
        try unfold jX10_becomes_105
        refine ok_gd.mpr ⟨gb_of (by omega) (by omega), ?_⟩
        refine ok_nm2 (fun σ11_310737 eσ11_310737 => ?_)
        have hIσ11_310737 : IM σ11_310737 := by rw [eσ11_310737]; exact IM_w hIσ (Int32.le_toInt _) (Int32.toInt_le _)
        have hfσ11_310737 : Fr fr_fX10_becomes σ σ11_310737 := by rw [eσ11_310737]; exact Fr_w0 hfσ (by decide)
        have sσ11_310737_0_41 : (σ11_310737.1 0 41).toInt = (σ.1 0 41).toInt := by rw [eσ11_310737]; rfl
        refine ok_gd.mpr ⟨gb_of (by omega) (by omega), ?_⟩
        refine ok_nm2 (fun v12_310737 ev12_310737 => ?_)
        refine ok_ite.mpr ⟨fun h_16 => ?_, fun h_16 => ?_⟩
        · have g17 : x8_310736.toInt = v12_310737.toInt := by rw [h_16]
          refine ok_some.mpr ?_
          exact ⟨hIσ11_310737, hfσ11_310737, (show 0 ≤ (0 : Int32).toInt by omega), (show (0 : Int32).toInt ≤ 1 by omega)⟩
        · have g18 : x8_310736.toInt ≠ v12_310737.toInt := fun z => h_16 (Int32.toInt_inj.mp z)
          refine ok_some.mpr ?_
          have l_1 : (1 : Int32).toInt = 1 := by decide
          exact ⟨hIσ11_310737, hfσ11_310737, (show 0 ≤ (1 : Int32).toInt by omega), (show (1 : Int32).toInt ≤ 1 by omega)⟩
      · have t19 : (σ.1 0 41).toInt64.toInt = (σ.1 0 41).toInt := Int32.toInt_toInt64 _
        refine ok_ite.mpr ⟨fun h_20 => ?_, fun h_20 => ?_⟩
        · refine ok_ite.mpr ⟨fun h_21 => ?_, fun h_21 => ?_⟩
          · have t22 : x8_310736.toInt64.toInt = x8_310736.toInt := Int32.toInt_toInt64 _
            refine ok_nm2 (fun x16_310736 ex16_310736 => ?_)
            try unfold jX10_becomes_105
            refine ok_gd.mpr ⟨gb_of (by omega) (by omega), ?_⟩
            refine ok_nm2 (fun σ11_310738 eσ11_310738 => ?_)
            have hIσ11_310738 : IM σ11_310738 := by rw [eσ11_310738]; exact IM_w hIσ (Int32.le_toInt _) (Int32.toInt_le _)
            have hfσ11_310738 : Fr fr_fX10_becomes σ σ11_310738 := by rw [eσ11_310738]; exact Fr_w0 hfσ (by decide)
            have sσ11_310738_0_41 : (σ11_310738.1 0 41).toInt = (σ.1 0 41).toInt := by rw [eσ11_310738]; rfl
            refine ok_gd.mpr ⟨gb_of (by omega) (by omega), ?_⟩
            refine ok_nm2 (fun v12_310738 ev12_310738 => ?_)
            refine ok_ite.mpr ⟨fun h_23 => ?_, fun h_23 => ?_⟩
            · have g24 : x8_310736.toInt = v12_310738.toInt := by rw [h_23]
              refine ok_some.mpr ?_
              exact ⟨hIσ11_310738, hfσ11_310738, (show 0 ≤ (0 : Int32).toInt by omega), (show (0 : Int32).toInt ≤ 1 by omega)⟩
            · have g25 : x8_310736.toInt ≠ v12_310738.toInt := fun z => h_23 (Int32.toInt_inj.mp z)
              refine ok_some.mpr ?_
              have l_1 : (1 : Int32).toInt = 1 := by decide
              exact ⟨hIσ11_310738, hfσ11_310738, (show 0 ≤ (1 : Int32).toInt by omega), (show (1 : Int32).toInt ≤ 1 by omega)⟩
          · have t26 : x8_310736.toInt64.toInt = x8_310736.toInt := Int32.toInt_toInt64 _
            try unfold jX10_becomes_105
            refine ok_gd.mpr ⟨gb_of (by omega) (by omega), ?_⟩
            refine ok_nm2 (fun σ11_310739 eσ11_310739 => ?_)
            have hIσ11_310739 : IM σ11_310739 := by rw [eσ11_310739]; exact IM_w hIσ (Int32.le_toInt _) (Int32.toInt_le _)
            have hfσ11_310739 : Fr fr_fX10_becomes σ σ11_310739 := by rw [eσ11_310739]; exact Fr_w0 hfσ (by decide)
            have sσ11_310739_0_41 : (σ11_310739.1 0 41).toInt = (σ.1 0 41).toInt := by rw [eσ11_310739]; rfl
            refine ok_gd.mpr ⟨gb_of (by omega) (by omega), ?_⟩
            refine ok_nm2 (fun v12_310739 ev12_310739 => ?_)
            refine ok_ite.mpr ⟨fun h_27 => ?_, fun h_27 => ?_⟩
            · have g28 : x8_310736.toInt = v12_310739.toInt := by rw [h_27]
              refine ok_some.mpr ?_
              exact ⟨hIσ11_310739, hfσ11_310739, (show 0 ≤ (0 : Int32).toInt by omega), (show (0 : Int32).toInt ≤ 1 by omega)⟩
            · have g29 : x8_310736.toInt ≠ v12_310739.toInt := fun z => h_27 (Int32.toInt_inj.mp z)
              refine ok_some.mpr ?_
              have l_1 : (1 : Int32).toInt = 1 := by decide
              exact ⟨hIσ11_310739, hfσ11_310739, (show 0 ≤ (1 : Int32).toInt by omega), (show (1 : Int32).toInt ≤ 1 by omega)⟩
        · try unfold jX10_becomes_105
          refine ok_gd.mpr ⟨gb_of (by omega) (by omega), ?_⟩
          refine ok_nm2 (fun σ11_310740 eσ11_310740 => ?_)
          have hIσ11_310740 : IM σ11_310740 := by rw [eσ11_310740]; exact IM_w hIσ (Int32.le_toInt _) (Int32.toInt_le _)
          have hfσ11_310740 : Fr fr_fX10_becomes σ σ11_310740 := by rw [eσ11_310740]; exact Fr_w0 hfσ (by decide)
          have sσ11_310740_0_41 : (σ11_310740.1 0 41).toInt = (σ.1 0 41).toInt := by rw [eσ11_310740]; rfl
          refine ok_gd.mpr ⟨gb_of (by omega) (by omega), ?_⟩
          refine ok_nm2 (fun v12_310740 ev12_310740 => ?_)
          refine ok_ite.mpr ⟨fun h_30 => ?_, fun h_30 => ?_⟩
          · have g31 : x8_310736.toInt = v12_310740.toInt := by rw [h_30]
            refine ok_some.mpr ?_
            exact ⟨hIσ11_310740, hfσ11_310740, (show 0 ≤ (0 : Int32).toInt by omega), (show (0 : Int32).toInt ≤ 1 by omega)⟩
          · have g32 : x8_310736.toInt ≠ v12_310740.toInt := fun z => h_30 (Int32.toInt_inj.mp z)
            refine ok_some.mpr ?_
            have l_1 : (1 : Int32).toInt = 1 := by decide
            exact ⟨hIσ11_310740, hfσ11_310740, (show 0 ≤ (1 : Int32).toInt by omega), (show (1 : Int32).toInt ≤ 1 by omega)⟩
    · have t33 : (0 : Int64).toInt = 0 := by decide
      refine ok_nm2 (fun x17 ex17 => ?_)
      refine ok_nm2 (fun x18 ex18 => ?_)
      try unfold jX10_becomes_53
      refine ok_gd.mpr ⟨gb_of (by omega) (by omega), ?_⟩
      refine ok_nm2 (fun v7_310741 ev7_310741 => ?_)
      refine ok_nm2 (fun x8_310741 ex8_310741 => ?_)
      have qx8_310741 : x8_310741.toInt = v7_310741.toInt := by rw [ex8_310741]
      refine ok_ite.mpr ⟨fun h_34 => ?_, fun h_34 => ?_⟩
      · have t35 : (σ.1 0 41).toInt64.toInt = (σ.1 0 41).toInt := Int32.toInt_toInt64 _
        refine ok_nm2 (fun x10_310741 ex10_310741 => ?_)
        try unfold jX10_becomes_105
        refine ok_gd.mpr ⟨gb_of (by omega) (by omega), ?_⟩
        refine ok_nm2 (fun σ11_310742 eσ11_310742 => ?_)
        have hIσ11_310742 : IM σ11_310742 := by rw [eσ11_310742]; exact IM_w hIσ (Int32.le_toInt _) (Int32.toInt_le _)
        have hfσ11_310742 : Fr fr_fX10_becomes σ σ11_310742 := by rw [eσ11_310742]; exact Fr_w0 hfσ (by decide)
        have sσ11_310742_0_41 : (σ11_310742.1 0 41).toInt = (σ.1 0 41).toInt := by rw [eσ11_310742]; rfl
        refine ok_gd.mpr ⟨gb_of (by omega) (by omega), ?_⟩
        refine ok_nm2 (fun v12_310742 ev12_310742 => ?_)
        refine ok_ite.mpr ⟨fun h_36 => ?_, fun h_36 => ?_⟩
        · have g37 : x8_310741.toInt = v12_310742.toInt := by rw [h_36]
          refine ok_some.mpr ?_
          exact ⟨hIσ11_310742, hfσ11_310742, (show 0 ≤ (0 : Int32).toInt by omega), (show (0 : Int32).toInt ≤ 1 by omega)⟩
        · have g38 : x8_310741.toInt ≠ v12_310742.toInt := fun z => h_36 (Int32.toInt_inj.mp z)
          refine ok_some.mpr ?_
          have l_1 : (1 : Int32).toInt = 1 := by decide
          exact ⟨hIσ11_310742, hfσ11_310742, (show 0 ≤ (1 : Int32).toInt by omega), (show (1 : Int32).toInt ≤ 1 by omega)⟩
      · have t39 : (σ.1 0 41).toInt64.toInt = (σ.1 0 41).toInt := Int32.toInt_toInt64 _
        refine ok_ite.mpr ⟨fun h_40 => ?_, fun h_40 => ?_⟩
        · refine ok_ite.mpr ⟨fun h_41 => ?_, fun h_41 => ?_⟩
          · have t42 : x8_310741.toInt64.toInt = x8_310741.toInt := Int32.toInt_toInt64 _
            refine ok_nm2 (fun x16_310741 ex16_310741 => ?_)
            try unfold jX10_becomes_105
            refine ok_gd.mpr ⟨gb_of (by omega) (by omega), ?_⟩
            refine ok_nm2 (fun σ11_310743 eσ11_310743 => ?_)
            have hIσ11_310743 : IM σ11_310743 := by rw [eσ11_310743]; exact IM_w hIσ (Int32.le_toInt _) (Int32.toInt_le _)
            have hfσ11_310743 : Fr fr_fX10_becomes σ σ11_310743 := by rw [eσ11_310743]; exact Fr_w0 hfσ (by decide)
            have sσ11_310743_0_41 : (σ11_310743.1 0 41).toInt = (σ.1 0 41).toInt := by rw [eσ11_310743]; rfl
            refine ok_gd.mpr ⟨gb_of (by omega) (by omega), ?_⟩
            refine ok_nm2 (fun v12_310743 ev12_310743 => ?_)
            refine ok_ite.mpr ⟨fun h_43 => ?_, fun h_43 => ?_⟩
            · have g44 : x8_310741.toInt = v12_310743.toInt := by rw [h_43]
              refine ok_some.mpr ?_
              exact ⟨hIσ11_310743, hfσ11_310743, (show 0 ≤ (0 : Int32).toInt by omega), (show (0 : Int32).toInt ≤ 1 by omega)⟩
            · have g45 : x8_310741.toInt ≠ v12_310743.toInt := fun z => h_43 (Int32.toInt_inj.mp z)
              refine ok_some.mpr ?_
              have l_1 : (1 : Int32).toInt = 1 := by decide
              exact ⟨hIσ11_310743, hfσ11_310743, (show 0 ≤ (1 : Int32).toInt by omega), (show (1 : Int32).toInt ≤ 1 by omega)⟩
          · have t46 : x8_310741.toInt64.toInt = x8_310741.toInt := Int32.toInt_toInt64 _
            try unfold jX10_becomes_105
            refine ok_gd.mpr ⟨gb_of (by omega) (by omega), ?_⟩
            refine ok_nm2 (fun σ11_310744 eσ11_310744 => ?_)
            have hIσ11_310744 : IM σ11_310744 := by rw [eσ11_310744]; exact IM_w hIσ (Int32.le_toInt _) (Int32.toInt_le _)
            have hfσ11_310744 : Fr fr_fX10_becomes σ σ11_310744 := by rw [eσ11_310744]; exact Fr_w0 hfσ (by decide)
            have sσ11_310744_0_41 : (σ11_310744.1 0 41).toInt = (σ.1 0 41).toInt := by rw [eσ11_310744]; rfl
            refine ok_gd.mpr ⟨gb_of (by omega) (by omega), ?_⟩
            refine ok_nm2 (fun v12_310744 ev12_310744 => ?_)
            refine ok_ite.mpr ⟨fun h_47 => ?_, fun h_47 => ?_⟩
            · have g48 : x8_310741.toInt = v12_310744.toInt := by rw [h_47]
              refine ok_some.mpr ?_
              exact ⟨hIσ11_310744, hfσ11_310744, (show 0 ≤ (0 : Int32).toInt by omega), (show (0 : Int32).toInt ≤ 1 by omega)⟩
            · have g49 : x8_310741.toInt ≠ v12_310744.toInt := fun z => h_47 (Int32.toInt_inj.mp z)
              refine ok_some.mpr ?_
              have l_1 : (1 : Int32).toInt = 1 := by decide
              exact ⟨hIσ11_310744, hfσ11_310744, (show 0 ≤ (1 : Int32).toInt by omega), (show (1 : Int32).toInt ≤ 1 by omega)⟩
        · try unfold jX10_becomes_105
          refine ok_gd.mpr ⟨gb_of (by omega) (by omega), ?_⟩
          refine ok_nm2 (fun σ11_310745 eσ11_310745 => ?_)
          have hIσ11_310745 : IM σ11_310745 := by rw [eσ11_310745]; exact IM_w hIσ (Int32.le_toInt _) (Int32.toInt_le _)
          have hfσ11_310745 : Fr fr_fX10_becomes σ σ11_310745 := by rw [eσ11_310745]; exact Fr_w0 hfσ (by decide)
          have sσ11_310745_0_41 : (σ11_310745.1 0 41).toInt = (σ.1 0 41).toInt := by rw [eσ11_310745]; rfl
          refine ok_gd.mpr ⟨gb_of (by omega) (by omega), ?_⟩
          refine ok_nm2 (fun v12_310745 ev12_310745 => ?_)
          refine ok_ite.mpr ⟨fun h_50 => ?_, fun h_50 => ?_⟩
          · have g51 : x8_310741.toInt = v12_310745.toInt := by rw [h_50]
            refine ok_some.mpr ?_
            exact ⟨hIσ11_310745, hfσ11_310745, (show 0 ≤ (0 : Int32).toInt by omega), (show (0 : Int32).toInt ≤ 1 by omega)⟩
          · have g52 : x8_310741.toInt ≠ v12_310745.toInt := fun z => h_50 (Int32.toInt_inj.mp z)
            refine ok_some.mpr ?_
            have l_1 : (1 : Int32).toInt = 1 := by decide
            exact ⟨hIσ11_310745, hfσ11_310745, (show 0 ≤ (1 : Int32).toInt by omega), (show (1 : Int32).toInt ≤ 1 by omega)⟩
set_option maxRecDepth 20000 in
set_option maxHeartbeats 2000000 in
theorem o_fX10_mean {σ : gS} (hIσ : IM σ) {p1 : Int32} {p2 : Int32} (h0p1 : 0 ≤ p1.toInt) (h1p1 : p1.toInt ≤ 9) : Ok (fX10_mean σ p1 p2) (fun out => IM out ∧ Fr fr_fX10_mean σ out) := by
  unfold fX10_mean
  have hfσ : Fr fr_fX10_mean σ σ := Fr_r
  refine ok_nm2 (fun σ1 eσ1 => ?_)
  have hIσ1 : IM σ1 := by rw [eσ1]; exact IM_l hIσ
  have hfσ1 : Fr fr_fX10_mean σ σ1 := by rw [eσ1]; exact Fr_l hfσ (by decide)
  have sσ1_0_41 : (σ1.1 0 41).toInt = (σ.1 0 41).toInt := by rw [eσ1]; rfl
  refine ok_nm2 (fun σ2 eσ2 => ?_)
  have hIσ2 : IM σ2 := by rw [eσ2]; exact IM_w hIσ1 (Int32.le_toInt _) (Int32.toInt_le _)
  have hfσ2 : Fr fr_fX10_mean σ σ2 := by rw [eσ2]; exact Fr_w hfσ1 (by decide)
  have sσ2_0_41 : (σ2.1 0 41).toInt = ((σ1.1 0 41) + p1).toInt := by rw [eσ2]; rfl
  refine ok_some.mpr ?_
  exact ⟨hIσ2, hfσ2⟩
set_option maxRecDepth 20000 in
set_option maxHeartbeats 2000000 in
theorem o_fX10_isDriftAltered {σ : gS} (hIσ : IM σ) {p1 : Int32} {p2 : Int32} (h0p1 : 0 ≤ p1.toInt) (h1p1 : p1.toInt ≤ 5) (h0p2 : 0 ≤ p2.toInt) (h1p2 : p2.toInt ≤ 1) : Ok (fX10_isDriftAltered σ p1 p2) (fun out => IM out.2 ∧ Fr fr_fX10_isDriftAltered σ out.2 ∧ 0 ≤ out.1.toInt ∧ out.1.toInt ≤ 1) := by
  unfold fX10_isDriftAltered
  have hfσ : Fr fr_fX10_isDriftAltered σ σ := Fr_r
  refine ok_bd.mpr ((o_fX10_noMean hIσ ).mono (fun σ2 ho_2 => ?_))
  obtain ⟨hIσ2, hcσ2⟩ := ho_2
  have hfσ2 : Fr fr_fX10_isDriftAltered σ σ2 := Fr_c hfσ hcσ2 (by decide)
  refine ok_nm2 (fun x3 ex3 => ?_)
  have l_0 : (0 : Int32).toInt = 0 := by decide
  have qx3 : x3.toInt = 0 := by rw [ex3]; decide
  refine ok_lpc (I := fun n s => n = (12 + 1 - s.1.toInt).toNat ∧ IM s.2 ∧ Fr fr_fX10_isDriftAltered σ s.2 ∧ 0 ≤ s.1.toInt ∧ s.1.toInt ≤ 12) (fun rec6_310746r n_310746 s_310746 hs_310746 hrec_310746 => ?_) K9 _ _ ⟨rfl, hIσ2, hfσ2, (by (try dsimp only); omega), (by (try dsimp only); omega)⟩ (by unfold K9; (try dsimp only); omega)
  obtain ⟨a3_310746, σ1_310746⟩ := s_310746
  obtain ⟨hn_310746, hIσ1_310746, hfσ1_310746, b0a3_310746, b1a3_310746⟩ := hs_310746
  dsimp only at hn_310746 hIσ1_310746 hfσ1_310746 b0a3_310746 b1a3_310746
  unfold bX10_isDriftAltered_6
  try dsimp only
  refine ok_bd.mpr ?_
  try unfold fX10_pictures
  have l_7 : (7 : Int32).toInt = 7 := by decide
  refine ok_gd.mpr ⟨gb_of (by omega) (by omega), ?_⟩
  refine ok_nm2 (fun v1_310768 ev1_310768 => ?_)
  have f3 : 0 ≤ (σ1_310746.1 15 (7 : Int32).toNatClampNeg).toInt ∧ (σ1_310746.1 15 (7 : Int32).toNatClampNeg).toInt ≤ 12 := hIσ1_310746 15 _
  have qv1_310768 : v1_310768.toInt = (σ1_310746.1 15 (7 : Int32).toNatClampNeg).toInt := by rw [ev1_310768]
  refine ok_some.mpr ?_
  refine ok_ite.mpr ⟨fun h_4 => ?_, fun h_4 => ?_⟩
  · have g5 : v1_310768.toInt ≤ a3_310746.toInt := Int32.le_iff_toInt_le.mp h_4
    have l_38 : (38 : Int32).toInt = 38 := by decide
    have f6 : ((38 : Int32) * p2).toInt = 38 * p2.toInt := imulc l_38 (by omega) (by omega)
    have l_32 : (32 : Int32).toInt = 32 := by decide
    have f7 : ((38 * p2) + (32 : Int32)).toInt = (38 * p2).toInt + (32 : Int32).toInt := iadd_toInt (by omega) (by omega)
    have f8 : (((38 * p2) + 32) + p1).toInt = ((38 * p2) + 32).toInt + p1.toInt := iadd_toInt (by omega) (by omega)
    refine ok_bd2.mpr ((o_fX10_becomes hIσ1_310746 (by omega) (by omega)).mono (fun o_9 ho_10 => ?_))
    obtain ⟨r8_310767_310769, σ9_310767_310769⟩ := o_9
    obtain ⟨hIσ9_310767_310769, hcσ9_310767_310769, r0r8_310767_310769, r1r8_310767_310769⟩ := ho_10
    dsimp only at hIσ9_310767_310769 hcσ9_310767_310769 r0r8_310767_310769 r1r8_310767_310769 ⊢
    have hfσ9_310767_310769 : Fr fr_fX10_isDriftAltered σ σ9_310767_310769 := Fr_c hfσ1_310746 hcσ9_310767_310769 (by decide)
    refine ok_some.mpr ?_
    have f11 : 0 ≤ (vp_nar .boolean r8_310767_310769).toInt ∧ (vp_nar .boolean r8_310767_310769).toInt ≤ 1 := nar_bool _
    exact ⟨hIσ9_310767_310769, hfσ9_310767_310769, (show 0 ≤ (vp_nar .boolean r8_310767_310769).toInt by omega), (show (vp_nar .boolean r8_310767_310769).toInt ≤ 1 by omega)⟩
  · have g12 : ¬ v1_310768.toInt ≤ a3_310746.toInt := fun z => h_4 (Int32.le_iff_toInt_le.mpr z)
    refine ok_bd.mpr ?_
    try unfold fX10_strip
    have l_12 : (12 : Int32).toInt = 12 := by decide
    have f13 : ((12 : Int32) + a3_310746).toInt = (12 : Int32).toInt + a3_310746.toInt := iadd_toInt (by omega) (by omega)
    refine ok_gd.mpr ⟨gb_of (by omega) (by omega), ?_⟩
    refine ok_nm2 (fun v1_310770 ev1_310770 => ?_)
    have f14 : 0 ≤ (σ1_310746.1 16 (12 + a3_310746).toNatClampNeg).toInt ∧ (σ1_310746.1 16 (12 + a3_310746).toNatClampNeg).toInt ≤ 5 := hIσ1_310746 16 _
    have qv1_310770 : v1_310770.toInt = (σ1_310746.1 16 (12 + a3_310746).toNatClampNeg).toInt := by rw [ev1_310770]
    refine ok_some.mpr ?_
    refine ok_ite.mpr ⟨fun h_15 => ?_, fun h_15 => ?_⟩
    · have g16 : v1_310770.toInt = p1.toInt := by rw [h_15]
      refine ok_bd.mpr ?_
      try unfold fX10_centreOf
      refine ok_gd.mpr ⟨gb_of (by omega) (by omega), ?_⟩
      refine ok_nm2 (fun v1_310772 ev1_310772 => ?_)
      have f17 : 0 ≤ (σ1_310746.1 18 (12 + a3_310746).toNatClampNeg).toInt ∧ (σ1_310746.1 18 (12 + a3_310746).toNatClampNeg).toInt ≤ 9 := hIσ1_310746 18 _
      have qv1_310772 : v1_310772.toInt = (σ1_310746.1 18 (12 + a3_310746).toNatClampNeg).toInt := by rw [ev1_310772]
      refine ok_some.mpr ?_
      refine ok_ite.mpr ⟨fun h_18 => ?_, fun h_18 => ?_⟩
      · have g19 : v1_310772.toInt ≤ (0 : Int32).toInt := Int32.le_iff_toInt_le.mp h_18
        refine ok_nm2 (fun x17_310767_310769_310771_310773 ex17_310767_310769_310771_310773 => ?_)
        have l_1 : (1 : Int32).toInt = 1 := by decide
        have f20 : (a3_310746 + (1 : Int32)).toInt = a3_310746.toInt + (1 : Int32).toInt := iadd_toInt (by omega) (by omega)
        have qx17_310767_310769_310771_310773 : x17_310767_310769_310771_310773.toInt = (a3_310746 + 1).toInt := by rw [ex17_310767_310769_310771_310773]
        exact hrec_310746 _ (x17_310767_310769_310771_310773, σ1_310746) (show (12 + 1 - x17_310767_310769_310771_310773.toInt).toNat < n_310746 by omega) ⟨rfl, hIσ1_310746, hfσ1_310746, (show 0 ≤ x17_310767_310769_310771_310773.toInt by omega), (show x17_310767_310769_310771_310773.toInt ≤ 12 by omega)⟩
      · have g21 : ¬ v1_310772.toInt ≤ (0 : Int32).toInt := fun z => h_18 (Int32.le_iff_toInt_le.mpr z)
        refine ok_bd.mpr ?_
        try unfold fX10_centreOf
        refine ok_gd.mpr ⟨gb_of (by omega) (by omega), ?_⟩
        refine ok_nm2 (fun v1_310774 ev1_310774 => ?_)
        have qv1_310774 : v1_310774.toInt = (σ1_310746.1 18 (12 + a3_310746).toNatClampNeg).toInt := by rw [ev1_310774]
        refine ok_some.mpr ?_
        have l_38 : (38 : Int32).toInt = 38 := by decide
        have f22 : ((38 : Int32) * p2).toInt = 38 * p2.toInt := imulc l_38 (by omega) (by omega)
        have f23 : ((38 * p2) + a3_310746).toInt = (38 * p2).toInt + a3_310746.toInt := iadd_toInt (by omega) (by omega)
        refine ok_gd.mpr ⟨gb_of (by omega) (by omega), ?_⟩
        refine ok_nm2 (fun v20_310767_310769_310771_310773_310775 ev20_310767_310769_310771_310773_310775 => ?_)
        have l_24 : (24 : Int32).toInt = 24 := by decide
        have l_2 : (2 : Int32).toInt = 2 := by decide
        have f24 : ((2 : Int32) * a3_310746).toInt = 2 * a3_310746.toInt := imulc l_2 (by omega) (by omega)
        have f25 : ((24 : Int32) + (2 * a3_310746)).toInt = (24 : Int32).toInt + (2 * a3_310746).toInt := iadd_toInt (by omega) (by omega)
        have f26 : ((24 + (2 * a3_310746)) + p2).toInt = (24 + (2 * a3_310746)).toInt + p2.toInt := iadd_toInt (by omega) (by omega)
        refine ok_gd.mpr ⟨gb_of (by omega) (by omega), ?_⟩
        refine ok_nm2 (fun v21_310767_310769_310771_310773_310775 ev21_310767_310769_310771_310773_310775 => ?_)
        have f27 : 0 ≤ (σ1_310746.1 19 ((24 + (2 * a3_310746)) + p2).toNatClampNeg).toInt ∧ (σ1_310746.1 19 ((24 + (2 * a3_310746)) + p2).toNatClampNeg).toInt ≤ 9999 := hIσ1_310746 19 _
        have qv21_310767_310769_310771_310773_310775 : v21_310767_310769_310771_310773_310775.toInt = (σ1_310746.1 19 ((24 + (2 * a3_310746)) + p2).toNatClampNeg).toInt := by rw [ev21_310767_310769_310771_310773_310775]
        have l_100 : (100 : Int32).toInt = 100 := by decide
        have f28 : ((100 : Int32) * v21_310767_310769_310771_310773_310775).toInt = 100 * v21_310767_310769_310771_310773_310775.toInt := imulc l_100 (by omega) (by omega)
        refine ok_bd.mpr ((o_fX10_mean hIσ1_310746 (by omega) (by omega)).mono (fun σ23_310767_310769_310771_310773_310775 ho_30 => ?_))
        obtain ⟨hIσ23_310767_310769_310771_310773_310775, hcσ23_310767_310769_310771_310773_310775⟩ := ho_30
        have hfσ23_310767_310769_310771_310773_310775 : Fr fr_fX10_isDriftAltered σ σ23_310767_310769_310771_310773_310775 := Fr_c hfσ1_310746 hcσ23_310767_310769_310771_310773_310775 (by decide)
        refine ok_nm2 (fun x24_310767_310769_310771_310773_310775 ex24_310767_310769_310771_310773_310775 => ?_)
        have l_1 : (1 : Int32).toInt = 1 := by decide
        have f31 : (a3_310746 + (1 : Int32)).toInt = a3_310746.toInt + (1 : Int32).toInt := iadd_toInt (by omega) (by omega)
        have qx24_310767_310769_310771_310773_310775 : x24_310767_310769_310771_310773_310775.toInt = (a3_310746 + 1).toInt := by rw [ex24_310767_310769_310771_310773_310775]
        exact hrec_310746 _ (x24_310767_310769_310771_310773_310775, σ23_310767_310769_310771_310773_310775) (show (12 + 1 - x24_310767_310769_310771_310773_310775.toInt).toNat < n_310746 by omega) ⟨rfl, hIσ23_310767_310769_310771_310773_310775, hfσ23_310767_310769_310771_310773_310775, (show 0 ≤ x24_310767_310769_310771_310773_310775.toInt by omega), (show x24_310767_310769_310771_310773_310775.toInt ≤ 12 by omega)⟩
    · have g32 : v1_310770.toInt ≠ p1.toInt := fun z => h_15 (Int32.toInt_inj.mp z)
      refine ok_nm2 (fun x13_310767_310769_310771 ex13_310767_310769_310771 => ?_)
      have l_1 : (1 : Int32).toInt = 1 := by decide
      have f33 : (a3_310746 + (1 : Int32)).toInt = a3_310746.toInt + (1 : Int32).toInt := iadd_toInt (by omega) (by omega)
      have qx13_310767_310769_310771 : x13_310767_310769_310771.toInt = (a3_310746 + 1).toInt := by rw [ex13_310767_310769_310771]
      exact hrec_310746 _ (x13_310767_310769_310771, σ1_310746) (show (12 + 1 - x13_310767_310769_310771.toInt).toNat < n_310746 by omega) ⟨rfl, hIσ1_310746, hfσ1_310746, (show 0 ≤ x13_310767_310769_310771.toInt by omega), (show x13_310767_310769_310771.toInt ≤ 12 by omega)⟩
set_option maxRecDepth 20000 in
set_option maxHeartbeats 2000000 in
theorem o_fX10_isPictureAltered {σ : gS} (hIσ : IM σ) {p1 : Int32} {p2 : Int32} (h0p1 : 0 ≤ p1.toInt) (h1p1 : p1.toInt ≤ 11) (h0p2 : 0 ≤ p2.toInt) (h1p2 : p2.toInt ≤ 1) : Ok (fX10_isPictureAltered σ p1 p2) (fun out => IM out.2 ∧ Fr fr_fX10_isPictureAltered σ out.2 ∧ 0 ≤ out.1.toInt ∧ out.1.toInt ≤ 1) := by
  unfold fX10_isPictureAltered
  have hfσ : Fr fr_fX10_isPictureAltered σ σ := Fr_r
  refine ok_bd.mpr ((o_fX10_noMean hIσ ).mono (fun σ2 ho_2 => ?_))
  obtain ⟨hIσ2, hcσ2⟩ := ho_2
  have hfσ2 : Fr fr_fX10_isPictureAltered σ σ2 := Fr_c hfσ hcσ2 (by decide)
  refine ok_nm2 (fun x3 ex3 => ?_)
  have l_0 : (0 : Int32).toInt = 0 := by decide
  have qx3 : x3.toInt = 0 := by rw [ex3]; decide
  refine ok_lpc (I := fun n s => n = (60 + 1 - s.1.toInt).toNat ∧ IM s.2 ∧ Fr fr_fX10_isPictureAltered σ s.2 ∧ 0 ≤ s.1.toInt ∧ s.1.toInt ≤ 60) (fun rec6_310776r n_310776 s_310776 hs_310776 hrec_310776 => ?_) K9 _ _ ⟨rfl, hIσ2, hfσ2, (by (try dsimp only); omega), (by (try dsimp only); omega)⟩ (by unfold K9; (try dsimp only); omega)
  obtain ⟨a3_310776, σ1_310776⟩ := s_310776
  obtain ⟨hn_310776, hIσ1_310776, hfσ1_310776, b0a3_310776, b1a3_310776⟩ := hs_310776
  dsimp only at hn_310776 hIσ1_310776 hfσ1_310776 b0a3_310776 b1a3_310776
  unfold bX10_isPictureAltered_6
  try dsimp only
  refine ok_bd.mpr ?_
  try unfold fX10_rows
  have l_9 : (9 : Int32).toInt = 9 := by decide
  refine ok_gd.mpr ⟨gb_of (by omega) (by omega), ?_⟩
  refine ok_nm2 (fun v1_310848 ev1_310848 => ?_)
  have f3 : 0 ≤ (σ1_310776.1 15 (9 : Int32).toNatClampNeg).toInt ∧ (σ1_310776.1 15 (9 : Int32).toNatClampNeg).toInt ≤ 60 := hIσ1_310776 15 _
  have qv1_310848 : v1_310848.toInt = (σ1_310776.1 15 (9 : Int32).toNatClampNeg).toInt := by rw [ev1_310848]
  refine ok_some.mpr ?_
  refine ok_ite.mpr ⟨fun h_4 => ?_, fun h_4 => ?_⟩
  · have g5 : v1_310848.toInt ≤ a3_310776.toInt := Int32.le_iff_toInt_le.mp h_4
    refine ok_bd.mpr ?_
    try unfold fX10_centreOf
    have l_12 : (12 : Int32).toInt = 12 := by decide
    have f6 : ((12 : Int32) + p1).toInt = (12 : Int32).toInt + p1.toInt := iadd_toInt (by omega) (by omega)
    refine ok_gd.mpr ⟨gb_of (by omega) (by omega), ?_⟩
    refine ok_nm2 (fun v1_310850 ev1_310850 => ?_)
    have f7 : 0 ≤ (σ1_310776.1 18 (12 + p1).toNatClampNeg).toInt ∧ (σ1_310776.1 18 (12 + p1).toNatClampNeg).toInt ≤ 9 := hIσ1_310776 18 _
    have qv1_310850 : v1_310850.toInt = (σ1_310776.1 18 (12 + p1).toNatClampNeg).toInt := by rw [ev1_310850]
    refine ok_some.mpr ?_
    refine ok_ite.mpr ⟨fun h_8 => ?_, fun h_8 => ?_⟩
    · have g9 : v1_310850.toInt ≤ (0 : Int32).toInt := Int32.le_iff_toInt_le.mp h_8
      try unfold jX10_isPictureAltered_124
      have l_38 : (38 : Int32).toInt = 38 := by decide
      have f10 : ((38 : Int32) * p2).toInt = 38 * p2.toInt := imulc l_38 (by omega) (by omega)
      have f11 : ((38 * p2) + p1).toInt = (38 * p2).toInt + p1.toInt := iadd_toInt (by omega) (by omega)
      refine ok_bd2.mpr ((o_fX10_becomes hIσ1_310776 (by omega) (by omega)).mono (fun o_12 ho_13 => ?_))
      obtain ⟨r11_310852, σ12_310852⟩ := o_12
      obtain ⟨hIσ12_310852, hcσ12_310852, r0r11_310852, r1r11_310852⟩ := ho_13
      dsimp only at hIσ12_310852 hcσ12_310852 r0r11_310852 r1r11_310852 ⊢
      have hfσ12_310852 : Fr fr_fX10_isPictureAltered σ σ12_310852 := Fr_c hfσ1_310776 hcσ12_310852 (by decide)
      refine ok_some.mpr ?_
      have f14 : 0 ≤ (vp_nar .boolean r11_310852).toInt ∧ (vp_nar .boolean r11_310852).toInt ≤ 1 := nar_bool _
      exact ⟨hIσ12_310852, hfσ12_310852, (show 0 ≤ (vp_nar .boolean r11_310852).toInt by omega), (show (vp_nar .boolean r11_310852).toInt ≤ 1 by omega)⟩
    · have g15 : ¬ v1_310850.toInt ≤ (0 : Int32).toInt := fun z => h_8 (Int32.le_iff_toInt_le.mpr z)
      refine ok_bd.mpr ?_
      try unfold fX10_centreOf
      refine ok_gd.mpr ⟨gb_of (by omega) (by omega), ?_⟩
      refine ok_nm2 (fun v1_310853 ev1_310853 => ?_)
      have qv1_310853 : v1_310853.toInt = (σ1_310776.1 18 (12 + p1).toNatClampNeg).toInt := by rw [ev1_310853]
      refine ok_some.mpr ?_
      refine ok_bd.mpr ?_
      try unfold fX10_strip
      refine ok_gd.mpr ⟨gb_of (by omega) (by omega), ?_⟩
      refine ok_nm2 (fun v1_310855 ev1_310855 => ?_)
      have f16 : 0 ≤ (σ1_310776.1 16 (12 + p1).toNatClampNeg).toInt ∧ (σ1_310776.1 16 (12 + p1).toNatClampNeg).toInt ≤ 5 := hIσ1_310776 16 _
      have qv1_310855 : v1_310855.toInt = (σ1_310776.1 16 (12 + p1).toNatClampNeg).toInt := by rw [ev1_310855]
      refine ok_some.mpr ?_
      have l_38 : (38 : Int32).toInt = 38 := by decide
      have f17 : ((38 : Int32) * p2).toInt = 38 * p2.toInt := imulc l_38 (by omega) (by omega)
      have l_32 : (32 : Int32).toInt = 32 := by decide
      have f18 : ((38 * p2) + (32 : Int32)).toInt = (38 * p2).toInt + (32 : Int32).toInt := iadd_toInt (by omega) (by omega)
      have f19 : (((38 * p2) + 32) + v1_310855).toInt = ((38 * p2) + 32).toInt + v1_310855.toInt := iadd_toInt (by omega) (by omega)
      refine ok_gd.mpr ⟨gb_of (by omega) (by omega), ?_⟩
      refine ok_nm2 (fun v17_310847_310849_310851_310854_310856 ev17_310847_310849_310851_310854_310856 => ?_)
      have l_24 : (24 : Int32).toInt = 24 := by decide
      have l_2 : (2 : Int32).toInt = 2 := by decide
      have f20 : ((2 : Int32) * p1).toInt = 2 * p1.toInt := imulc l_2 (by omega) (by omega)
      have f21 : ((24 : Int32) + (2 * p1)).toInt = (24 : Int32).toInt + (2 * p1).toInt := iadd_toInt (by omega) (by omega)
      have f22 : ((24 + (2 * p1)) + p2).toInt = (24 + (2 * p1)).toInt + p2.toInt := iadd_toInt (by omega) (by omega)
      refine ok_gd.mpr ⟨gb_of (by omega) (by omega), ?_⟩
      refine ok_nm2 (fun v18_310847_310849_310851_310854_310856 ev18_310847_310849_310851_310854_310856 => ?_)
      have f23 : 0 ≤ (σ1_310776.1 19 ((24 + (2 * p1)) + p2).toNatClampNeg).toInt ∧ (σ1_310776.1 19 ((24 + (2 * p1)) + p2).toNatClampNeg).toInt ≤ 9999 := hIσ1_310776 19 _
      have qv18_310847_310849_310851_310854_310856 : v18_310847_310849_310851_310854_310856.toInt = (σ1_310776.1 19 ((24 + (2 * p1)) + p2).toNatClampNeg).toInt := by rw [ev18_310847_310849_310851_310854_310856]
      have l_100 : (100 : Int32).toInt = 100 := by decide
      have f24 : ((100 : Int32) * v18_310847_310849_310851_310854_310856).toInt = 100 * v18_310847_310849_310851_310854_310856.toInt := imulc l_100 (by omega) (by omega)
      refine ok_bd.mpr ((o_fX10_mean hIσ1_310776 (by omega) (by omega)).mono (fun σ20_310847_310849_310851_310854_310856 ho_26 => ?_))
      obtain ⟨hIσ20_310847_310849_310851_310854_310856, hcσ20_310847_310849_310851_310854_310856⟩ := ho_26
      have hfσ20_310847_310849_310851_310854_310856 : Fr fr_fX10_isPictureAltered σ σ20_310847_310849_310851_310854_310856 := Fr_c hfσ1_310776 hcσ20_310847_310849_310851_310854_310856 (by decide)
      try unfold jX10_isPictureAltered_124
      have f27 : ((38 * p2) + p1).toInt = (38 * p2).toInt + p1.toInt := iadd_toInt (by omega) (by omega)
      refine ok_bd2.mpr ((o_fX10_becomes hIσ20_310847_310849_310851_310854_310856 (by omega) (by omega)).mono (fun o_28 ho_29 => ?_))
      obtain ⟨r11_310857, σ12_310857⟩ := o_28
      obtain ⟨hIσ12_310857, hcσ12_310857, r0r11_310857, r1r11_310857⟩ := ho_29
      dsimp only at hIσ12_310857 hcσ12_310857 r0r11_310857 r1r11_310857 ⊢
      have hfσ12_310857 : Fr fr_fX10_isPictureAltered σ σ12_310857 := Fr_c hfσ20_310847_310849_310851_310854_310856 hcσ12_310857 (by decide)
      refine ok_some.mpr ?_
      have f30 : 0 ≤ (vp_nar .boolean r11_310857).toInt ∧ (vp_nar .boolean r11_310857).toInt ≤ 1 := nar_bool _
      exact ⟨hIσ12_310857, hfσ12_310857, (show 0 ≤ (vp_nar .boolean r11_310857).toInt by omega), (show (vp_nar .boolean r11_310857).toInt ≤ 1 by omega)⟩
  · have g31 : ¬ v1_310848.toInt ≤ a3_310776.toInt := fun z => h_4 (Int32.le_iff_toInt_le.mpr z)
    refine ok_gd.mpr ⟨gb_of (by omega) (by omega), ?_⟩
    refine ok_nm2 (fun v21_310847_310849 ev21_310847_310849 => ?_)
    have f32 : 0 ≤ (σ1_310776.1 26 a3_310776.toNatClampNeg).toInt ∧ (σ1_310776.1 26 a3_310776.toNatClampNeg).toInt ≤ 1 := hIσ1_310776 26 _
    have qv21_310847_310849 : v21_310847_310849.toInt = (σ1_310776.1 26 a3_310776.toNatClampNeg).toInt := by rw [ev21_310847_310849]
    refine ok_ite.mpr ⟨fun h_33 => ?_, fun h_33 => ?_⟩
    · have g34 : v21_310847_310849.toInt = (0 : Int32).toInt := by rw [h_33]
      refine ok_bd.mpr ?_
      try unfold fX10_pictureOf
      have l_60 : (60 : Int32).toInt = 60 := by decide
      have f35 : ((60 : Int32) + a3_310776).toInt = (60 : Int32).toInt + a3_310776.toInt := iadd_toInt (by omega) (by omega)
      refine ok_gd.mpr ⟨gb_of (by omega) (by omega), ?_⟩
      refine ok_nm2 (fun v1_310858 ev1_310858 => ?_)
      have f36 : 0 ≤ (σ1_310776.1 22 (60 + a3_310776).toNatClampNeg).toInt ∧ (σ1_310776.1 22 (60 + a3_310776).toNatClampNeg).toInt ≤ 11 := hIσ1_310776 22 _
      have qv1_310858 : v1_310858.toInt = (σ1_310776.1 22 (60 + a3_310776).toNatClampNeg).toInt := by rw [ev1_310858]
      refine ok_some.mpr ?_
      refine ok_ite.mpr ⟨fun h_37 => ?_, fun h_37 => ?_⟩
      · have g38 : v1_310858.toInt = p1.toInt := by rw [h_37]
        refine ok_bd.mpr ?_
        try unfold fX10_weightOf
        refine ok_gd.mpr ⟨gb_of (by omega) (by omega), ?_⟩
        refine ok_nm2 (fun v1_310860 ev1_310860 => ?_)
        have f39 : 0 ≤ (σ1_310776.1 25 (60 + a3_310776).toNatClampNeg).toInt ∧ (σ1_310776.1 25 (60 + a3_310776).toNatClampNeg).toInt ≤ 9 := hIσ1_310776 25 _
        have qv1_310860 : v1_310860.toInt = (σ1_310776.1 25 (60 + a3_310776).toNatClampNeg).toInt := by rw [ev1_310860]
        refine ok_some.mpr ?_
        refine ok_bd.mpr ?_
        try unfold fX10_pointOf
        refine ok_gd.mpr ⟨gb_of (by omega) (by omega), ?_⟩
        refine ok_nm2 (fun v1_310862 ev1_310862 => ?_)
        have f40 : 0 ≤ (σ1_310776.1 23 (60 + a3_310776).toNatClampNeg).toInt ∧ (σ1_310776.1 23 (60 + a3_310776).toNatClampNeg).toInt ≤ 19 := hIσ1_310776 23 _
        have qv1_310862 : v1_310862.toInt = (σ1_310776.1 23 (60 + a3_310776).toNatClampNeg).toInt := by rw [ev1_310862]
        refine ok_some.mpr ?_
        have l_38 : (38 : Int32).toInt = 38 := by decide
        have f41 : ((38 : Int32) * p2).toInt = 38 * p2.toInt := imulc l_38 (by omega) (by omega)
        have l_12 : (12 : Int32).toInt = 12 := by decide
        have f42 : ((38 * p2) + (12 : Int32)).toInt = (38 * p2).toInt + (12 : Int32).toInt := iadd_toInt (by omega) (by omega)
        have f43 : (((38 * p2) + 12) + v1_310862).toInt = ((38 * p2) + 12).toInt + v1_310862.toInt := iadd_toInt (by omega) (by omega)
        refine ok_gd.mpr ⟨gb_of (by omega) (by omega), ?_⟩
        refine ok_nm2 (fun v32_310847_310849_310859_310861_310863 ev32_310847_310849_310859_310861_310863 => ?_)
        refine ok_bd.mpr ((o_fX10_turned hIσ1_310776 (by omega) (by omega) (by omega) (by omega)).mono (fun r34_310847_310849_310859_310861_310863 ho_45 => ?_))
        obtain ⟨r0r34_310847_310849_310859_310861_310863, r1r34_310847_310849_310859_310861_310863⟩ := ho_45
        refine ok_bd.mpr ((o_fX10_mean hIσ1_310776 (by omega) (by omega)).mono (fun σ36_310847_310849_310859_310861_310863 ho_47 => ?_))
        obtain ⟨hIσ36_310847_310849_310859_310861_310863, hcσ36_310847_310849_310859_310861_310863⟩ := ho_47
        have hfσ36_310847_310849_310859_310861_310863 : Fr fr_fX10_isPictureAltered σ σ36_310847_310849_310859_310861_310863 := Fr_c hfσ1_310776 hcσ36_310847_310849_310859_310861_310863 (by decide)
        refine ok_nm2 (fun x37_310847_310849_310859_310861_310863 ex37_310847_310849_310859_310861_310863 => ?_)
        have l_1 : (1 : Int32).toInt = 1 := by decide
        have f48 : (a3_310776 + (1 : Int32)).toInt = a3_310776.toInt + (1 : Int32).toInt := iadd_toInt (by omega) (by omega)
        have qx37_310847_310849_310859_310861_310863 : x37_310847_310849_310859_310861_310863.toInt = (a3_310776 + 1).toInt := by rw [ex37_310847_310849_310859_310861_310863]
        exact hrec_310776 _ (x37_310847_310849_310859_310861_310863, σ36_310847_310849_310859_310861_310863) (show (60 + 1 - x37_310847_310849_310859_310861_310863.toInt).toNat < n_310776 by omega) ⟨rfl, hIσ36_310847_310849_310859_310861_310863, hfσ36_310847_310849_310859_310861_310863, (show 0 ≤ x37_310847_310849_310859_310861_310863.toInt by omega), (show x37_310847_310849_310859_310861_310863.toInt ≤ 60 by omega)⟩
      · have g49 : v1_310858.toInt ≠ p1.toInt := fun z => h_37 (Int32.toInt_inj.mp z)
        refine ok_nm2 (fun x27_310847_310849_310859 ex27_310847_310849_310859 => ?_)
        have l_1 : (1 : Int32).toInt = 1 := by decide
        have f50 : (a3_310776 + (1 : Int32)).toInt = a3_310776.toInt + (1 : Int32).toInt := iadd_toInt (by omega) (by omega)
        have qx27_310847_310849_310859 : x27_310847_310849_310859.toInt = (a3_310776 + 1).toInt := by rw [ex27_310847_310849_310859]
        exact hrec_310776 _ (x27_310847_310849_310859, σ1_310776) (show (60 + 1 - x27_310847_310849_310859.toInt).toNat < n_310776 by omega) ⟨rfl, hIσ1_310776, hfσ1_310776, (show 0 ≤ x27_310847_310849_310859.toInt by omega), (show x27_310847_310849_310859.toInt ≤ 60 by omega)⟩
    · have g51 : v21_310847_310849.toInt ≠ (0 : Int32).toInt := fun z => h_33 (Int32.toInt_inj.mp z)
      refine ok_nm2 (fun x23_310847_310849 ex23_310847_310849 => ?_)
      have l_1 : (1 : Int32).toInt = 1 := by decide
      have f52 : (a3_310776 + (1 : Int32)).toInt = a3_310776.toInt + (1 : Int32).toInt := iadd_toInt (by omega) (by omega)
      have qx23_310847_310849 : x23_310847_310849.toInt = (a3_310776 + 1).toInt := by rw [ex23_310847_310849]
      exact hrec_310776 _ (x23_310847_310849, σ1_310776) (show (60 + 1 - x23_310847_310849.toInt).toNat < n_310776 by omega) ⟨rfl, hIσ1_310776, hfσ1_310776, (show 0 ≤ x23_310847_310849.toInt by omega), (show x23_310847_310849.toInt ≤ 60 by omega)⟩
set_option maxRecDepth 20000 in
set_option maxHeartbeats 2000000 in
theorem o_fX10_isPointAltered {σ : gS} (hIσ : IM σ) {p1 : Int32} {p2 : Int32} (h0p1 : 0 ≤ p1.toInt) (h1p1 : p1.toInt ≤ 19) (h0p2 : 0 ≤ p2.toInt) (h1p2 : p2.toInt ≤ 1) : Ok (fX10_isPointAltered σ p1 p2) (fun out => IM out.2 ∧ Fr fr_fX10_isPointAltered σ out.2 ∧ 0 ≤ out.1.toInt ∧ out.1.toInt ≤ 1) := by
  unfold fX10_isPointAltered
  have hfσ : Fr fr_fX10_isPointAltered σ σ := Fr_r
  refine ok_bd.mpr ((o_fX10_noMean hIσ ).mono (fun σ2 ho_2 => ?_))
  obtain ⟨hIσ2, hcσ2⟩ := ho_2
  have hfσ2 : Fr fr_fX10_isPointAltered σ σ2 := Fr_c hfσ hcσ2 (by decide)
  refine ok_nm2 (fun x3 ex3 => ?_)
  have l_0 : (0 : Int32).toInt = 0 := by decide
  have qx3 : x3.toInt = 0 := by rw [ex3]; decide
  refine ok_lpc (I := fun n s => n = (60 + 1 - s.1.toInt).toNat ∧ IM s.2 ∧ Fr fr_fX10_isPointAltered σ s.2 ∧ 0 ≤ s.1.toInt ∧ s.1.toInt ≤ 60) (fun rec6_310864r n_310864 s_310864 hs_310864 hrec_310864 => ?_) K9 _ _ ⟨rfl, hIσ2, hfσ2, (by (try dsimp only); omega), (by (try dsimp only); omega)⟩ (by unfold K9; (try dsimp only); omega)
  obtain ⟨a3_310864, σ1_310864⟩ := s_310864
  obtain ⟨hn_310864, hIσ1_310864, hfσ1_310864, b0a3_310864, b1a3_310864⟩ := hs_310864
  dsimp only at hn_310864 hIσ1_310864 hfσ1_310864 b0a3_310864 b1a3_310864
  unfold bX10_isPointAltered_6
  try dsimp only
  refine ok_bd.mpr ?_
  try unfold fX10_rows
  have l_9 : (9 : Int32).toInt = 9 := by decide
  refine ok_gd.mpr ⟨gb_of (by omega) (by omega), ?_⟩
  refine ok_nm2 (fun v1_310896 ev1_310896 => ?_)
  have f3 : 0 ≤ (σ1_310864.1 15 (9 : Int32).toNatClampNeg).toInt ∧ (σ1_310864.1 15 (9 : Int32).toNatClampNeg).toInt ≤ 60 := hIσ1_310864 15 _
  have qv1_310896 : v1_310896.toInt = (σ1_310864.1 15 (9 : Int32).toNatClampNeg).toInt := by rw [ev1_310896]
  refine ok_some.mpr ?_
  refine ok_ite.mpr ⟨fun h_4 => ?_, fun h_4 => ?_⟩
  · have g5 : v1_310896.toInt ≤ a3_310864.toInt := Int32.le_iff_toInt_le.mp h_4
    have l_38 : (38 : Int32).toInt = 38 := by decide
    have f6 : ((38 : Int32) * p2).toInt = 38 * p2.toInt := imulc l_38 (by omega) (by omega)
    have l_12 : (12 : Int32).toInt = 12 := by decide
    have f7 : ((38 * p2) + (12 : Int32)).toInt = (38 * p2).toInt + (12 : Int32).toInt := iadd_toInt (by omega) (by omega)
    have f8 : (((38 * p2) + 12) + p1).toInt = ((38 * p2) + 12).toInt + p1.toInt := iadd_toInt (by omega) (by omega)
    refine ok_bd2.mpr ((o_fX10_becomes hIσ1_310864 (by omega) (by omega)).mono (fun o_9 ho_10 => ?_))
    obtain ⟨r8_310895_310897, σ9_310895_310897⟩ := o_9
    obtain ⟨hIσ9_310895_310897, hcσ9_310895_310897, r0r8_310895_310897, r1r8_310895_310897⟩ := ho_10
    dsimp only at hIσ9_310895_310897 hcσ9_310895_310897 r0r8_310895_310897 r1r8_310895_310897 ⊢
    have hfσ9_310895_310897 : Fr fr_fX10_isPointAltered σ σ9_310895_310897 := Fr_c hfσ1_310864 hcσ9_310895_310897 (by decide)
    refine ok_some.mpr ?_
    have f11 : 0 ≤ (vp_nar .boolean r8_310895_310897).toInt ∧ (vp_nar .boolean r8_310895_310897).toInt ≤ 1 := nar_bool _
    exact ⟨hIσ9_310895_310897, hfσ9_310895_310897, (show 0 ≤ (vp_nar .boolean r8_310895_310897).toInt by omega), (show (vp_nar .boolean r8_310895_310897).toInt ≤ 1 by omega)⟩
  · have g12 : ¬ v1_310896.toInt ≤ a3_310864.toInt := fun z => h_4 (Int32.le_iff_toInt_le.mpr z)
    refine ok_gd.mpr ⟨gb_of (by omega) (by omega), ?_⟩
    refine ok_nm2 (fun v10_310895_310897 ev10_310895_310897 => ?_)
    have f13 : 0 ≤ (σ1_310864.1 26 a3_310864.toNatClampNeg).toInt ∧ (σ1_310864.1 26 a3_310864.toNatClampNeg).toInt ≤ 1 := hIσ1_310864 26 _
    have qv10_310895_310897 : v10_310895_310897.toInt = (σ1_310864.1 26 a3_310864.toNatClampNeg).toInt := by rw [ev10_310895_310897]
    refine ok_ite.mpr ⟨fun h_14 => ?_, fun h_14 => ?_⟩
    · have g15 : v10_310895_310897.toInt = (0 : Int32).toInt := by rw [h_14]
      refine ok_bd.mpr ?_
      try unfold fX10_pointOf
      have l_60 : (60 : Int32).toInt = 60 := by decide
      have f16 : ((60 : Int32) + a3_310864).toInt = (60 : Int32).toInt + a3_310864.toInt := iadd_toInt (by omega) (by omega)
      refine ok_gd.mpr ⟨gb_of (by omega) (by omega), ?_⟩
      refine ok_nm2 (fun v1_310898 ev1_310898 => ?_)
      have f17 : 0 ≤ (σ1_310864.1 23 (60 + a3_310864).toNatClampNeg).toInt ∧ (σ1_310864.1 23 (60 + a3_310864).toNatClampNeg).toInt ≤ 19 := hIσ1_310864 23 _
      have qv1_310898 : v1_310898.toInt = (σ1_310864.1 23 (60 + a3_310864).toNatClampNeg).toInt := by rw [ev1_310898]
      refine ok_some.mpr ?_
      refine ok_ite.mpr ⟨fun h_18 => ?_, fun h_18 => ?_⟩
      · have g19 : v1_310898.toInt = p1.toInt := by rw [h_18]
        refine ok_bd.mpr ?_
        try unfold fX10_weightOf
        refine ok_gd.mpr ⟨gb_of (by omega) (by omega), ?_⟩
        refine ok_nm2 (fun v1_310900 ev1_310900 => ?_)
        have f20 : 0 ≤ (σ1_310864.1 25 (60 + a3_310864).toNatClampNeg).toInt ∧ (σ1_310864.1 25 (60 + a3_310864).toNatClampNeg).toInt ≤ 9 := hIσ1_310864 25 _
        have qv1_310900 : v1_310900.toInt = (σ1_310864.1 25 (60 + a3_310864).toNatClampNeg).toInt := by rw [ev1_310900]
        refine ok_some.mpr ?_
        refine ok_bd.mpr ((o_fX10_put hIσ1_310864 (by omega) (by omega) (by omega) (by omega)).mono (fun r20_310895_310897_310899_310901 ho_22 => ?_))
        refine ok_bd.mpr ((o_fX10_mean hIσ1_310864 (by omega) (by omega)).mono (fun σ22_310895_310897_310899_310901 ho_24 => ?_))
        obtain ⟨hIσ22_310895_310897_310899_310901, hcσ22_310895_310897_310899_310901⟩ := ho_24
        have hfσ22_310895_310897_310899_310901 : Fr fr_fX10_isPointAltered σ σ22_310895_310897_310899_310901 := Fr_c hfσ1_310864 hcσ22_310895_310897_310899_310901 (by decide)
        refine ok_nm2 (fun x23_310895_310897_310899_310901 ex23_310895_310897_310899_310901 => ?_)
        have l_1 : (1 : Int32).toInt = 1 := by decide
        have f25 : (a3_310864 + (1 : Int32)).toInt = a3_310864.toInt + (1 : Int32).toInt := iadd_toInt (by omega) (by omega)
        have qx23_310895_310897_310899_310901 : x23_310895_310897_310899_310901.toInt = (a3_310864 + 1).toInt := by rw [ex23_310895_310897_310899_310901]
        exact hrec_310864 _ (x23_310895_310897_310899_310901, σ22_310895_310897_310899_310901) (show (60 + 1 - x23_310895_310897_310899_310901.toInt).toNat < n_310864 by omega) ⟨rfl, hIσ22_310895_310897_310899_310901, hfσ22_310895_310897_310899_310901, (show 0 ≤ x23_310895_310897_310899_310901.toInt by omega), (show x23_310895_310897_310899_310901.toInt ≤ 60 by omega)⟩
      · have g26 : v1_310898.toInt ≠ p1.toInt := fun z => h_18 (Int32.toInt_inj.mp z)
        refine ok_nm2 (fun x16_310895_310897_310899 ex16_310895_310897_310899 => ?_)
        have l_1 : (1 : Int32).toInt = 1 := by decide
        have f27 : (a3_310864 + (1 : Int32)).toInt = a3_310864.toInt + (1 : Int32).toInt := iadd_toInt (by omega) (by omega)
        have qx16_310895_310897_310899 : x16_310895_310897_310899.toInt = (a3_310864 + 1).toInt := by rw [ex16_310895_310897_310899]
        exact hrec_310864 _ (x16_310895_310897_310899, σ1_310864) (show (60 + 1 - x16_310895_310897_310899.toInt).toNat < n_310864 by omega) ⟨rfl, hIσ1_310864, hfσ1_310864, (show 0 ≤ x16_310895_310897_310899.toInt by omega), (show x16_310895_310897_310899.toInt ≤ 60 by omega)⟩
    · have g28 : v10_310895_310897.toInt ≠ (0 : Int32).toInt := fun z => h_14 (Int32.toInt_inj.mp z)
      refine ok_nm2 (fun x12_310895_310897 ex12_310895_310897 => ?_)
      have l_1 : (1 : Int32).toInt = 1 := by decide
      have f29 : (a3_310864 + (1 : Int32)).toInt = a3_310864.toInt + (1 : Int32).toInt := iadd_toInt (by omega) (by omega)
      have qx12_310895_310897 : x12_310895_310897.toInt = (a3_310864 + 1).toInt := by rw [ex12_310895_310897]
      exact hrec_310864 _ (x12_310895_310897, σ1_310864) (show (60 + 1 - x12_310895_310897.toInt).toNat < n_310864 by omega) ⟨rfl, hIσ1_310864, hfσ1_310864, (show 0 ≤ x12_310895_310897.toInt by omega), (show x12_310895_310897.toInt ≤ 60 by omega)⟩
set_option maxRecDepth 20000 in
set_option maxHeartbeats 2000000 in
theorem o_fX10_isRound {σ : gS} (hIσ : IM σ)   : Ok (fX10_isRound σ ) (fun out => IM out.2 ∧ Fr fr_fX10_isRound σ out.2 ∧ 0 ≤ out.1.toInt ∧ out.1.toInt ≤ 1) := by
  unfold fX10_isRound
  have hfσ : Fr fr_fX10_isRound σ σ := Fr_r
  refine ok_nm2 (fun x1 ex1 => ?_)
  have l_0 : (0 : Int32).toInt = 0 := by decide
  have qx1 : x1.toInt = 0 := by rw [ex1]; decide
  refine ok_nm2 (fun x2 ex2 => ?_)
  have qx2 : x2.toInt = 0 := by rw [ex2]; decide
  refine ok_lpc (I := fun n s => n = (20 + 1 - s.2.1.toInt).toNat ∧ IM s.2.2 ∧ Fr fr_fX10_isRound σ s.2.2 ∧ 0 ≤ s.1.toInt ∧ s.1.toInt ≤ 1 ∧ 0 ≤ s.2.1.toInt ∧ s.2.1.toInt ≤ 20) (fun rec4_310902r n_310902 s_310902 hs_310902 hrec_310902 => ?_) K9 _ _ ⟨rfl, hIσ, hfσ, (by (try dsimp only); omega), (by (try dsimp only); omega), (by (try dsimp only); omega), (by (try dsimp only); omega)⟩ (by unfold K9; (try dsimp only); omega)
  obtain ⟨a1_310902, a2_310902, σ1_310902⟩ := s_310902
  obtain ⟨hn_310902, hIσ1_310902, hfσ1_310902, b0a1_310902, b1a1_310902, b0a2_310902, b1a2_310902⟩ := hs_310902
  dsimp only at hn_310902 hIσ1_310902 hfσ1_310902 b0a1_310902 b1a1_310902 b0a2_310902 b1a2_310902
  unfold bX10_isRound_4
  try dsimp only
  refine ok_bd.mpr ?_
  try unfold fX10_points
  have l_8 : (8 : Int32).toInt = 8 := by decide
  refine ok_gd.mpr ⟨gb_of (by omega) (by omega), ?_⟩
  refine ok_nm2 (fun v1_310941 ev1_310941 => ?_)
  have f1 : 0 ≤ (σ1_310902.1 15 (8 : Int32).toNatClampNeg).toInt ∧ (σ1_310902.1 15 (8 : Int32).toNatClampNeg).toInt ≤ 20 := hIσ1_310902 15 _
  have qv1_310941 : v1_310941.toInt = (σ1_310902.1 15 (8 : Int32).toNatClampNeg).toInt := by rw [ev1_310941]
  refine ok_some.mpr ?_
  refine ok_ite.mpr ⟨fun h_2 => ?_, fun h_2 => ?_⟩
  · have g3 : v1_310941.toInt ≤ a2_310902.toInt := Int32.le_iff_toInt_le.mp h_2
    refine ok_nm2 (fun x6_310938_310942 ex6_310938_310942 => ?_)
    have qx6_310938_310942 : x6_310938_310942.toInt = 0 := by rw [ex6_310938_310942]; decide
    refine ok_lpc (I := fun n s => n = (12 + 1 - s.2.1.toInt).toNat ∧ IM s.2.2 ∧ Fr fr_fX10_isRound σ s.2.2 ∧ 0 ≤ s.1.toInt ∧ s.1.toInt ≤ 1 ∧ 0 ≤ s.2.1.toInt ∧ s.2.1.toInt ≤ 12) (fun rec52_310943r n_310943 s_310943 hs_310943 hrec_310943 => ?_) K9 _ _ ⟨rfl, hIσ1_310902, hfσ1_310902, (by (try dsimp only); omega), (by (try dsimp only); omega), (by (try dsimp only); omega), (by (try dsimp only); omega)⟩ (by unfold K9; (try dsimp only); omega)
    obtain ⟨a1_310943, a2_310943, σ1_310943⟩ := s_310943
    obtain ⟨hn_310943, hIσ1_310943, hfσ1_310943, b0a1_310943, b1a1_310943, b0a2_310943, b1a2_310943⟩ := hs_310943
    dsimp only at hn_310943 hIσ1_310943 hfσ1_310943 b0a1_310943 b1a1_310943 b0a2_310943 b1a2_310943
    unfold bX10_isRound_52
    try dsimp only
    refine ok_bd.mpr ?_
    try unfold fX10_pictures
    have l_7 : (7 : Int32).toInt = 7 := by decide
    refine ok_gd.mpr ⟨gb_of (by omega) (by omega), ?_⟩
    refine ok_nm2 (fun v1_310952 ev1_310952 => ?_)
    have f4 : 0 ≤ (σ1_310943.1 15 (7 : Int32).toNatClampNeg).toInt ∧ (σ1_310943.1 15 (7 : Int32).toNatClampNeg).toInt ≤ 12 := hIσ1_310943 15 _
    have qv1_310952 : v1_310952.toInt = (σ1_310943.1 15 (7 : Int32).toNatClampNeg).toInt := by rw [ev1_310952]
    refine ok_some.mpr ?_
    refine ok_ite.mpr ⟨fun h_5 => ?_, fun h_5 => ?_⟩
    · have g6 : v1_310952.toInt ≤ a2_310943.toInt := Int32.le_iff_toInt_le.mp h_5
      refine ok_nm2 (fun x10_310949_310953 ex10_310949_310953 => ?_)
      have qx10_310949_310953 : x10_310949_310953.toInt = 0 := by rw [ex10_310949_310953]; decide
      refine ok_lpc (I := fun n s => n = (6 + 1 - s.2.1.toInt).toNat ∧ IM s.2.2 ∧ Fr fr_fX10_isRound σ s.2.2 ∧ 0 ≤ s.1.toInt ∧ s.1.toInt ≤ 1 ∧ 0 ≤ s.2.1.toInt ∧ s.2.1.toInt ≤ 6) (fun rec92_310954r n_310954 s_310954 hs_310954 hrec_310954 => ?_) K9 _ _ ⟨rfl, hIσ1_310943, hfσ1_310943, (by (try dsimp only); omega), (by (try dsimp only); omega), (by (try dsimp only); omega), (by (try dsimp only); omega)⟩ (by unfold K9; (try dsimp only); omega)
      obtain ⟨a1_310954, a2_310954, σ1_310954⟩ := s_310954
      obtain ⟨hn_310954, hIσ1_310954, hfσ1_310954, b0a1_310954, b1a1_310954, b0a2_310954, b1a2_310954⟩ := hs_310954
      dsimp only at hn_310954 hIσ1_310954 hfσ1_310954 b0a1_310954 b1a1_310954 b0a2_310954 b1a2_310954
      unfold bX10_isRound_92
      try dsimp only
      have l_6 : (6 : Int32).toInt = 6 := by decide
      refine ok_gd.mpr ⟨gb_of (by omega) (by omega), ?_⟩
      refine ok_nm2 (fun v11_310955 ev11_310955 => ?_)
      have f7 : 0 ≤ (σ1_310954.1 15 (6 : Int32).toNatClampNeg).toInt ∧ (σ1_310954.1 15 (6 : Int32).toNatClampNeg).toInt ≤ 6 := hIσ1_310954 15 _
      have qv11_310955 : v11_310955.toInt = (σ1_310954.1 15 (6 : Int32).toNatClampNeg).toInt := by rw [ev11_310955]
      refine ok_ite.mpr ⟨fun h_8 => ?_, fun h_8 => ?_⟩
      · have g9 : v11_310955.toInt ≤ a2_310954.toInt := Int32.le_iff_toInt_le.mp h_8
        refine ok_some.mpr ?_
        have f10 : 0 ≤ (vp_nar .boolean a1_310954).toInt ∧ (vp_nar .boolean a1_310954).toInt ≤ 1 := nar_bool _
        exact ⟨hIσ1_310954, hfσ1_310954, (show 0 ≤ (vp_nar .boolean a1_310954).toInt by omega), (show (vp_nar .boolean a1_310954).toInt ≤ 1 by omega)⟩
      · have g11 : ¬ v11_310955.toInt ≤ a2_310954.toInt := fun z => h_8 (Int32.le_iff_toInt_le.mpr z)
        refine ok_nm2 (fun x13_310955 ex13_310955 => ?_)
        have qx13_310955 : x13_310955.toInt = 0 := by rw [ex13_310955]; decide
        refine ok_lpc (I := fun n s => n = (6 + 1 - s.2.1.toInt).toNat ∧ IM s.2.2 ∧ Fr fr_fX10_isRound σ s.2.2 ∧ 0 ≤ s.1.toInt ∧ s.1.toInt ≤ 1 ∧ 0 ≤ s.2.1.toInt ∧ s.2.1.toInt ≤ 6) (fun rec105_310958r n_310958 s_310958 hs_310958 hrec_310958 => ?_) K9 _ _ ⟨rfl, hIσ1_310954, hfσ1_310954, (by (try dsimp only); omega), (by (try dsimp only); omega), (by (try dsimp only); omega), (by (try dsimp only); omega)⟩ (by unfold K9; (try dsimp only); omega)
        obtain ⟨a1_310958, a3_310958, σ1_310958⟩ := s_310958
        obtain ⟨hn_310958, hIσ1_310958, hfσ1_310958, b0a1_310958, b1a1_310958, b0a3_310958, b1a3_310958⟩ := hs_310958
        dsimp only at hn_310958 hIσ1_310958 hfσ1_310958 b0a1_310958 b1a1_310958 b0a3_310958 b1a3_310958
        unfold bX10_isRound_105
        try dsimp only
        refine ok_ite.mpr ⟨fun h_12 => ?_, fun h_12 => ?_⟩
        · have l_2 : (2 : Int32).toInt = 2 := by decide
          have g13 : (2 : Int32).toInt ≤ a3_310958.toInt := Int32.le_iff_toInt_le.mp h_12
          refine ok_nm2 (fun x15_310959 ex15_310959 => ?_)
          have l_1 : (1 : Int32).toInt = 1 := by decide
          have f14 : (a2_310954 + (1 : Int32)).toInt = a2_310954.toInt + (1 : Int32).toInt := iadd_toInt (by omega) (by omega)
          have qx15_310959 : x15_310959.toInt = (a2_310954 + 1).toInt := by rw [ex15_310959]
          exact hrec_310954 _ (a1_310958, x15_310959, σ1_310958) (show (6 + 1 - x15_310959.toInt).toNat < n_310954 by omega) ⟨rfl, hIσ1_310958, hfσ1_310958, (show 0 ≤ a1_310958.toInt by omega), (show a1_310958.toInt ≤ 1 by omega), (show 0 ≤ x15_310959.toInt by omega), (show x15_310959.toInt ≤ 6 by omega)⟩
        · have l_2 : (2 : Int32).toInt = 2 := by decide
          have g15 : ¬ (2 : Int32).toInt ≤ a3_310958.toInt := fun z => h_12 (Int32.le_iff_toInt_le.mpr z)
          refine ok_bd2.mpr ((o_fX10_isDriftAltered hIσ1_310958 (by omega) (by omega) (by omega) (by omega)).mono (fun o_16 ho_17 => ?_))
          obtain ⟨r17_310959, σ18_310959⟩ := o_16
          obtain ⟨hIσ18_310959, hcσ18_310959, r0r17_310959, r1r17_310959⟩ := ho_17
          dsimp only at hIσ18_310959 hcσ18_310959 r0r17_310959 r1r17_310959 ⊢
          have hfσ18_310959 : Fr fr_fX10_isRound σ σ18_310959 := Fr_c hfσ1_310958 hcσ18_310959 (by decide)
          refine ok_ite.mpr ⟨fun h_18 => ?_, fun h_18 => ?_⟩
          · have g19 : r17_310959.toInt = (0 : Int32).toInt := by rw [h_18]
            refine ok_nm2 (fun x20_310959 ex20_310959 => ?_)
            have l_1 : (1 : Int32).toInt = 1 := by decide
            have f20 : (a3_310958 + (1 : Int32)).toInt = a3_310958.toInt + (1 : Int32).toInt := iadd_toInt (by omega) (by omega)
            have qx20_310959 : x20_310959.toInt = (a3_310958 + 1).toInt := by rw [ex20_310959]
            exact hrec_310958 _ (a1_310958, x20_310959, σ18_310959) (show (6 + 1 - x20_310959.toInt).toNat < n_310958 by omega) ⟨rfl, hIσ18_310959, hfσ18_310959, (show 0 ≤ a1_310958.toInt by omega), (show a1_310958.toInt ≤ 1 by omega), (show 0 ≤ x20_310959.toInt by omega), (show x20_310959.toInt ≤ 6 by omega)⟩
          · have g21 : r17_310959.toInt ≠ (0 : Int32).toInt := fun z => h_18 (Int32.toInt_inj.mp z)
            refine ok_nm2 (fun x21_310959 ex21_310959 => ?_)
            have l_1 : (1 : Int32).toInt = 1 := by decide
            have qx21_310959 : x21_310959.toInt = 1 := by rw [ex21_310959]; decide
            refine ok_nm2 (fun x22_310959 ex22_310959 => ?_)
            have f22 : (a3_310958 + (1 : Int32)).toInt = a3_310958.toInt + (1 : Int32).toInt := iadd_toInt (by omega) (by omega)
            have qx22_310959 : x22_310959.toInt = (a3_310958 + 1).toInt := by rw [ex22_310959]
            exact hrec_310958 _ (x21_310959, x22_310959, σ18_310959) (show (6 + 1 - x22_310959.toInt).toNat < n_310958 by omega) ⟨rfl, hIσ18_310959, hfσ18_310959, (show 0 ≤ x21_310959.toInt by omega), (show x21_310959.toInt ≤ 1 by omega), (show 0 ≤ x22_310959.toInt by omega), (show x22_310959.toInt ≤ 6 by omega)⟩
    · have g23 : ¬ v1_310952.toInt ≤ a2_310943.toInt := fun z => h_5 (Int32.le_iff_toInt_le.mpr z)
      refine ok_nm2 (fun x23_310949_310953 ex23_310949_310953 => ?_)
      have qx23_310949_310953 : x23_310949_310953.toInt = 0 := by rw [ex23_310949_310953]; decide
      refine ok_lpc (I := fun n s => n = (6 + 1 - s.2.1.toInt).toNat ∧ IM s.2.2 ∧ Fr fr_fX10_isRound σ s.2.2 ∧ 0 ≤ s.1.toInt ∧ s.1.toInt ≤ 1 ∧ 0 ≤ s.2.1.toInt ∧ s.2.1.toInt ≤ 6) (fun rec62_310960r n_310960 s_310960 hs_310960 hrec_310960 => ?_) K9 _ _ ⟨rfl, hIσ1_310943, hfσ1_310943, (by (try dsimp only); omega), (by (try dsimp only); omega), (by (try dsimp only); omega), (by (try dsimp only); omega)⟩ (by unfold K9; (try dsimp only); omega)
      obtain ⟨a1_310960, a3_310960, σ1_310960⟩ := s_310960
      obtain ⟨hn_310960, hIσ1_310960, hfσ1_310960, b0a1_310960, b1a1_310960, b0a3_310960, b1a3_310960⟩ := hs_310960
      dsimp only at hn_310960 hIσ1_310960 hfσ1_310960 b0a1_310960 b1a1_310960 b0a3_310960 b1a3_310960
      unfold bX10_isRound_62
      try dsimp only
      refine ok_ite.mpr ⟨fun h_24 => ?_, fun h_24 => ?_⟩
      · have l_2 : (2 : Int32).toInt = 2 := by decide
        have g25 : (2 : Int32).toInt ≤ a3_310960.toInt := Int32.le_iff_toInt_le.mp h_24
        refine ok_nm2 (fun x25_310961 ex25_310961 => ?_)
        have l_1 : (1 : Int32).toInt = 1 := by decide
        have f26 : (a2_310943 + (1 : Int32)).toInt = a2_310943.toInt + (1 : Int32).toInt := iadd_toInt (by omega) (by omega)
        have qx25_310961 : x25_310961.toInt = (a2_310943 + 1).toInt := by rw [ex25_310961]
        exact hrec_310943 _ (a1_310960, x25_310961, σ1_310960) (show (12 + 1 - x25_310961.toInt).toNat < n_310943 by omega) ⟨rfl, hIσ1_310960, hfσ1_310960, (show 0 ≤ a1_310960.toInt by omega), (show a1_310960.toInt ≤ 1 by omega), (show 0 ≤ x25_310961.toInt by omega), (show x25_310961.toInt ≤ 12 by omega)⟩
      · have l_2 : (2 : Int32).toInt = 2 := by decide
        have g27 : ¬ (2 : Int32).toInt ≤ a3_310960.toInt := fun z => h_24 (Int32.le_iff_toInt_le.mpr z)
        refine ok_bd2.mpr ((o_fX10_isPictureAltered hIσ1_310960 (by omega) (by omega) (by omega) (by omega)).mono (fun o_28 ho_29 => ?_))
        obtain ⟨r27_310961, σ28_310961⟩ := o_28
        obtain ⟨hIσ28_310961, hcσ28_310961, r0r27_310961, r1r27_310961⟩ := ho_29
        dsimp only at hIσ28_310961 hcσ28_310961 r0r27_310961 r1r27_310961 ⊢
        have hfσ28_310961 : Fr fr_fX10_isRound σ σ28_310961 := Fr_c hfσ1_310960 hcσ28_310961 (by decide)
        refine ok_ite.mpr ⟨fun h_30 => ?_, fun h_30 => ?_⟩
        · have g31 : r27_310961.toInt = (0 : Int32).toInt := by rw [h_30]
          refine ok_nm2 (fun x30_310961 ex30_310961 => ?_)
          have l_1 : (1 : Int32).toInt = 1 := by decide
          have f32 : (a3_310960 + (1 : Int32)).toInt = a3_310960.toInt + (1 : Int32).toInt := iadd_toInt (by omega) (by omega)
          have qx30_310961 : x30_310961.toInt = (a3_310960 + 1).toInt := by rw [ex30_310961]
          exact hrec_310960 _ (a1_310960, x30_310961, σ28_310961) (show (6 + 1 - x30_310961.toInt).toNat < n_310960 by omega) ⟨rfl, hIσ28_310961, hfσ28_310961, (show 0 ≤ a1_310960.toInt by omega), (show a1_310960.toInt ≤ 1 by omega), (show 0 ≤ x30_310961.toInt by omega), (show x30_310961.toInt ≤ 6 by omega)⟩
        · have g33 : r27_310961.toInt ≠ (0 : Int32).toInt := fun z => h_30 (Int32.toInt_inj.mp z)
          refine ok_nm2 (fun x31_310961 ex31_310961 => ?_)
          have l_1 : (1 : Int32).toInt = 1 := by decide
          have qx31_310961 : x31_310961.toInt = 1 := by rw [ex31_310961]; decide
          refine ok_nm2 (fun x32_310961 ex32_310961 => ?_)
          have f34 : (a3_310960 + (1 : Int32)).toInt = a3_310960.toInt + (1 : Int32).toInt := iadd_toInt (by omega) (by omega)
          have qx32_310961 : x32_310961.toInt = (a3_310960 + 1).toInt := by rw [ex32_310961]
          exact hrec_310960 _ (x31_310961, x32_310961, σ28_310961) (show (6 + 1 - x32_310961.toInt).toNat < n_310960 by omega) ⟨rfl, hIσ28_310961, hfσ28_310961, (show 0 ≤ x31_310961.toInt by omega), (show x31_310961.toInt ≤ 1 by omega), (show 0 ≤ x32_310961.toInt by omega), (show x32_310961.toInt ≤ 6 by omega)⟩
  · have g35 : ¬ v1_310941.toInt ≤ a2_310902.toInt := fun z => h_2 (Int32.le_iff_toInt_le.mpr z)
    refine ok_nm2 (fun x33_310938_310942 ex33_310938_310942 => ?_)
    have qx33_310938_310942 : x33_310938_310942.toInt = 0 := by rw [ex33_310938_310942]; decide
    refine ok_lpc (I := fun n s => n = (6 + 1 - s.2.1.toInt).toNat ∧ IM s.2.2 ∧ Fr fr_fX10_isRound σ s.2.2 ∧ 0 ≤ s.1.toInt ∧ s.1.toInt ≤ 1 ∧ 0 ≤ s.2.1.toInt ∧ s.2.1.toInt ≤ 6) (fun rec14_310962r n_310962 s_310962 hs_310962 hrec_310962 => ?_) K9 _ _ ⟨rfl, hIσ1_310902, hfσ1_310902, (by (try dsimp only); omega), (by (try dsimp only); omega), (by (try dsimp only); omega), (by (try dsimp only); omega)⟩ (by unfold K9; (try dsimp only); omega)
    obtain ⟨a1_310962, a3_310962, σ1_310962⟩ := s_310962
    obtain ⟨hn_310962, hIσ1_310962, hfσ1_310962, b0a1_310962, b1a1_310962, b0a3_310962, b1a3_310962⟩ := hs_310962
    dsimp only at hn_310962 hIσ1_310962 hfσ1_310962 b0a1_310962 b1a1_310962 b0a3_310962 b1a3_310962
    unfold bX10_isRound_14
    try dsimp only
    refine ok_ite.mpr ⟨fun h_36 => ?_, fun h_36 => ?_⟩
    · have l_2 : (2 : Int32).toInt = 2 := by decide
      have g37 : (2 : Int32).toInt ≤ a3_310962.toInt := Int32.le_iff_toInt_le.mp h_36
      refine ok_nm2 (fun x35_310967 ex35_310967 => ?_)
      have l_1 : (1 : Int32).toInt = 1 := by decide
      have f38 : (a2_310902 + (1 : Int32)).toInt = a2_310902.toInt + (1 : Int32).toInt := iadd_toInt (by omega) (by omega)
      have qx35_310967 : x35_310967.toInt = (a2_310902 + 1).toInt := by rw [ex35_310967]
      exact hrec_310902 _ (a1_310962, x35_310967, σ1_310962) (show (20 + 1 - x35_310967.toInt).toNat < n_310902 by omega) ⟨rfl, hIσ1_310962, hfσ1_310962, (show 0 ≤ a1_310962.toInt by omega), (show a1_310962.toInt ≤ 1 by omega), (show 0 ≤ x35_310967.toInt by omega), (show x35_310967.toInt ≤ 20 by omega)⟩
    · have l_2 : (2 : Int32).toInt = 2 := by decide
      have g39 : ¬ (2 : Int32).toInt ≤ a3_310962.toInt := fun z => h_36 (Int32.le_iff_toInt_le.mpr z)
      refine ok_bd.mpr ?_
      try unfold fX10_isControl
      have l_20 : (20 : Int32).toInt = 20 := by decide
      have f40 : ((20 : Int32) + a2_310902).toInt = (20 : Int32).toInt + a2_310902.toInt := iadd_toInt (by omega) (by omega)
      refine ok_gd.mpr ⟨gb_of (by omega) (by omega), ?_⟩
      refine ok_nm2 (fun v1_310968 ev1_310968 => ?_)
      have f41 : 0 ≤ (σ1_310962.1 20 (20 + a2_310902).toNatClampNeg).toInt ∧ (σ1_310962.1 20 (20 + a2_310902).toNatClampNeg).toInt ≤ 2 := hIσ1_310962 20 _
      have qv1_310968 : v1_310968.toInt = (σ1_310962.1 20 (20 + a2_310902).toNatClampNeg).toInt := by rw [ev1_310968]
      refine ok_nm2 (fun x2_310968 ex2_310968 => ?_)
      have qx2_310968 : x2_310968.toInt = v1_310968.toInt := by rw [ex2_310968]
      refine ok_ite.mpr ⟨fun h_42 => ?_, fun h_42 => ?_⟩
      · have g43 : x2_310968.toInt = (0 : Int32).toInt := by rw [h_42]
        refine ok_some.mpr ?_
        refine ok_ite.mpr ⟨fun h_44 => ?_, fun h_44 => ?_⟩
        · have g45 : (0 : Int32).toInt = (0 : Int32).toInt := by rw [h_44]
          refine ok_bd2.mpr ((o_fX10_isPointAltered hIσ1_310962 (by omega) (by omega) (by omega) (by omega)).mono (fun o_46 ho_47 => ?_))
          obtain ⟨r41_310967_310969, σ42_310967_310969⟩ := o_46
          obtain ⟨hIσ42_310967_310969, hcσ42_310967_310969, r0r41_310967_310969, r1r41_310967_310969⟩ := ho_47
          dsimp only at hIσ42_310967_310969 hcσ42_310967_310969 r0r41_310967_310969 r1r41_310967_310969 ⊢
          have hfσ42_310967_310969 : Fr fr_fX10_isRound σ σ42_310967_310969 := Fr_c hfσ1_310962 hcσ42_310967_310969 (by decide)
          refine ok_ite.mpr ⟨fun h_48 => ?_, fun h_48 => ?_⟩
          · have g49 : r41_310967_310969.toInt = (0 : Int32).toInt := by rw [h_48]
            refine ok_nm2 (fun x44_310967_310969 ex44_310967_310969 => ?_)
            have l_1 : (1 : Int32).toInt = 1 := by decide
            have f50 : (a3_310962 + (1 : Int32)).toInt = a3_310962.toInt + (1 : Int32).toInt := iadd_toInt (by omega) (by omega)
            have qx44_310967_310969 : x44_310967_310969.toInt = (a3_310962 + 1).toInt := by rw [ex44_310967_310969]
            exact hrec_310962 _ (a1_310962, x44_310967_310969, σ42_310967_310969) (show (6 + 1 - x44_310967_310969.toInt).toNat < n_310962 by omega) ⟨rfl, hIσ42_310967_310969, hfσ42_310967_310969, (show 0 ≤ a1_310962.toInt by omega), (show a1_310962.toInt ≤ 1 by omega), (show 0 ≤ x44_310967_310969.toInt by omega), (show x44_310967_310969.toInt ≤ 6 by omega)⟩
          · have g51 : r41_310967_310969.toInt ≠ (0 : Int32).toInt := fun z => h_48 (Int32.toInt_inj.mp z)
            refine ok_nm2 (fun x45_310967_310969 ex45_310967_310969 => ?_)
            have l_1 : (1 : Int32).toInt = 1 := by decide
            have qx45_310967_310969 : x45_310967_310969.toInt = 1 := by rw [ex45_310967_310969]; decide
            refine ok_nm2 (fun x46_310967_310969 ex46_310967_310969 => ?_)
            have f52 : (a3_310962 + (1 : Int32)).toInt = a3_310962.toInt + (1 : Int32).toInt := iadd_toInt (by omega) (by omega)
            have qx46_310967_310969 : x46_310967_310969.toInt = (a3_310962 + 1).toInt := by rw [ex46_310967_310969]
            exact hrec_310962 _ (x45_310967_310969, x46_310967_310969, σ42_310967_310969) (show (6 + 1 - x46_310967_310969.toInt).toNat < n_310962 by omega) ⟨rfl, hIσ42_310967_310969, hfσ42_310967_310969, (show 0 ≤ x45_310967_310969.toInt by omega), (show x45_310967_310969.toInt ≤ 1 by omega), (show 0 ≤ x46_310967_310969.toInt by omega), (show x46_310967_310969.toInt ≤ 6 by omega)⟩
        · have g53 : (0 : Int32).toInt ≠ (0 : Int32).toInt := fun z => h_44 (Int32.toInt_inj.mp z)
          exfalso; omega
      · have g54 : x2_310968.toInt ≠ (0 : Int32).toInt := fun z => h_42 (Int32.toInt_inj.mp z)
        refine ok_ite.mpr ⟨fun h_55 => ?_, fun h_55 => ?_⟩
        · have l_1 : (1 : Int32).toInt = 1 := by decide
          have g56 : (((σ1_310962.1 0 36) >>> ((x2_310968 - 1) &&& 31)) &&& 1).toInt = (1 : Int32).toInt := by rw [h_55]
          refine ok_some.mpr ?_
          refine ok_ite.mpr ⟨fun h_57 => ?_, fun h_57 => ?_⟩
          · have g58 : (1 : Int32).toInt = (0 : Int32).toInt := by rw [h_57]
            exfalso; omega
          · have g59 : (1 : Int32).toInt ≠ (0 : Int32).toInt := fun z => h_57 (Int32.toInt_inj.mp z)
            refine ok_nm2 (fun x39_310967_310970 ex39_310967_310970 => ?_)
            have f60 : (a3_310962 + (1 : Int32)).toInt = a3_310962.toInt + (1 : Int32).toInt := iadd_toInt (by omega) (by omega)
            have qx39_310967_310970 : x39_310967_310970.toInt = (a3_310962 + 1).toInt := by rw [ex39_310967_310970]
            exact hrec_310962 _ (a1_310962, x39_310967_310970, σ1_310962) (show (6 + 1 - x39_310967_310970.toInt).toNat < n_310962 by omega) ⟨rfl, hIσ1_310962, hfσ1_310962, (show 0 ≤ a1_310962.toInt by omega), (show a1_310962.toInt ≤ 1 by omega), (show 0 ≤ x39_310967_310970.toInt by omega), (show x39_310967_310970.toInt ≤ 6 by omega)⟩
        · have l_1 : (1 : Int32).toInt = 1 := by decide
          have g61 : (((σ1_310962.1 0 36) >>> ((x2_310968 - 1) &&& 31)) &&& 1).toInt ≠ (1 : Int32).toInt := fun z => h_55 (Int32.toInt_inj.mp z)
          refine ok_some.mpr ?_
          refine ok_ite.mpr ⟨fun h_62 => ?_, fun h_62 => ?_⟩
          · have g63 : (0 : Int32).toInt = (0 : Int32).toInt := by rw [h_62]
            refine ok_bd2.mpr ((o_fX10_isPointAltered hIσ1_310962 (by omega) (by omega) (by omega) (by omega)).mono (fun o_64 ho_65 => ?_))
            obtain ⟨r41_310967_310971, σ42_310967_310971⟩ := o_64
            obtain ⟨hIσ42_310967_310971, hcσ42_310967_310971, r0r41_310967_310971, r1r41_310967_310971⟩ := ho_65
            dsimp only at hIσ42_310967_310971 hcσ42_310967_310971 r0r41_310967_310971 r1r41_310967_310971 ⊢
            have hfσ42_310967_310971 : Fr fr_fX10_isRound σ σ42_310967_310971 := Fr_c hfσ1_310962 hcσ42_310967_310971 (by decide)
            refine ok_ite.mpr ⟨fun h_66 => ?_, fun h_66 => ?_⟩
            · have g67 : r41_310967_310971.toInt = (0 : Int32).toInt := by rw [h_66]
              refine ok_nm2 (fun x44_310967_310971 ex44_310967_310971 => ?_)
              have f68 : (a3_310962 + (1 : Int32)).toInt = a3_310962.toInt + (1 : Int32).toInt := iadd_toInt (by omega) (by omega)
              have qx44_310967_310971 : x44_310967_310971.toInt = (a3_310962 + 1).toInt := by rw [ex44_310967_310971]
              exact hrec_310962 _ (a1_310962, x44_310967_310971, σ42_310967_310971) (show (6 + 1 - x44_310967_310971.toInt).toNat < n_310962 by omega) ⟨rfl, hIσ42_310967_310971, hfσ42_310967_310971, (show 0 ≤ a1_310962.toInt by omega), (show a1_310962.toInt ≤ 1 by omega), (show 0 ≤ x44_310967_310971.toInt by omega), (show x44_310967_310971.toInt ≤ 6 by omega)⟩
            · have g69 : r41_310967_310971.toInt ≠ (0 : Int32).toInt := fun z => h_66 (Int32.toInt_inj.mp z)
              refine ok_nm2 (fun x45_310967_310971 ex45_310967_310971 => ?_)
              have qx45_310967_310971 : x45_310967_310971.toInt = 1 := by rw [ex45_310967_310971]; decide
              refine ok_nm2 (fun x46_310967_310971 ex46_310967_310971 => ?_)
              have f70 : (a3_310962 + (1 : Int32)).toInt = a3_310962.toInt + (1 : Int32).toInt := iadd_toInt (by omega) (by omega)
              have qx46_310967_310971 : x46_310967_310971.toInt = (a3_310962 + 1).toInt := by rw [ex46_310967_310971]
              exact hrec_310962 _ (x45_310967_310971, x46_310967_310971, σ42_310967_310971) (show (6 + 1 - x46_310967_310971.toInt).toNat < n_310962 by omega) ⟨rfl, hIσ42_310967_310971, hfσ42_310967_310971, (show 0 ≤ x45_310967_310971.toInt by omega), (show x45_310967_310971.toInt ≤ 1 by omega), (show 0 ≤ x46_310967_310971.toInt by omega), (show x46_310967_310971.toInt ≤ 6 by omega)⟩
          · have g71 : (0 : Int32).toInt ≠ (0 : Int32).toInt := fun z => h_62 (Int32.toInt_inj.mp z)
            exfalso; omega
set_option maxRecDepth 20000 in
set_option maxHeartbeats 2000000 in
theorem o_fX10_rests {σ : gS} (hIσ : IM σ) {p1 : Int32} (h0p1 : 1 ≤ p1.toInt) (h1p1 : p1.toInt ≤ 500) : Ok (fX10_rests σ p1) (fun out => IM out.2 ∧ Fr fr_fX10_rests σ out.2 ∧ 0 ≤ out.1.toInt ∧ out.1.toInt ≤ 500) := by
  unfold fX10_rests
  have hfσ : Fr fr_fX10_rests σ σ := Fr_r
  refine ok_nm2 (fun x1 ex1 => ?_)
  have l_0 : (0 : Int32).toInt = 0 := by decide
  have qx1 : x1.toInt = 0 := by rw [ex1]; decide
  refine ok_lpc (I := fun n s => n = (500 + 1 - s.1.toInt).toNat ∧ IM s.2 ∧ Fr fr_fX10_rests σ s.2 ∧ 0 ≤ s.1.toInt ∧ s.1.toInt ≤ 500) (fun rec2_310972r n_310972 s_310972 hs_310972 hrec_310972 => ?_) K9 _ _ ⟨rfl, hIσ, hfσ, (by (try dsimp only); omega), (by (try dsimp only); omega)⟩ (by unfold K9; (try dsimp only); omega)
  obtain ⟨a2_310972, σ1_310972⟩ := s_310972
  obtain ⟨hn_310972, hIσ1_310972, hfσ1_310972, b0a2_310972, b1a2_310972⟩ := hs_310972
  dsimp only at hn_310972 hIσ1_310972 hfσ1_310972 b0a2_310972 b1a2_310972
  unfold bX10_rests_2
  try dsimp only
  refine ok_ite.mpr ⟨fun h_1 => ?_, fun h_1 => ?_⟩
  · have g2 : p1.toInt ≤ a2_310972.toInt := Int32.le_iff_toInt_le.mp h_1
    refine ok_some.mpr ?_
    exact ⟨hIσ1_310972, hfσ1_310972, (show 0 ≤ a2_310972.toInt by omega), (show a2_310972.toInt ≤ 500 by omega)⟩
  · have g3 : ¬ p1.toInt ≤ a2_310972.toInt := fun z => h_1 (Int32.le_iff_toInt_le.mpr z)
    refine ok_bd2.mpr ((o_fX10_isRound hIσ1_310972 ).mono (fun o_4 ho_5 => ?_))
    obtain ⟨r4_310973, σ5_310973⟩ := o_4
    obtain ⟨hIσ5_310973, hcσ5_310973, r0r4_310973, r1r4_310973⟩ := ho_5
    dsimp only at hIσ5_310973 hcσ5_310973 r0r4_310973 r1r4_310973 ⊢
    have hfσ5_310973 : Fr fr_fX10_rests σ σ5_310973 := Fr_c hfσ1_310972 hcσ5_310973 (by decide)
    refine ok_ite.mpr ⟨fun h_6 => ?_, fun h_6 => ?_⟩
    · have g7 : r4_310973.toInt = (0 : Int32).toInt := by rw [h_6]
      refine ok_some.mpr ?_
      exact ⟨hIσ5_310973, hfσ5_310973, (show 0 ≤ a2_310972.toInt by omega), (show a2_310972.toInt ≤ 500 by omega)⟩
    · have g8 : r4_310973.toInt ≠ (0 : Int32).toInt := fun z => h_6 (Int32.toInt_inj.mp z)
      refine ok_nm2 (fun x7_310973 ex7_310973 => ?_)
      have l_1 : (1 : Int32).toInt = 1 := by decide
      have f9 : (a2_310972 + (1 : Int32)).toInt = a2_310972.toInt + (1 : Int32).toInt := iadd_toInt (by omega) (by omega)
      have qx7_310973 : x7_310973.toInt = (a2_310972 + 1).toInt := by rw [ex7_310973]
      exact hrec_310972 _ (x7_310973, σ5_310973) (show (500 + 1 - x7_310973.toInt).toNat < n_310972 by omega) ⟨rfl, hIσ5_310973, hfσ5_310973, (show 0 ≤ x7_310973.toInt by omega), (show x7_310973.toInt ≤ 500 by omega)⟩
set_option maxRecDepth 20000 in
set_option maxHeartbeats 2000000 in
theorem o_fX10_rounds {σ : gS} (hIσ : IM σ) {p1 : Int32}  : Ok (fX10_rounds σ p1) (fun out => IM out.2 ∧ Fr fr_fX10_rounds σ out.2 ∧ -1 ≤ out.1.toInt ∧ out.1.toInt ≤ 500) := by
  unfold fX10_rounds
  have hfσ : Fr fr_fX10_rounds σ σ := Fr_r
  refine ok_bd.mpr ?_
  try unfold fX10_isIn
  refine ok_ite.mpr ⟨fun h_1 => ?_, fun h_1 => ?_⟩
  · have t2 : p1.toInt64.toInt = p1.toInt := Int32.toInt_toInt64 _
    have t3 : (1 : Int64).toInt = 1 := by decide
    have g4 : p1.toInt64.toInt < (1 : Int64).toInt := Int64.lt_iff_toInt_lt.mp h_1
    refine ok_some.mpr ?_
    refine ok_ite.mpr ⟨fun h_5 => ?_, fun h_5 => ?_⟩
    · have l_0 : (0 : Int32).toInt = 0 := by decide
      have g6 : (0 : Int32).toInt = (0 : Int32).toInt := by rw [h_5]
      refine ok_some.mpr ?_
      have l_m1 : (-1 : Int32).toInt = -1 := by decide
      exact ⟨hIσ, hfσ, (show -1 ≤ (-1 : Int32).toInt by omega), (show (-1 : Int32).toInt ≤ 500 by omega)⟩
    · have l_0 : (0 : Int32).toInt = 0 := by decide
      have g7 : (0 : Int32).toInt ≠ (0 : Int32).toInt := fun z => h_5 (Int32.toInt_inj.mp z)
      exfalso; omega
  · have t8 : p1.toInt64.toInt = p1.toInt := Int32.toInt_toInt64 _
    have t9 : (1 : Int64).toInt = 1 := by decide
    have g10 : ¬ p1.toInt64.toInt < (1 : Int64).toInt := fun z => h_1 (Int64.lt_iff_toInt_lt.mpr z)
    refine ok_ite.mpr ⟨fun h_11 => ?_, fun h_11 => ?_⟩
    · have t12 : (500 : Int64).toInt = 500 := by decide
      have g13 : (500 : Int64).toInt < p1.toInt64.toInt := Int64.lt_iff_toInt_lt.mp h_11
      refine ok_some.mpr ?_
      refine ok_ite.mpr ⟨fun h_14 => ?_, fun h_14 => ?_⟩
      · have l_0 : (0 : Int32).toInt = 0 := by decide
        have g15 : (0 : Int32).toInt = (0 : Int32).toInt := by rw [h_14]
        refine ok_some.mpr ?_
        have l_m1 : (-1 : Int32).toInt = -1 := by decide
        exact ⟨hIσ, hfσ, (show -1 ≤ (-1 : Int32).toInt by omega), (show (-1 : Int32).toInt ≤ 500 by omega)⟩
      · have l_0 : (0 : Int32).toInt = 0 := by decide
        have g16 : (0 : Int32).toInt ≠ (0 : Int32).toInt := fun z => h_14 (Int32.toInt_inj.mp z)
        exfalso; omega
    · have t17 : (500 : Int64).toInt = 500 := by decide
      have g18 : ¬ (500 : Int64).toInt < p1.toInt64.toInt := fun z => h_11 (Int64.lt_iff_toInt_lt.mpr z)
      refine ok_some.mpr ?_
      refine ok_ite.mpr ⟨fun h_19 => ?_, fun h_19 => ?_⟩
      · have l_1 : (1 : Int32).toInt = 1 := by decide
        have l_0 : (0 : Int32).toInt = 0 := by decide
        have g20 : (1 : Int32).toInt = (0 : Int32).toInt := by rw [h_19]
        exfalso; omega
      · have l_1 : (1 : Int32).toInt = 1 := by decide
        have l_0 : (0 : Int32).toInt = 0 := by decide
        have g21 : (1 : Int32).toInt ≠ (0 : Int32).toInt := fun z => h_19 (Int32.toInt_inj.mp z)
        refine ok_bd2.mpr ((o_fX10_rests hIσ (by omega) (by omega)).mono (fun o_22 ho_23 => ?_))
        obtain ⟨r5_310977, σ6_310977⟩ := o_22
        obtain ⟨hIσ6_310977, hcσ6_310977, r0r5_310977, r1r5_310977⟩ := ho_23
        dsimp only at hIσ6_310977 hcσ6_310977 r0r5_310977 r1r5_310977 ⊢
        have hfσ6_310977 : Fr fr_fX10_rounds σ σ6_310977 := Fr_c hfσ hcσ6_310977 (by decide)
        refine ok_some.mpr ?_
        exact ⟨hIσ6_310977, hfσ6_310977, (show -1 ≤ r5_310977.toInt by omega), (show r5_310977.toInt ≤ 500 by omega)⟩
set_option maxRecDepth 20000 in
set_option maxHeartbeats 2000000 in
theorem o_fX10_numberOf {σ : gS} (hIσ : IM σ) {p1 : Int32}  : Ok (fX10_numberOf σ p1) (fun out => -1 ≤ out.toInt ∧ out.toInt ≤ 37) := by
  unfold fX10_numberOf
  have hfσ : Fr fr_fX10_numberOf σ σ := Fr_r
  refine ok_nm2 (fun x1 ex1 => ?_)
  have l_0 : (0 : Int32).toInt = 0 := by decide
  have qx1 : x1.toInt = 0 := by rw [ex1]; decide
  refine ok_lpc (I := fun n s => n = (38 + 1 - s.toInt).toNat ∧ 0 ≤ s.toInt ∧ s.toInt ≤ 38) (fun rec2_311129r n_311129 s_311129 hs_311129 hrec_311129 => ?_) K9 _ _ ⟨rfl, (by (try dsimp only); omega), (by (try dsimp only); omega)⟩ (by unfold K9; (try dsimp only); omega)
  obtain ⟨a2_311129, hq_311129⟩ : ∃ y, y = s_311129 := ⟨_, rfl⟩
  subst hq_311129
  obtain ⟨hn_311129, b0a2_311129, b1a2_311129⟩ := hs_311129
  skip
  unfold bX10_numberOf_2
  try dsimp only
  refine ok_ite.mpr ⟨fun h_1 => ?_, fun h_1 => ?_⟩
  · have f2 : 0 ≤ (σ.1 0 43).toInt ∧ (σ.1 0 43).toInt ≤ 38 := hIσ 0 _
    have g3 : (σ.1 0 43).toInt ≤ a2_311129.toInt := Int32.le_iff_toInt_le.mp h_1
    refine ok_some.mpr ?_
    have l_m1 : (-1 : Int32).toInt = -1 := by decide
    exact ⟨(show -1 ≤ (-1 : Int32).toInt by omega), (show (-1 : Int32).toInt ≤ 37 by omega)⟩
  · have f4 : 0 ≤ (σ.1 0 43).toInt ∧ (σ.1 0 43).toInt ≤ 38 := hIσ 0 _
    have g5 : ¬ (σ.1 0 43).toInt ≤ a2_311129.toInt := fun z => h_1 (Int32.le_iff_toInt_le.mpr z)
    refine ok_gd.mpr ⟨gb_of (by omega) (by omega), ?_⟩
    refine ok_nm2 (fun v3_311130 ev3_311130 => ?_)
    have f6 : 0 ≤ (σ.1 30 a2_311129.toNatClampNeg).toInt ∧ (σ.1 30 a2_311129.toNatClampNeg).toInt ≤ 37 := hIσ 30 _
    have qv3_311130 : v3_311130.toInt = (σ.1 30 a2_311129.toNatClampNeg).toInt := by rw [ev3_311130]
    refine ok_ite.mpr ⟨fun h_7 => ?_, fun h_7 => ?_⟩
    · have g8 : v3_311130.toInt = p1.toInt := by rw [h_7]
      refine ok_some.mpr ?_
      exact ⟨(show -1 ≤ a2_311129.toInt by omega), (show a2_311129.toInt ≤ 37 by omega)⟩
    · have g9 : v3_311130.toInt ≠ p1.toInt := fun z => h_7 (Int32.toInt_inj.mp z)
      refine ok_nm2 (fun x5_311130 ex5_311130 => ?_)
      have l_1 : (1 : Int32).toInt = 1 := by decide
      have f10 : (a2_311129 + (1 : Int32)).toInt = a2_311129.toInt + (1 : Int32).toInt := iadd_toInt (by omega) (by omega)
      have qx5_311130 : x5_311130.toInt = (a2_311129 + 1).toInt := by rw [ex5_311130]
      exact hrec_311129 _ x5_311130 (show (38 + 1 - x5_311130.toInt).toNat < n_311129 by omega) ⟨rfl, (show 0 ≤ x5_311130.toInt by omega), (show x5_311130.toInt ≤ 38 by omega)⟩
set_option maxRecDepth 20000 in
set_option maxHeartbeats 2000000 in
theorem o_fX10_sets {σ : gS} (hIσ : IM σ) {p1 : Int32}  : Ok (fX10_sets σ p1) (fun out => IM out.2 ∧ Fr fr_fX10_sets σ out.2) := by
  unfold fX10_sets
  have hfσ : Fr fr_fX10_sets σ σ := Fr_r
  refine ok_bd.mpr ?_
  try unfold fX10_isIn
  refine ok_ite.mpr ⟨fun h_1 => ?_, fun h_1 => ?_⟩
  · have t2 : p1.toInt64.toInt = p1.toInt := Int32.toInt_toInt64 _
    have t3 : (0 : Int64).toInt = 0 := by decide
    have g4 : p1.toInt64.toInt < (0 : Int64).toInt := Int64.lt_iff_toInt_lt.mp h_1
    refine ok_some.mpr ?_
    refine ok_ite.mpr ⟨fun h_5 => ?_, fun h_5 => ?_⟩
    · have l_0 : (0 : Int32).toInt = 0 := by decide
      have g6 : (0 : Int32).toInt = (0 : Int32).toInt := by rw [h_5]
      refine ok_some.mpr ?_
      exact ⟨hIσ, hfσ⟩
    · have l_0 : (0 : Int32).toInt = 0 := by decide
      have g7 : (0 : Int32).toInt ≠ (0 : Int32).toInt := fun z => h_5 (Int32.toInt_inj.mp z)
      exfalso; omega
  · have t8 : p1.toInt64.toInt = p1.toInt := Int32.toInt_toInt64 _
    have t9 : (0 : Int64).toInt = 0 := by decide
    have g10 : ¬ p1.toInt64.toInt < (0 : Int64).toInt := fun z => h_1 (Int64.lt_iff_toInt_lt.mpr z)
    refine ok_ite.mpr ⟨fun h_11 => ?_, fun h_11 => ?_⟩
    · have t12 : (3 : Int64).toInt = 3 := by decide
      have g13 : (3 : Int64).toInt < p1.toInt64.toInt := Int64.lt_iff_toInt_lt.mp h_11
      refine ok_some.mpr ?_
      refine ok_ite.mpr ⟨fun h_14 => ?_, fun h_14 => ?_⟩
      · have l_0 : (0 : Int32).toInt = 0 := by decide
        have g15 : (0 : Int32).toInt = (0 : Int32).toInt := by rw [h_14]
        refine ok_some.mpr ?_
        exact ⟨hIσ, hfσ⟩
      · have l_0 : (0 : Int32).toInt = 0 := by decide
        have g16 : (0 : Int32).toInt ≠ (0 : Int32).toInt := fun z => h_14 (Int32.toInt_inj.mp z)
        exfalso; omega
    · have t17 : (3 : Int64).toInt = 3 := by decide
      have g18 : ¬ (3 : Int64).toInt < p1.toInt64.toInt := fun z => h_11 (Int64.lt_iff_toInt_lt.mpr z)
      refine ok_some.mpr ?_
      refine ok_ite.mpr ⟨fun h_19 => ?_, fun h_19 => ?_⟩
      · have l_1 : (1 : Int32).toInt = 1 := by decide
        have l_0 : (0 : Int32).toInt = 0 := by decide
        have g20 : (1 : Int32).toInt = (0 : Int32).toInt := by rw [h_19]
        exfalso; omega
      · have l_1 : (1 : Int32).toInt = 1 := by decide
        have l_0 : (0 : Int32).toInt = 0 := by decide
        have g21 : (1 : Int32).toInt ≠ (0 : Int32).toInt := fun z => h_19 (Int32.toInt_inj.mp z)
        refine ok_nm2 (fun σ4_311508 eσ4_311508 => ?_)
        have hIσ4_311508 : IM σ4_311508 := by rw [eσ4_311508]; exact IM_w hIσ (show 0 ≤ _ by omega) (show _ ≤ 3 by omega)
        have hfσ4_311508 : Fr fr_fX10_sets σ σ4_311508 := by rw [eσ4_311508]; exact Fr_w hfσ (by decide)
        refine ok_bd.mpr ((o_fX10_standControls hIσ4_311508 ).mono (fun σ6_311508 ho_23 => ?_))
        obtain ⟨hIσ6_311508, hcσ6_311508⟩ := ho_23
        have hfσ6_311508 : Fr fr_fX10_sets σ σ6_311508 := Fr_c hfσ4_311508 hcσ6_311508 (by decide)
        refine ok_bd.mpr ((o_fX10_controls hIσ6_311508 ).mono (fun r8_311508 ho_25 => ?_))
        refine ok_some.mpr ?_
        exact ⟨hIσ6_311508, hfσ6_311508⟩
set_option maxRecDepth 20000 in
set_option maxHeartbeats 2000000 in
theorem o_fX10_parts {σ : gS} (hIσ : IM σ)   : Ok (fX10_parts σ ) (fun out => IM out.2 ∧ Fr fr_fX10_parts σ out.2) := by
  unfold fX10_parts
  have hfσ : Fr fr_fX10_parts σ σ := Fr_r
  refine ok_bd.mpr ((o_fX10_hangs hIσ ).mono (fun σ2 ho_2 => ?_))
  obtain ⟨hIσ2, hcσ2⟩ := ho_2
  have hfσ2 : Fr fr_fX10_parts σ σ2 := Fr_c hfσ hcσ2 (by decide)
  refine ok_nm2 (fun x3 ex3 => ?_)
  have l_0 : (0 : Int32).toInt = 0 := by decide
  have qx3 : x3.toInt = 0 := by rw [ex3]; decide
  refine ok_nm2 (fun x4 ex4 => ?_)
  have qx4 : x4.toInt = 0 := by rw [ex4]; decide
  refine ok_lpc (I := fun n s => n = (12 + 1 - s.2.toInt).toNat ∧ 0 ≤ s.2.toInt ∧ s.2.toInt ≤ 12) (fun rec8_311509r n_311509 s_311509 hs_311509 hrec_311509 => ?_) K9 _ _ ⟨rfl, (by (try dsimp only); omega), (by (try dsimp only); omega)⟩ (by unfold K9; (try dsimp only); omega)
  obtain ⟨a1_311509, a2_311509⟩ := s_311509
  obtain ⟨hn_311509, b0a2_311509, b1a2_311509⟩ := hs_311509
  dsimp only at hn_311509 b0a2_311509 b1a2_311509
  unfold bX10_parts_8
  try dsimp only
  refine ok_bd.mpr ?_
  try unfold fX10_pictures
  have l_7 : (7 : Int32).toInt = 7 := by decide
  refine ok_gd.mpr ⟨gb_of (by omega) (by omega), ?_⟩
  refine ok_nm2 (fun v1_311532 ev1_311532 => ?_)
  have f3 : 0 ≤ (σ2.1 15 (7 : Int32).toNatClampNeg).toInt ∧ (σ2.1 15 (7 : Int32).toNatClampNeg).toInt ≤ 12 := hIσ2 15 _
  have qv1_311532 : v1_311532.toInt = (σ2.1 15 (7 : Int32).toNatClampNeg).toInt := by rw [ev1_311532]
  refine ok_some.mpr ?_
  refine ok_ite.mpr ⟨fun h_4 => ?_, fun h_4 => ?_⟩
  · have g5 : v1_311532.toInt ≤ a2_311509.toInt := Int32.le_iff_toInt_le.mp h_4
    refine ok_some.mpr ?_
    exact ⟨hIσ2, hfσ2⟩
  · have g6 : ¬ v1_311532.toInt ≤ a2_311509.toInt := fun z => h_4 (Int32.le_iff_toInt_le.mpr z)
    refine ok_nm2 (fun x8_311529_311533 ex8_311529_311533 => ?_)
    have l_1 : (1 : Int32).toInt = 1 := by decide
    have qx8_311529_311533 : x8_311529_311533.toInt = 1 := by rw [ex8_311529_311533]; decide
    refine ok_nm2 (fun x9_311529_311533 ex9_311529_311533 => ?_)
    have qx9_311529_311533 : x9_311529_311533.toInt = 0 := by rw [ex9_311529_311533]; decide
    refine ok_lpc (I := fun n s => n = (12 + 1 - s.2.toInt).toNat ∧ 0 ≤ s.1.toInt ∧ s.1.toInt ≤ 1 ∧ 0 ≤ s.2.toInt ∧ s.2.toInt ≤ 12) (fun rec21_311534r n_311534 s_311534 hs_311534 hrec_311534 => ?_) K9 _ _ ⟨rfl, (by (try dsimp only); omega), (by (try dsimp only); omega), (by (try dsimp only); omega), (by (try dsimp only); omega)⟩ (by unfold K9; (try dsimp only); omega)
    obtain ⟨a3_311534, a4_311534⟩ := s_311534
    obtain ⟨hn_311534, b0a3_311534, b1a3_311534, b0a4_311534, b1a4_311534⟩ := hs_311534
    dsimp only at hn_311534 b0a3_311534 b1a3_311534 b0a4_311534 b1a4_311534
    unfold bX10_parts_21
    try dsimp only
    refine ok_ite.mpr ⟨fun h_7 => ?_, fun h_7 => ?_⟩
    · have g8 : a2_311509.toInt ≤ a4_311534.toInt := Int32.le_iff_toInt_le.mp h_7
      refine ok_ite.mpr ⟨fun h_9 => ?_, fun h_9 => ?_⟩
      · have g10 : a3_311534.toInt = (0 : Int32).toInt := by rw [h_9]
        refine ok_nm2 (fun x12_311535 ex12_311535 => ?_)
        have f11 : (a2_311509 + (1 : Int32)).toInt = a2_311509.toInt + (1 : Int32).toInt := iadd_toInt (by omega) (by omega)
        have qx12_311535 : x12_311535.toInt = (a2_311509 + 1).toInt := by rw [ex12_311535]
        exact hrec_311509 _ (a1_311509, x12_311535) (show (12 + 1 - x12_311535.toInt).toNat < n_311509 by omega) ⟨rfl, (show 0 ≤ x12_311535.toInt by omega), (show x12_311535.toInt ≤ 12 by omega)⟩
      · have g12 : a3_311534.toInt ≠ (0 : Int32).toInt := fun z => h_9 (Int32.toInt_inj.mp z)
        refine ok_nm2 (fun x13_311535 ex13_311535 => ?_)
        refine ok_nm2 (fun x14_311535 ex14_311535 => ?_)
        have f13 : (a2_311509 + (1 : Int32)).toInt = a2_311509.toInt + (1 : Int32).toInt := iadd_toInt (by omega) (by omega)
        have qx14_311535 : x14_311535.toInt = (a2_311509 + 1).toInt := by rw [ex14_311535]
        exact hrec_311509 _ (x13_311535, x14_311535) (show (12 + 1 - x14_311535.toInt).toNat < n_311509 by omega) ⟨rfl, (show 0 ≤ x14_311535.toInt by omega), (show x14_311535.toInt ≤ 12 by omega)⟩
    · have g14 : ¬ a2_311509.toInt ≤ a4_311534.toInt := fun z => h_7 (Int32.le_iff_toInt_le.mpr z)
      refine ok_ite.mpr ⟨fun h_15 => ?_, fun h_15 => ?_⟩
      · have g16 : a3_311534.toInt = (0 : Int32).toInt := by rw [h_15]
        refine ok_nm2 (fun x16_311535 ex16_311535 => ?_)
        have qx16_311535 : x16_311535.toInt = 0 := by rw [ex16_311535]; decide
        refine ok_nm2 (fun x17_311535 ex17_311535 => ?_)
        have f17 : (a4_311534 + (1 : Int32)).toInt = a4_311534.toInt + (1 : Int32).toInt := iadd_toInt (by omega) (by omega)
        have qx17_311535 : x17_311535.toInt = (a4_311534 + 1).toInt := by rw [ex17_311535]
        exact hrec_311534 _ (x16_311535, x17_311535) (show (12 + 1 - x17_311535.toInt).toNat < n_311534 by omega) ⟨rfl, (show 0 ≤ x16_311535.toInt by omega), (show x16_311535.toInt ≤ 1 by omega), (show 0 ≤ x17_311535.toInt by omega), (show x17_311535.toInt ≤ 12 by omega)⟩
      · have g18 : a3_311534.toInt ≠ (0 : Int32).toInt := fun z => h_15 (Int32.toInt_inj.mp z)
        refine ok_gd.mpr ⟨gb_of (by omega) (by omega), ?_⟩
        refine ok_nm2 (fun v18_311535 ev18_311535 => ?_)
        have f19 : 0 ≤ (σ2.1 32 a4_311534.toNatClampNeg).toInt ∧ (σ2.1 32 a4_311534.toNatClampNeg).toInt ≤ 31 := hIσ2 32 _
        have qv18_311535 : v18_311535.toInt = (σ2.1 32 a4_311534.toNatClampNeg).toInt := by rw [ev18_311535]
        refine ok_gd.mpr ⟨gb_of (by omega) (by omega), ?_⟩
        refine ok_nm2 (fun v19_311535 ev19_311535 => ?_)
        have f20 : 0 ≤ (σ2.1 32 a2_311509.toNatClampNeg).toInt ∧ (σ2.1 32 a2_311509.toNatClampNeg).toInt ≤ 31 := hIσ2 32 _
        have qv19_311535 : v19_311535.toInt = (σ2.1 32 a2_311509.toNatClampNeg).toInt := by rw [ev19_311535]
        refine ok_ite.mpr ⟨fun h_21 => ?_, fun h_21 => ?_⟩
        · have g22 : v18_311535.toInt = v19_311535.toInt := by rw [h_21]
          refine ok_nm2 (fun x21_311535 ex21_311535 => ?_)
          have qx21_311535 : x21_311535.toInt = 0 := by rw [ex21_311535]; decide
          refine ok_nm2 (fun x22_311535 ex22_311535 => ?_)
          have f23 : (a4_311534 + (1 : Int32)).toInt = a4_311534.toInt + (1 : Int32).toInt := iadd_toInt (by omega) (by omega)
          have qx22_311535 : x22_311535.toInt = (a4_311534 + 1).toInt := by rw [ex22_311535]
          exact hrec_311534 _ (x21_311535, x22_311535) (show (12 + 1 - x22_311535.toInt).toNat < n_311534 by omega) ⟨rfl, (show 0 ≤ x21_311535.toInt by omega), (show x21_311535.toInt ≤ 1 by omega), (show 0 ≤ x22_311535.toInt by omega), (show x22_311535.toInt ≤ 12 by omega)⟩
        · have g24 : v18_311535.toInt ≠ v19_311535.toInt := fun z => h_21 (Int32.toInt_inj.mp z)
          refine ok_nm2 (fun x23_311535 ex23_311535 => ?_)
          have qx23_311535 : x23_311535.toInt = 1 := by rw [ex23_311535]; decide
          refine ok_nm2 (fun x24_311535 ex24_311535 => ?_)
          have f25 : (a4_311534 + (1 : Int32)).toInt = a4_311534.toInt + (1 : Int32).toInt := iadd_toInt (by omega) (by omega)
          have qx24_311535 : x24_311535.toInt = (a4_311534 + 1).toInt := by rw [ex24_311535]
          exact hrec_311534 _ (x23_311535, x24_311535) (show (12 + 1 - x24_311535.toInt).toNat < n_311534 by omega) ⟨rfl, (show 0 ≤ x23_311535.toInt by omega), (show x23_311535.toInt ≤ 1 by omega), (show 0 ≤ x24_311535.toInt by omega), (show x24_311535.toInt ≤ 12 by omega)⟩
set_option maxRecDepth 20000 in
set_option maxHeartbeats 2000000 in
theorem o_fX10_hang {σ : gS} (hIσ : IM σ) {p1 : Int32} {p2 : Int32}  : Ok (fX10_hang σ p1 p2) (fun out => IM out.2 ∧ Fr fr_fX10_hang σ out.2 ∧ -1 ≤ out.1.toInt ∧ out.1.toInt ≤ 1) := by
  unfold fX10_hang
  have hfσ : Fr fr_fX10_hang σ σ := Fr_r
  refine ok_bd.mpr ?_
  try unfold fX10_isPicture
  refine ok_bd.mpr ?_
  try unfold fX10_pictures
  have l_7 : (7 : Int32).toInt = 7 := by decide
  refine ok_gd.mpr ⟨gb_of (by omega) (by omega), ?_⟩
  refine ok_nm2 (fun v1_311537 ev1_311537 => ?_)
  have f1 : 0 ≤ (σ.1 15 (7 : Int32).toNatClampNeg).toInt ∧ (σ.1 15 (7 : Int32).toNatClampNeg).toInt ≤ 12 := hIσ 15 _
  have qv1_311537 : v1_311537.toInt = (σ.1 15 (7 : Int32).toNatClampNeg).toInt := by rw [ev1_311537]
  refine ok_some.mpr ?_
  refine ok_bd.mpr ?_
  try unfold fX10_isIn
  refine ok_ite.mpr ⟨fun h_2 => ?_, fun h_2 => ?_⟩
  · have t3 : p1.toInt64.toInt = p1.toInt := Int32.toInt_toInt64 _
    have t4 : (0 : Int64).toInt = 0 := by decide
    have g5 : p1.toInt64.toInt < (0 : Int64).toInt := Int64.lt_iff_toInt_lt.mp h_2
    refine ok_some.mpr ?_
    refine ok_some.mpr ?_
    refine ok_ite.mpr ⟨fun h_6 => ?_, fun h_6 => ?_⟩
    · have f7 : (vp_nar .boolean 0).toInt = 0 := by decide
      have l_0 : (0 : Int32).toInt = 0 := by decide
      have g8 : (vp_nar .boolean 0).toInt = (0 : Int32).toInt := by rw [h_6]
      refine ok_some.mpr ?_
      have l_m1 : (-1 : Int32).toInt = -1 := by decide
      exact ⟨hIσ, hfσ, (show -1 ≤ (-1 : Int32).toInt by omega), (show (-1 : Int32).toInt ≤ 1 by omega)⟩
    · have f9 : (vp_nar .boolean 0).toInt = 0 := by decide
      have l_0 : (0 : Int32).toInt = 0 := by decide
      have g10 : (vp_nar .boolean 0).toInt ≠ (0 : Int32).toInt := fun z => h_6 (Int32.toInt_inj.mp z)
      exfalso; omega
  · have t11 : p1.toInt64.toInt = p1.toInt := Int32.toInt_toInt64 _
    have t12 : (0 : Int64).toInt = 0 := by decide
    have g13 : ¬ p1.toInt64.toInt < (0 : Int64).toInt := fun z => h_2 (Int64.lt_iff_toInt_lt.mpr z)
    refine ok_ite.mpr ⟨fun h_14 => ?_, fun h_14 => ?_⟩
    · have l_1 : (1 : Int32).toInt = 1 := by decide
      have f15 : (v1_311537 - (1 : Int32)).toInt = v1_311537.toInt - (1 : Int32).toInt := isub_toInt (by omega) (by omega)
      have t16 : (v1_311537 - 1).toInt64.toInt = (v1_311537 - 1).toInt := Int32.toInt_toInt64 _
      have g17 : (v1_311537 - 1).toInt64.toInt < p1.toInt64.toInt := Int64.lt_iff_toInt_lt.mp h_14
      refine ok_some.mpr ?_
      refine ok_some.mpr ?_
      refine ok_ite.mpr ⟨fun h_18 => ?_, fun h_18 => ?_⟩
      · have f19 : (vp_nar .boolean 0).toInt = 0 := by decide
        have l_0 : (0 : Int32).toInt = 0 := by decide
        have g20 : (vp_nar .boolean 0).toInt = (0 : Int32).toInt := by rw [h_18]
        refine ok_some.mpr ?_
        have l_m1 : (-1 : Int32).toInt = -1 := by decide
        exact ⟨hIσ, hfσ, (show -1 ≤ (-1 : Int32).toInt by omega), (show (-1 : Int32).toInt ≤ 1 by omega)⟩
      · have f21 : (vp_nar .boolean 0).toInt = 0 := by decide
        have l_0 : (0 : Int32).toInt = 0 := by decide
        have g22 : (vp_nar .boolean 0).toInt ≠ (0 : Int32).toInt := fun z => h_18 (Int32.toInt_inj.mp z)
        exfalso; omega
    · have l_1 : (1 : Int32).toInt = 1 := by decide
      have f23 : (v1_311537 - (1 : Int32)).toInt = v1_311537.toInt - (1 : Int32).toInt := isub_toInt (by omega) (by omega)
      have t24 : (v1_311537 - 1).toInt64.toInt = (v1_311537 - 1).toInt := Int32.toInt_toInt64 _
      have g25 : ¬ (v1_311537 - 1).toInt64.toInt < p1.toInt64.toInt := fun z => h_14 (Int64.lt_iff_toInt_lt.mpr z)
      refine ok_some.mpr ?_
      refine ok_some.mpr ?_
      refine ok_ite.mpr ⟨fun h_26 => ?_, fun h_26 => ?_⟩
      · have f27 : (vp_nar .boolean 1).toInt = 1 := by decide
        have l_0 : (0 : Int32).toInt = 0 := by decide
        have g28 : (vp_nar .boolean 1).toInt = (0 : Int32).toInt := by rw [h_26]
        exfalso; omega
      · have f29 : (vp_nar .boolean 1).toInt = 1 := by decide
        have l_0 : (0 : Int32).toInt = 0 := by decide
        have g30 : (vp_nar .boolean 1).toInt ≠ (0 : Int32).toInt := fun z => h_26 (Int32.toInt_inj.mp z)
        refine ok_bd.mpr ?_
        try unfold fX10_isPicture
        refine ok_bd.mpr ?_
        try unfold fX10_pictures
        refine ok_gd.mpr ⟨gb_of (by omega) (by omega), ?_⟩
        refine ok_nm2 (fun v1_311547 ev1_311547 => ?_)
        have qv1_311547 : v1_311547.toInt = (σ.1 15 (7 : Int32).toNatClampNeg).toInt := by rw [ev1_311547]
        refine ok_some.mpr ?_
        refine ok_bd.mpr ?_
        try unfold fX10_isIn
        refine ok_ite.mpr ⟨fun h_31 => ?_, fun h_31 => ?_⟩
        · have t32 : p2.toInt64.toInt = p2.toInt := Int32.toInt_toInt64 _
          have g33 : p2.toInt64.toInt < (0 : Int64).toInt := Int64.lt_iff_toInt_lt.mp h_31
          refine ok_some.mpr ?_
          refine ok_some.mpr ?_
          refine ok_ite.mpr ⟨fun h_34 => ?_, fun h_34 => ?_⟩
          · have f35 : (vp_nar .boolean 0).toInt = 0 := by decide
            have g36 : (vp_nar .boolean 0).toInt = (0 : Int32).toInt := by rw [h_34]
            refine ok_some.mpr ?_
            have l_m1 : (-1 : Int32).toInt = -1 := by decide
            exact ⟨hIσ, hfσ, (show -1 ≤ (-1 : Int32).toInt by omega), (show (-1 : Int32).toInt ≤ 1 by omega)⟩
          · have f37 : (vp_nar .boolean 0).toInt = 0 := by decide
            have g38 : (vp_nar .boolean 0).toInt ≠ (0 : Int32).toInt := fun z => h_34 (Int32.toInt_inj.mp z)
            exfalso; omega
        · have t39 : p2.toInt64.toInt = p2.toInt := Int32.toInt_toInt64 _
          have g40 : ¬ p2.toInt64.toInt < (0 : Int64).toInt := fun z => h_31 (Int64.lt_iff_toInt_lt.mpr z)
          refine ok_ite.mpr ⟨fun h_41 => ?_, fun h_41 => ?_⟩
          · have f42 : (v1_311547 - (1 : Int32)).toInt = v1_311547.toInt - (1 : Int32).toInt := isub_toInt (by omega) (by omega)
            have t43 : (v1_311547 - 1).toInt64.toInt = (v1_311547 - 1).toInt := Int32.toInt_toInt64 _
            have g44 : (v1_311547 - 1).toInt64.toInt < p2.toInt64.toInt := Int64.lt_iff_toInt_lt.mp h_41
            refine ok_some.mpr ?_
            refine ok_some.mpr ?_
            refine ok_ite.mpr ⟨fun h_45 => ?_, fun h_45 => ?_⟩
            · have f46 : (vp_nar .boolean 0).toInt = 0 := by decide
              have g47 : (vp_nar .boolean 0).toInt = (0 : Int32).toInt := by rw [h_45]
              refine ok_some.mpr ?_
              have l_m1 : (-1 : Int32).toInt = -1 := by decide
              exact ⟨hIσ, hfσ, (show -1 ≤ (-1 : Int32).toInt by omega), (show (-1 : Int32).toInt ≤ 1 by omega)⟩
            · have f48 : (vp_nar .boolean 0).toInt = 0 := by decide
              have g49 : (vp_nar .boolean 0).toInt ≠ (0 : Int32).toInt := fun z => h_45 (Int32.toInt_inj.mp z)
              exfalso; omega
          · have f50 : (v1_311547 - (1 : Int32)).toInt = v1_311547.toInt - (1 : Int32).toInt := isub_toInt (by omega) (by omega)
            have t51 : (v1_311547 - 1).toInt64.toInt = (v1_311547 - 1).toInt := Int32.toInt_toInt64 _
            have g52 : ¬ (v1_311547 - 1).toInt64.toInt < p2.toInt64.toInt := fun z => h_41 (Int64.lt_iff_toInt_lt.mpr z)
            refine ok_some.mpr ?_
            refine ok_some.mpr ?_
            refine ok_ite.mpr ⟨fun h_53 => ?_, fun h_53 => ?_⟩
            · have g54 : (vp_nar .boolean 1).toInt = (0 : Int32).toInt := by rw [h_53]
              exfalso; omega
            · have g55 : (vp_nar .boolean 1).toInt ≠ (0 : Int32).toInt := fun z => h_53 (Int32.toInt_inj.mp z)
              refine ok_bd.mpr ((o_fX10_hangs hIσ ).mono (fun σ8_311538_311544_311545_311548_311554_311555 ho_57 => ?_))
              obtain ⟨hIσ8_311538_311544_311545_311548_311554_311555, hcσ8_311538_311544_311545_311548_311554_311555⟩ := ho_57
              have hfσ8_311538_311544_311545_311548_311554_311555 : Fr fr_fX10_hang σ σ8_311538_311544_311545_311548_311554_311555 := Fr_c hfσ hcσ8_311538_311544_311545_311548_311554_311555 (by decide)
              refine ok_gd.mpr ⟨gb_of (by omega) (by omega), ?_⟩
              refine ok_nm2 (fun v9_311538_311544_311545_311548_311554_311555 ev9_311538_311544_311545_311548_311554_311555 => ?_)
              have f58 : 0 ≤ (σ8_311538_311544_311545_311548_311554_311555.1 32 p1.toNatClampNeg).toInt ∧ (σ8_311538_311544_311545_311548_311554_311555.1 32 p1.toNatClampNeg).toInt ≤ 31 := hIσ8_311538_311544_311545_311548_311554_311555 32 _
              have qv9_311538_311544_311545_311548_311554_311555 : v9_311538_311544_311545_311548_311554_311555.toInt = (σ8_311538_311544_311545_311548_311554_311555.1 32 p1.toNatClampNeg).toInt := by rw [ev9_311538_311544_311545_311548_311554_311555]
              refine ok_gd.mpr ⟨gb_of (by omega) (by omega), ?_⟩
              refine ok_nm2 (fun v10_311538_311544_311545_311548_311554_311555 ev10_311538_311544_311545_311548_311554_311555 => ?_)
              have f59 : 0 ≤ (σ8_311538_311544_311545_311548_311554_311555.1 32 p2.toNatClampNeg).toInt ∧ (σ8_311538_311544_311545_311548_311554_311555.1 32 p2.toNatClampNeg).toInt ≤ 31 := hIσ8_311538_311544_311545_311548_311554_311555 32 _
              have qv10_311538_311544_311545_311548_311554_311555 : v10_311538_311544_311545_311548_311554_311555.toInt = (σ8_311538_311544_311545_311548_311554_311555.1 32 p2.toNatClampNeg).toInt := by rw [ev10_311538_311544_311545_311548_311554_311555]
              refine ok_ite.mpr ⟨fun h_60 => ?_, fun h_60 => ?_⟩
              · have g61 : v9_311538_311544_311545_311548_311554_311555.toInt = v10_311538_311544_311545_311548_311554_311555.toInt := by rw [h_60]
                refine ok_some.mpr ?_
                exact ⟨hIσ8_311538_311544_311545_311548_311554_311555, hfσ8_311538_311544_311545_311548_311554_311555, (show -1 ≤ (1 : Int32).toInt by omega), (show (1 : Int32).toInt ≤ 1 by omega)⟩
              · have g62 : v9_311538_311544_311545_311548_311554_311555.toInt ≠ v10_311538_311544_311545_311548_311554_311555.toInt := fun z => h_60 (Int32.toInt_inj.mp z)
                refine ok_some.mpr ?_
                exact ⟨hIσ8_311538_311544_311545_311548_311554_311555, hfσ8_311538_311544_311545_311548_311554_311555, (show -1 ≤ (0 : Int32).toInt by omega), (show (0 : Int32).toInt ≤ 1 by omega)⟩
set_option maxRecDepth 20000 in
set_option maxHeartbeats 2000000 in
theorem o_fX10_blind {σ : gS} (hIσ : IM σ)   : Ok (fX10_blind σ ) (fun out => IM out.2 ∧ Fr fr_fX10_blind σ out.2) := by
  unfold fX10_blind
  have hfσ : Fr fr_fX10_blind σ σ := Fr_r
  refine ok_nm2 (fun x1 ex1 => ?_)
  have l_0 : (0 : Int32).toInt = 0 := by decide
  have qx1 : x1.toInt = 0 := by rw [ex1]; decide
  refine ok_nm2 (fun x2 ex2 => ?_)
  have qx2 : x2.toInt = 0 := by rw [ex2]; decide
  refine ok_lpc (I := fun n s => n = (60 + 1 - s.2.1.toInt).toNat ∧ IM s.2.2 ∧ Fr fr_fX10_blind σ s.2.2 ∧ 0 ≤ s.2.1.toInt ∧ s.2.1.toInt ≤ 60) (fun rec4_311556r n_311556 s_311556 hs_311556 hrec_311556 => ?_) K9 _ _ ⟨rfl, hIσ, hfσ, (by (try dsimp only); omega), (by (try dsimp only); omega)⟩ (by unfold K9; (try dsimp only); omega)
  obtain ⟨a1_311556, a2_311556, σ1_311556⟩ := s_311556
  obtain ⟨hn_311556, hIσ1_311556, hfσ1_311556, b0a2_311556, b1a2_311556⟩ := hs_311556
  dsimp only at hn_311556 hIσ1_311556 hfσ1_311556 b0a2_311556 b1a2_311556
  unfold bX10_blind_4
  try dsimp only
  refine ok_bd.mpr ?_
  try unfold fX10_rows
  have l_9 : (9 : Int32).toInt = 9 := by decide
  refine ok_gd.mpr ⟨gb_of (by omega) (by omega), ?_⟩
  refine ok_nm2 (fun v1_311577 ev1_311577 => ?_)
  have f1 : 0 ≤ (σ1_311556.1 15 (9 : Int32).toNatClampNeg).toInt ∧ (σ1_311556.1 15 (9 : Int32).toNatClampNeg).toInt ≤ 60 := hIσ1_311556 15 _
  have qv1_311577 : v1_311577.toInt = (σ1_311556.1 15 (9 : Int32).toNatClampNeg).toInt := by rw [ev1_311577]
  refine ok_some.mpr ?_
  refine ok_ite.mpr ⟨fun h_2 => ?_, fun h_2 => ?_⟩
  · have g3 : v1_311577.toInt ≤ a2_311556.toInt := Int32.le_iff_toInt_le.mp h_2
    refine ok_some.mpr ?_
    exact ⟨hIσ1_311556, hfσ1_311556⟩
  · have g4 : ¬ v1_311577.toInt ≤ a2_311556.toInt := fun z => h_2 (Int32.le_iff_toInt_le.mpr z)
    refine ok_gd.mpr ⟨gb_of (by omega) (by omega), ?_⟩
    refine ok_nm2 (fun v6_311576_311578 ev6_311576_311578 => ?_)
    have f5 : 0 ≤ (σ1_311556.1 26 a2_311556.toNatClampNeg).toInt ∧ (σ1_311556.1 26 a2_311556.toNatClampNeg).toInt ≤ 1 := hIσ1_311556 26 _
    have qv6_311576_311578 : v6_311576_311578.toInt = (σ1_311556.1 26 a2_311556.toNatClampNeg).toInt := by rw [ev6_311576_311578]
    refine ok_ite.mpr ⟨fun h_6 => ?_, fun h_6 => ?_⟩
    · have g7 : v6_311576_311578.toInt = (0 : Int32).toInt := by rw [h_6]
      refine ok_bd2.mpr ((o_fX10_canShow hIσ1_311556 (by omega) (by omega)).mono (fun o_8 ho_9 => ?_))
      obtain ⟨r10_311576_311578, σ11_311576_311578⟩ := o_8
      obtain ⟨hIσ11_311576_311578, hcσ11_311576_311578, r0r10_311576_311578, r1r10_311576_311578⟩ := ho_9
      dsimp only at hIσ11_311576_311578 hcσ11_311576_311578 r0r10_311576_311578 r1r10_311576_311578 ⊢
      have hfσ11_311576_311578 : Fr fr_fX10_blind σ σ11_311576_311578 := Fr_c hfσ1_311556 hcσ11_311576_311578 (by decide)
      refine ok_ite.mpr ⟨fun h_10 => ?_, fun h_10 => ?_⟩
      · have g11 : r10_311576_311578.toInt = (0 : Int32).toInt := by rw [h_10]
        refine ok_nm2 (fun x14_311576_311578 ex14_311576_311578 => ?_)
        have l_1 : (1 : Int32).toInt = 1 := by decide
        refine ok_nm2 (fun x15_311576_311578 ex15_311576_311578 => ?_)
        have f12 : (a2_311556 + (1 : Int32)).toInt = a2_311556.toInt + (1 : Int32).toInt := iadd_toInt (by omega) (by omega)
        have qx15_311576_311578 : x15_311576_311578.toInt = (a2_311556 + 1).toInt := by rw [ex15_311576_311578]
        exact hrec_311556 _ (x14_311576_311578, x15_311576_311578, σ11_311576_311578) (show (60 + 1 - x15_311576_311578.toInt).toNat < n_311556 by omega) ⟨rfl, hIσ11_311576_311578, hfσ11_311576_311578, (show 0 ≤ x15_311576_311578.toInt by omega), (show x15_311576_311578.toInt ≤ 60 by omega)⟩
      · have g13 : r10_311576_311578.toInt ≠ (0 : Int32).toInt := fun z => h_10 (Int32.toInt_inj.mp z)
        refine ok_nm2 (fun x13_311576_311578 ex13_311576_311578 => ?_)
        have l_1 : (1 : Int32).toInt = 1 := by decide
        have f14 : (a2_311556 + (1 : Int32)).toInt = a2_311556.toInt + (1 : Int32).toInt := iadd_toInt (by omega) (by omega)
        have qx13_311576_311578 : x13_311576_311578.toInt = (a2_311556 + 1).toInt := by rw [ex13_311576_311578]
        exact hrec_311556 _ (a1_311556, x13_311576_311578, σ11_311576_311578) (show (60 + 1 - x13_311576_311578.toInt).toNat < n_311556 by omega) ⟨rfl, hIσ11_311576_311578, hfσ11_311576_311578, (show 0 ≤ x13_311576_311578.toInt by omega), (show x13_311576_311578.toInt ≤ 60 by omega)⟩
    · have g15 : v6_311576_311578.toInt ≠ (0 : Int32).toInt := fun z => h_6 (Int32.toInt_inj.mp z)
      refine ok_nm2 (fun x8_311576_311578 ex8_311576_311578 => ?_)
      have l_1 : (1 : Int32).toInt = 1 := by decide
      have f16 : (a2_311556 + (1 : Int32)).toInt = a2_311556.toInt + (1 : Int32).toInt := iadd_toInt (by omega) (by omega)
      have qx8_311576_311578 : x8_311576_311578.toInt = (a2_311556 + 1).toInt := by rw [ex8_311576_311578]
      exact hrec_311556 _ (a1_311556, x8_311576_311578, σ1_311556) (show (60 + 1 - x8_311576_311578.toInt).toNat < n_311556 by omega) ⟨rfl, hIσ1_311556, hfσ1_311556, (show 0 ≤ x8_311576_311578.toInt by omega), (show x8_311576_311578.toInt ≤ 60 by omega)⟩
set_option maxRecDepth 20000 in
set_option maxHeartbeats 2000000 in
theorem o_fX10_looseMany {σ : gS} (hIσ : IM σ)   : Ok (fX10_looseMany σ ) (fun out => IM out.2 ∧ Fr fr_fX10_looseMany σ out.2) := by
  unfold fX10_looseMany
  have hfσ : Fr fr_fX10_looseMany σ σ := Fr_r
  refine ok_bd.mpr ((o_fX10_hangs hIσ ).mono (fun σ2 ho_2 => ?_))
  obtain ⟨hIσ2, hcσ2⟩ := ho_2
  have hfσ2 : Fr fr_fX10_looseMany σ σ2 := Fr_c hfσ hcσ2 (by decide)
  refine ok_nm2 (fun x3 ex3 => ?_)
  have l_0 : (0 : Int32).toInt = 0 := by decide
  have qx3 : x3.toInt = 0 := by rw [ex3]; decide
  refine ok_nm2 (fun x4 ex4 => ?_)
  have qx4 : x4.toInt = 0 := by rw [ex4]; decide
  refine ok_lpc (I := fun n s => n = (12 + 1 - s.2.toInt).toNat ∧ 0 ≤ s.2.toInt ∧ s.2.toInt ≤ 12) (fun rec8_311579r n_311579 s_311579 hs_311579 hrec_311579 => ?_) K9 _ _ ⟨rfl, (by (try dsimp only); omega), (by (try dsimp only); omega)⟩ (by unfold K9; (try dsimp only); omega)
  obtain ⟨a1_311579, a2_311579⟩ := s_311579
  obtain ⟨hn_311579, b0a2_311579, b1a2_311579⟩ := hs_311579
  dsimp only at hn_311579 b0a2_311579 b1a2_311579
  unfold bX10_looseMany_8
  try dsimp only
  refine ok_bd.mpr ?_
  try unfold fX10_pictures
  have l_7 : (7 : Int32).toInt = 7 := by decide
  refine ok_gd.mpr ⟨gb_of (by omega) (by omega), ?_⟩
  refine ok_nm2 (fun v1_311600 ev1_311600 => ?_)
  have f3 : 0 ≤ (σ2.1 15 (7 : Int32).toNatClampNeg).toInt ∧ (σ2.1 15 (7 : Int32).toNatClampNeg).toInt ≤ 12 := hIσ2 15 _
  have qv1_311600 : v1_311600.toInt = (σ2.1 15 (7 : Int32).toNatClampNeg).toInt := by rw [ev1_311600]
  refine ok_some.mpr ?_
  refine ok_ite.mpr ⟨fun h_4 => ?_, fun h_4 => ?_⟩
  · have g5 : v1_311600.toInt ≤ a2_311579.toInt := Int32.le_iff_toInt_le.mp h_4
    refine ok_some.mpr ?_
    exact ⟨hIσ2, hfσ2⟩
  · have g6 : ¬ v1_311600.toInt ≤ a2_311579.toInt := fun z => h_4 (Int32.le_iff_toInt_le.mpr z)
    refine ok_bd.mpr ((o_fX10_isLoose hIσ2 (by omega) (by omega)).mono (fun r9_311599_311601 ho_8 => ?_))
    obtain ⟨r0r9_311599_311601, r1r9_311599_311601⟩ := ho_8
    refine ok_ite.mpr ⟨fun h_9 => ?_, fun h_9 => ?_⟩
    · have g10 : r9_311599_311601.toInt = (0 : Int32).toInt := by rw [h_9]
      refine ok_nm2 (fun x11_311599_311601 ex11_311599_311601 => ?_)
      have l_1 : (1 : Int32).toInt = 1 := by decide
      have f11 : (a2_311579 + (1 : Int32)).toInt = a2_311579.toInt + (1 : Int32).toInt := iadd_toInt (by omega) (by omega)
      have qx11_311599_311601 : x11_311599_311601.toInt = (a2_311579 + 1).toInt := by rw [ex11_311599_311601]
      exact hrec_311579 _ (a1_311579, x11_311599_311601) (show (12 + 1 - x11_311599_311601.toInt).toNat < n_311579 by omega) ⟨rfl, (show 0 ≤ x11_311599_311601.toInt by omega), (show x11_311599_311601.toInt ≤ 12 by omega)⟩
    · have g12 : r9_311599_311601.toInt ≠ (0 : Int32).toInt := fun z => h_9 (Int32.toInt_inj.mp z)
      refine ok_nm2 (fun x12_311599_311601 ex12_311599_311601 => ?_)
      have l_1 : (1 : Int32).toInt = 1 := by decide
      refine ok_nm2 (fun x13_311599_311601 ex13_311599_311601 => ?_)
      have f13 : (a2_311579 + (1 : Int32)).toInt = a2_311579.toInt + (1 : Int32).toInt := iadd_toInt (by omega) (by omega)
      have qx13_311599_311601 : x13_311599_311601.toInt = (a2_311579 + 1).toInt := by rw [ex13_311599_311601]
      exact hrec_311579 _ (x12_311599_311601, x13_311599_311601) (show (12 + 1 - x13_311599_311601.toInt).toNat < n_311579 by omega) ⟨rfl, (show 0 ≤ x13_311599_311601.toInt by omega), (show x13_311599_311601.toInt ≤ 12 by omega)⟩
set_option maxRecDepth 20000 in
set_option maxHeartbeats 2000000 in
theorem o_fX10_needs {σ : gS} (hIσ : IM σ) {p1 : Int32}  : Ok (fX10_needs σ p1) (fun out => IM out.2 ∧ Fr fr_fX10_needs σ out.2) := by
  unfold fX10_needs
  have hfσ : Fr fr_fX10_needs σ σ := Fr_r
  refine ok_bd.mpr ?_
  try unfold fX10_isRow
  refine ok_bd.mpr ?_
  try unfold fX10_rows
  have l_9 : (9 : Int32).toInt = 9 := by decide
  refine ok_gd.mpr ⟨gb_of (by omega) (by omega), ?_⟩
  refine ok_nm2 (fun v1_311603 ev1_311603 => ?_)
  have f1 : 0 ≤ (σ.1 15 (9 : Int32).toNatClampNeg).toInt ∧ (σ.1 15 (9 : Int32).toNatClampNeg).toInt ≤ 60 := hIσ 15 _
  have qv1_311603 : v1_311603.toInt = (σ.1 15 (9 : Int32).toNatClampNeg).toInt := by rw [ev1_311603]
  refine ok_some.mpr ?_
  refine ok_bd.mpr ?_
  try unfold fX10_isIn
  refine ok_ite.mpr ⟨fun h_2 => ?_, fun h_2 => ?_⟩
  · have t3 : p1.toInt64.toInt = p1.toInt := Int32.toInt_toInt64 _
    have t4 : (0 : Int64).toInt = 0 := by decide
    have g5 : p1.toInt64.toInt < (0 : Int64).toInt := Int64.lt_iff_toInt_lt.mp h_2
    refine ok_some.mpr ?_
    refine ok_some.mpr ?_
    refine ok_ite.mpr ⟨fun h_6 => ?_, fun h_6 => ?_⟩
    · have f7 : (vp_nar .boolean 0).toInt = 0 := by decide
      have l_0 : (0 : Int32).toInt = 0 := by decide
      have g8 : (vp_nar .boolean 0).toInt = (0 : Int32).toInt := by rw [h_6]
      refine ok_some.mpr ?_
      exact ⟨hIσ, hfσ⟩
    · have f9 : (vp_nar .boolean 0).toInt = 0 := by decide
      have l_0 : (0 : Int32).toInt = 0 := by decide
      have g10 : (vp_nar .boolean 0).toInt ≠ (0 : Int32).toInt := fun z => h_6 (Int32.toInt_inj.mp z)
      exfalso; omega
  · have t11 : p1.toInt64.toInt = p1.toInt := Int32.toInt_toInt64 _
    have t12 : (0 : Int64).toInt = 0 := by decide
    have g13 : ¬ p1.toInt64.toInt < (0 : Int64).toInt := fun z => h_2 (Int64.lt_iff_toInt_lt.mpr z)
    refine ok_ite.mpr ⟨fun h_14 => ?_, fun h_14 => ?_⟩
    · have l_1 : (1 : Int32).toInt = 1 := by decide
      have f15 : (v1_311603 - (1 : Int32)).toInt = v1_311603.toInt - (1 : Int32).toInt := isub_toInt (by omega) (by omega)
      have t16 : (v1_311603 - 1).toInt64.toInt = (v1_311603 - 1).toInt := Int32.toInt_toInt64 _
      have g17 : (v1_311603 - 1).toInt64.toInt < p1.toInt64.toInt := Int64.lt_iff_toInt_lt.mp h_14
      refine ok_some.mpr ?_
      refine ok_some.mpr ?_
      refine ok_ite.mpr ⟨fun h_18 => ?_, fun h_18 => ?_⟩
      · have f19 : (vp_nar .boolean 0).toInt = 0 := by decide
        have l_0 : (0 : Int32).toInt = 0 := by decide
        have g20 : (vp_nar .boolean 0).toInt = (0 : Int32).toInt := by rw [h_18]
        refine ok_some.mpr ?_
        exact ⟨hIσ, hfσ⟩
      · have f21 : (vp_nar .boolean 0).toInt = 0 := by decide
        have l_0 : (0 : Int32).toInt = 0 := by decide
        have g22 : (vp_nar .boolean 0).toInt ≠ (0 : Int32).toInt := fun z => h_18 (Int32.toInt_inj.mp z)
        exfalso; omega
    · have l_1 : (1 : Int32).toInt = 1 := by decide
      have f23 : (v1_311603 - (1 : Int32)).toInt = v1_311603.toInt - (1 : Int32).toInt := isub_toInt (by omega) (by omega)
      have t24 : (v1_311603 - 1).toInt64.toInt = (v1_311603 - 1).toInt := Int32.toInt_toInt64 _
      have g25 : ¬ (v1_311603 - 1).toInt64.toInt < p1.toInt64.toInt := fun z => h_14 (Int64.lt_iff_toInt_lt.mpr z)
      refine ok_some.mpr ?_
      refine ok_some.mpr ?_
      refine ok_ite.mpr ⟨fun h_26 => ?_, fun h_26 => ?_⟩
      · have f27 : (vp_nar .boolean 1).toInt = 1 := by decide
        have l_0 : (0 : Int32).toInt = 0 := by decide
        have g28 : (vp_nar .boolean 1).toInt = (0 : Int32).toInt := by rw [h_26]
        exfalso; omega
      · have f29 : (vp_nar .boolean 1).toInt = 1 := by decide
        have l_0 : (0 : Int32).toInt = 0 := by decide
        have g30 : (vp_nar .boolean 1).toInt ≠ (0 : Int32).toInt := fun z => h_26 (Int32.toInt_inj.mp z)
        refine ok_gd.mpr ⟨gb_of (by omega) (by omega), ?_⟩
        refine ok_nm2 (fun v4_311604_311610_311611 ev4_311604_311610_311611 => ?_)
        have f31 : 0 ≤ (σ.1 26 p1.toNatClampNeg).toInt ∧ (σ.1 26 p1.toNatClampNeg).toInt ≤ 1 := hIσ 26 _
        have qv4_311604_311610_311611 : v4_311604_311610_311611.toInt = (σ.1 26 p1.toNatClampNeg).toInt := by rw [ev4_311604_311610_311611]
        refine ok_ite.mpr ⟨fun h_32 => ?_, fun h_32 => ?_⟩
        · have g33 : v4_311604_311610_311611.toInt = (0 : Int32).toInt := by rw [h_32]
          refine ok_bd2.mpr ((o_fX10_looseMany hIσ ).mono (fun o_34 ho_35 => ?_))
          obtain ⟨r7_311604_311610_311611, σ8_311604_311610_311611⟩ := o_34
          obtain ⟨hIσ8_311604_311610_311611, hcσ8_311604_311610_311611⟩ := ho_35
          dsimp only at hIσ8_311604_311610_311611 hcσ8_311604_311610_311611 ⊢
          have hfσ8_311604_311610_311611 : Fr fr_fX10_needs σ σ8_311604_311610_311611 := Fr_c hfσ hcσ8_311604_311610_311611 (by decide)
          refine ok_nm2 (fun x9_311604_311610_311611 ex9_311604_311610_311611 => ?_)
          have qx9_311604_311610_311611 : x9_311604_311610_311611.toInt = r7_311604_311610_311611.toInt := by rw [ex9_311604_311610_311611]
          refine ok_gd.mpr ⟨gb_of (by omega) (by omega), ?_⟩
          refine ok_nm2 (fun σ10_311604_311610_311611 eσ10_311604_311610_311611 => ?_)
          have hIσ10_311604_311610_311611 : IM σ10_311604_311610_311611 := by rw [eσ10_311604_311610_311611]; exact IM_w hIσ8_311604_311610_311611 (show 0 ≤ _ by omega) (show _ ≤ 1 by omega)
          have hfσ10_311604_311610_311611 : Fr fr_fX10_needs σ σ10_311604_311610_311611 := by rw [eσ10_311604_311610_311611]; exact Fr_w0 hfσ8_311604_311610_311611 (by decide)
          refine ok_bd2.mpr ((o_fX10_looseMany hIσ10_311604_311610_311611 ).mono (fun o_36 ho_37 => ?_))
          obtain ⟨r12_311604_311610_311611, σ13_311604_311610_311611⟩ := o_36
          obtain ⟨hIσ13_311604_311610_311611, hcσ13_311604_311610_311611⟩ := ho_37
          dsimp only at hIσ13_311604_311610_311611 hcσ13_311604_311610_311611 ⊢
          have hfσ13_311604_311610_311611 : Fr fr_fX10_needs σ σ13_311604_311610_311611 := Fr_c hfσ10_311604_311610_311611 hcσ13_311604_311610_311611 (by decide)
          refine ok_nm2 (fun x14_311604_311610_311611 ex14_311604_311610_311611 => ?_)
          have qx14_311604_311610_311611 : x14_311604_311610_311611.toInt = r12_311604_311610_311611.toInt := by rw [ex14_311604_311610_311611]
          refine ok_gd.mpr ⟨gb_of (by omega) (by omega), ?_⟩
          refine ok_nm2 (fun σ15_311604_311610_311611 eσ15_311604_311610_311611 => ?_)
          have f38 : (vp_nar .boolean 0).toInt = 0 := by decide
          have hIσ15_311604_311610_311611 : IM σ15_311604_311610_311611 := by rw [eσ15_311604_311610_311611]; exact IM_w hIσ13_311604_311610_311611 (show 0 ≤ _ by omega) (show _ ≤ 1 by omega)
          have hfσ15_311604_311610_311611 : Fr fr_fX10_needs σ σ15_311604_311610_311611 := by rw [eσ15_311604_311610_311611]; exact Fr_w0 hfσ13_311604_311610_311611 (by decide)
          refine ok_some.mpr ?_
          exact ⟨hIσ15_311604_311610_311611, hfσ15_311604_311610_311611⟩
        · have g39 : v4_311604_311610_311611.toInt ≠ (0 : Int32).toInt := fun z => h_32 (Int32.toInt_inj.mp z)
          refine ok_some.mpr ?_
          exact ⟨hIσ, hfσ⟩
set_option maxRecDepth 20000 in
set_option maxHeartbeats 2000000 in
theorem o_fX10_drop {σ : gS} (hIσ : IM σ) {p1 : Int32} {p2 : Int32} (h0p2 : 0 ≤ p2.toInt) (h1p2 : p2.toInt ≤ 1) : Ok (fX10_drop σ p1 p2) (fun out => IM out.2 ∧ Fr fr_fX10_drop σ out.2 ∧ 0 ≤ out.1.toInt ∧ out.1.toInt ≤ 1) := by
  unfold fX10_drop
  have hfσ : Fr fr_fX10_drop σ σ := Fr_r
  refine ok_bd.mpr ?_
  try unfold fX10_isRow
  refine ok_bd.mpr ?_
  try unfold fX10_rows
  have l_9 : (9 : Int32).toInt = 9 := by decide
  refine ok_gd.mpr ⟨gb_of (by omega) (by omega), ?_⟩
  refine ok_nm2 (fun v1_311638 ev1_311638 => ?_)
  have f1 : 0 ≤ (σ.1 15 (9 : Int32).toNatClampNeg).toInt ∧ (σ.1 15 (9 : Int32).toNatClampNeg).toInt ≤ 60 := hIσ 15 _
  have qv1_311638 : v1_311638.toInt = (σ.1 15 (9 : Int32).toNatClampNeg).toInt := by rw [ev1_311638]
  refine ok_some.mpr ?_
  refine ok_bd.mpr ?_
  try unfold fX10_isIn
  refine ok_ite.mpr ⟨fun h_2 => ?_, fun h_2 => ?_⟩
  · have t3 : p1.toInt64.toInt = p1.toInt := Int32.toInt_toInt64 _
    have t4 : (0 : Int64).toInt = 0 := by decide
    have g5 : p1.toInt64.toInt < (0 : Int64).toInt := Int64.lt_iff_toInt_lt.mp h_2
    refine ok_some.mpr ?_
    refine ok_some.mpr ?_
    refine ok_ite.mpr ⟨fun h_6 => ?_, fun h_6 => ?_⟩
    · have f7 : (vp_nar .boolean 0).toInt = 0 := by decide
      have l_0 : (0 : Int32).toInt = 0 := by decide
      have g8 : (vp_nar .boolean 0).toInt = (0 : Int32).toInt := by rw [h_6]
      refine ok_some.mpr ?_
      exact ⟨hIσ, hfσ, (show 0 ≤ (0 : Int32).toInt by omega), (show (0 : Int32).toInt ≤ 1 by omega)⟩
    · have f9 : (vp_nar .boolean 0).toInt = 0 := by decide
      have l_0 : (0 : Int32).toInt = 0 := by decide
      have g10 : (vp_nar .boolean 0).toInt ≠ (0 : Int32).toInt := fun z => h_6 (Int32.toInt_inj.mp z)
      exfalso; omega
  · have t11 : p1.toInt64.toInt = p1.toInt := Int32.toInt_toInt64 _
    have t12 : (0 : Int64).toInt = 0 := by decide
    have g13 : ¬ p1.toInt64.toInt < (0 : Int64).toInt := fun z => h_2 (Int64.lt_iff_toInt_lt.mpr z)
    refine ok_ite.mpr ⟨fun h_14 => ?_, fun h_14 => ?_⟩
    · have l_1 : (1 : Int32).toInt = 1 := by decide
      have f15 : (v1_311638 - (1 : Int32)).toInt = v1_311638.toInt - (1 : Int32).toInt := isub_toInt (by omega) (by omega)
      have t16 : (v1_311638 - 1).toInt64.toInt = (v1_311638 - 1).toInt := Int32.toInt_toInt64 _
      have g17 : (v1_311638 - 1).toInt64.toInt < p1.toInt64.toInt := Int64.lt_iff_toInt_lt.mp h_14
      refine ok_some.mpr ?_
      refine ok_some.mpr ?_
      refine ok_ite.mpr ⟨fun h_18 => ?_, fun h_18 => ?_⟩
      · have f19 : (vp_nar .boolean 0).toInt = 0 := by decide
        have l_0 : (0 : Int32).toInt = 0 := by decide
        have g20 : (vp_nar .boolean 0).toInt = (0 : Int32).toInt := by rw [h_18]
        refine ok_some.mpr ?_
        exact ⟨hIσ, hfσ, (show 0 ≤ (0 : Int32).toInt by omega), (show (0 : Int32).toInt ≤ 1 by omega)⟩
      · have f21 : (vp_nar .boolean 0).toInt = 0 := by decide
        have l_0 : (0 : Int32).toInt = 0 := by decide
        have g22 : (vp_nar .boolean 0).toInt ≠ (0 : Int32).toInt := fun z => h_18 (Int32.toInt_inj.mp z)
        exfalso; omega
    · have l_1 : (1 : Int32).toInt = 1 := by decide
      have f23 : (v1_311638 - (1 : Int32)).toInt = v1_311638.toInt - (1 : Int32).toInt := isub_toInt (by omega) (by omega)
      have t24 : (v1_311638 - 1).toInt64.toInt = (v1_311638 - 1).toInt := Int32.toInt_toInt64 _
      have g25 : ¬ (v1_311638 - 1).toInt64.toInt < p1.toInt64.toInt := fun z => h_14 (Int64.lt_iff_toInt_lt.mpr z)
      refine ok_some.mpr ?_
      refine ok_some.mpr ?_
      refine ok_ite.mpr ⟨fun h_26 => ?_, fun h_26 => ?_⟩
      · have f27 : (vp_nar .boolean 1).toInt = 1 := by decide
        have l_0 : (0 : Int32).toInt = 0 := by decide
        have g28 : (vp_nar .boolean 1).toInt = (0 : Int32).toInt := by rw [h_26]
        exfalso; omega
      · have f29 : (vp_nar .boolean 1).toInt = 1 := by decide
        have l_0 : (0 : Int32).toInt = 0 := by decide
        have g30 : (vp_nar .boolean 1).toInt ≠ (0 : Int32).toInt := fun z => h_26 (Int32.toInt_inj.mp z)
        refine ok_gd.mpr ⟨gb_of (by omega) (by omega), ?_⟩
        refine ok_nm2 (fun v4_311639_311645_311646 ev4_311639_311645_311646 => ?_)
        have f31 : 0 ≤ (σ.1 26 p1.toNatClampNeg).toInt ∧ (σ.1 26 p1.toNatClampNeg).toInt ≤ 1 := hIσ 26 _
        have qv4_311639_311645_311646 : v4_311639_311645_311646.toInt = (σ.1 26 p1.toNatClampNeg).toInt := by rw [ev4_311639_311645_311646]
        refine ok_ite.mpr ⟨fun h_32 => ?_, fun h_32 => ?_⟩
        · have g33 : v4_311639_311645_311646.toInt = p2.toInt := by rw [h_32]
          refine ok_some.mpr ?_
          exact ⟨hIσ, hfσ, (show 0 ≤ (0 : Int32).toInt by omega), (show (0 : Int32).toInt ≤ 1 by omega)⟩
        · have g34 : v4_311639_311645_311646.toInt ≠ p2.toInt := fun z => h_32 (Int32.toInt_inj.mp z)
          refine ok_gd.mpr ⟨gb_of (by omega) (by omega), ?_⟩
          refine ok_nm2 (fun σ6_311639_311645_311646 eσ6_311639_311645_311646 => ?_)
          have f35 : 0 ≤ (vp_nar .boolean p2).toInt ∧ (vp_nar .boolean p2).toInt ≤ 1 := nar_bool _
          have hIσ6_311639_311645_311646 : IM σ6_311639_311645_311646 := by rw [eσ6_311639_311645_311646]; exact IM_w hIσ (show 0 ≤ _ by omega) (show _ ≤ 1 by omega)
          have hfσ6_311639_311645_311646 : Fr fr_fX10_drop σ σ6_311639_311645_311646 := by rw [eσ6_311639_311645_311646]; exact Fr_w0 hfσ (by decide)
          refine ok_some.mpr ?_
          exact ⟨hIσ6_311639_311645_311646, hfσ6_311639_311645_311646, (show 0 ≤ (1 : Int32).toInt by omega), (show (1 : Int32).toInt ≤ 1 by omega)⟩
set_option maxRecDepth 20000 in
set_option maxHeartbeats 2000000 in
theorem o_fX10_areTwo {σ : gS} (hIσ : IM σ) {p1 : Int32} {p2 : Int32}  : Ok (fX10_areTwo σ p1 p2) (fun out => 0 ≤ out.toInt ∧ out.toInt ≤ 1) := by
  unfold fX10_areTwo
  have hfσ : Fr fr_fX10_areTwo σ σ := Fr_r
  refine ok_bd.mpr ?_
  try unfold fX10_isPicture
  refine ok_bd.mpr ?_
  try unfold fX10_pictures
  have l_7 : (7 : Int32).toInt = 7 := by decide
  refine ok_gd.mpr ⟨gb_of (by omega) (by omega), ?_⟩
  refine ok_nm2 (fun v1_311706 ev1_311706 => ?_)
  have f1 : 0 ≤ (σ.1 15 (7 : Int32).toNatClampNeg).toInt ∧ (σ.1 15 (7 : Int32).toNatClampNeg).toInt ≤ 12 := hIσ 15 _
  have qv1_311706 : v1_311706.toInt = (σ.1 15 (7 : Int32).toNatClampNeg).toInt := by rw [ev1_311706]
  refine ok_some.mpr ?_
  refine ok_bd.mpr ?_
  try unfold fX10_isIn
  refine ok_ite.mpr ⟨fun h_2 => ?_, fun h_2 => ?_⟩
  · have t3 : p1.toInt64.toInt = p1.toInt := Int32.toInt_toInt64 _
    have t4 : (0 : Int64).toInt = 0 := by decide
    have g5 : p1.toInt64.toInt < (0 : Int64).toInt := Int64.lt_iff_toInt_lt.mp h_2
    refine ok_some.mpr ?_
    refine ok_some.mpr ?_
    refine ok_ite.mpr ⟨fun h_6 => ?_, fun h_6 => ?_⟩
    · have f7 : (vp_nar .boolean 0).toInt = 0 := by decide
      have l_0 : (0 : Int32).toInt = 0 := by decide
      have g8 : (vp_nar .boolean 0).toInt = (0 : Int32).toInt := by rw [h_6]
      refine ok_some.mpr ?_
      exact ⟨(show 0 ≤ (0 : Int32).toInt by omega), (show (0 : Int32).toInt ≤ 1 by omega)⟩
    · have f9 : (vp_nar .boolean 0).toInt = 0 := by decide
      have l_0 : (0 : Int32).toInt = 0 := by decide
      have g10 : (vp_nar .boolean 0).toInt ≠ (0 : Int32).toInt := fun z => h_6 (Int32.toInt_inj.mp z)
      exfalso; omega
  · have t11 : p1.toInt64.toInt = p1.toInt := Int32.toInt_toInt64 _
    have t12 : (0 : Int64).toInt = 0 := by decide
    have g13 : ¬ p1.toInt64.toInt < (0 : Int64).toInt := fun z => h_2 (Int64.lt_iff_toInt_lt.mpr z)
    refine ok_ite.mpr ⟨fun h_14 => ?_, fun h_14 => ?_⟩
    · have l_1 : (1 : Int32).toInt = 1 := by decide
      have f15 : (v1_311706 - (1 : Int32)).toInt = v1_311706.toInt - (1 : Int32).toInt := isub_toInt (by omega) (by omega)
      have t16 : (v1_311706 - 1).toInt64.toInt = (v1_311706 - 1).toInt := Int32.toInt_toInt64 _
      have g17 : (v1_311706 - 1).toInt64.toInt < p1.toInt64.toInt := Int64.lt_iff_toInt_lt.mp h_14
      refine ok_some.mpr ?_
      refine ok_some.mpr ?_
      refine ok_ite.mpr ⟨fun h_18 => ?_, fun h_18 => ?_⟩
      · have f19 : (vp_nar .boolean 0).toInt = 0 := by decide
        have l_0 : (0 : Int32).toInt = 0 := by decide
        have g20 : (vp_nar .boolean 0).toInt = (0 : Int32).toInt := by rw [h_18]
        refine ok_some.mpr ?_
        exact ⟨(show 0 ≤ (0 : Int32).toInt by omega), (show (0 : Int32).toInt ≤ 1 by omega)⟩
      · have f21 : (vp_nar .boolean 0).toInt = 0 := by decide
        have l_0 : (0 : Int32).toInt = 0 := by decide
        have g22 : (vp_nar .boolean 0).toInt ≠ (0 : Int32).toInt := fun z => h_18 (Int32.toInt_inj.mp z)
        exfalso; omega
    · have l_1 : (1 : Int32).toInt = 1 := by decide
      have f23 : (v1_311706 - (1 : Int32)).toInt = v1_311706.toInt - (1 : Int32).toInt := isub_toInt (by omega) (by omega)
      have t24 : (v1_311706 - 1).toInt64.toInt = (v1_311706 - 1).toInt := Int32.toInt_toInt64 _
      have g25 : ¬ (v1_311706 - 1).toInt64.toInt < p1.toInt64.toInt := fun z => h_14 (Int64.lt_iff_toInt_lt.mpr z)
      refine ok_some.mpr ?_
      refine ok_some.mpr ?_
      refine ok_ite.mpr ⟨fun h_26 => ?_, fun h_26 => ?_⟩
      · have f27 : (vp_nar .boolean 1).toInt = 1 := by decide
        have l_0 : (0 : Int32).toInt = 0 := by decide
        have g28 : (vp_nar .boolean 1).toInt = (0 : Int32).toInt := by rw [h_26]
        exfalso; omega
      · have f29 : (vp_nar .boolean 1).toInt = 1 := by decide
        have l_0 : (0 : Int32).toInt = 0 := by decide
        have g30 : (vp_nar .boolean 1).toInt ≠ (0 : Int32).toInt := fun z => h_26 (Int32.toInt_inj.mp z)
        refine ok_bd.mpr ?_
        try unfold fX10_isPicture
        refine ok_bd.mpr ?_
        try unfold fX10_pictures
        refine ok_gd.mpr ⟨gb_of (by omega) (by omega), ?_⟩
        refine ok_nm2 (fun v1_311716 ev1_311716 => ?_)
        have qv1_311716 : v1_311716.toInt = (σ.1 15 (7 : Int32).toNatClampNeg).toInt := by rw [ev1_311716]
        refine ok_some.mpr ?_
        refine ok_bd.mpr ?_
        try unfold fX10_isIn
        refine ok_ite.mpr ⟨fun h_31 => ?_, fun h_31 => ?_⟩
        · have t32 : p2.toInt64.toInt = p2.toInt := Int32.toInt_toInt64 _
          have g33 : p2.toInt64.toInt < (0 : Int64).toInt := Int64.lt_iff_toInt_lt.mp h_31
          refine ok_some.mpr ?_
          refine ok_some.mpr ?_
          refine ok_ite.mpr ⟨fun h_34 => ?_, fun h_34 => ?_⟩
          · have f35 : (vp_nar .boolean 0).toInt = 0 := by decide
            have g36 : (vp_nar .boolean 0).toInt = (0 : Int32).toInt := by rw [h_34]
            refine ok_some.mpr ?_
            exact ⟨(show 0 ≤ (0 : Int32).toInt by omega), (show (0 : Int32).toInt ≤ 1 by omega)⟩
          · have f37 : (vp_nar .boolean 0).toInt = 0 := by decide
            have g38 : (vp_nar .boolean 0).toInt ≠ (0 : Int32).toInt := fun z => h_34 (Int32.toInt_inj.mp z)
            exfalso; omega
        · have t39 : p2.toInt64.toInt = p2.toInt := Int32.toInt_toInt64 _
          have g40 : ¬ p2.toInt64.toInt < (0 : Int64).toInt := fun z => h_31 (Int64.lt_iff_toInt_lt.mpr z)
          refine ok_ite.mpr ⟨fun h_41 => ?_, fun h_41 => ?_⟩
          · have f42 : (v1_311716 - (1 : Int32)).toInt = v1_311716.toInt - (1 : Int32).toInt := isub_toInt (by omega) (by omega)
            have t43 : (v1_311716 - 1).toInt64.toInt = (v1_311716 - 1).toInt := Int32.toInt_toInt64 _
            have g44 : (v1_311716 - 1).toInt64.toInt < p2.toInt64.toInt := Int64.lt_iff_toInt_lt.mp h_41
            refine ok_some.mpr ?_
            refine ok_some.mpr ?_
            refine ok_ite.mpr ⟨fun h_45 => ?_, fun h_45 => ?_⟩
            · have f46 : (vp_nar .boolean 0).toInt = 0 := by decide
              have g47 : (vp_nar .boolean 0).toInt = (0 : Int32).toInt := by rw [h_45]
              refine ok_some.mpr ?_
              exact ⟨(show 0 ≤ (0 : Int32).toInt by omega), (show (0 : Int32).toInt ≤ 1 by omega)⟩
            · have f48 : (vp_nar .boolean 0).toInt = 0 := by decide
              have g49 : (vp_nar .boolean 0).toInt ≠ (0 : Int32).toInt := fun z => h_45 (Int32.toInt_inj.mp z)
              exfalso; omega
          · have f50 : (v1_311716 - (1 : Int32)).toInt = v1_311716.toInt - (1 : Int32).toInt := isub_toInt (by omega) (by omega)
            have t51 : (v1_311716 - 1).toInt64.toInt = (v1_311716 - 1).toInt := Int32.toInt_toInt64 _
            have g52 : ¬ (v1_311716 - 1).toInt64.toInt < p2.toInt64.toInt := fun z => h_41 (Int64.lt_iff_toInt_lt.mpr z)
            refine ok_some.mpr ?_
            refine ok_some.mpr ?_
            refine ok_ite.mpr ⟨fun h_53 => ?_, fun h_53 => ?_⟩
            · have g54 : (vp_nar .boolean 1).toInt = (0 : Int32).toInt := by rw [h_53]
              exfalso; omega
            · have g55 : (vp_nar .boolean 1).toInt ≠ (0 : Int32).toInt := fun z => h_53 (Int32.toInt_inj.mp z)
              refine ok_ite.mpr ⟨fun h_56 => ?_, fun h_56 => ?_⟩
              · have g57 : p1.toInt = p2.toInt := by rw [h_56]
                refine ok_some.mpr ?_
                exact ⟨(show 0 ≤ (0 : Int32).toInt by omega), (show (0 : Int32).toInt ≤ 1 by omega)⟩
              · have g58 : p1.toInt ≠ p2.toInt := fun z => h_56 (Int32.toInt_inj.mp z)
                refine ok_some.mpr ?_
                exact ⟨(show 0 ≤ (1 : Int32).toInt by omega), (show (1 : Int32).toInt ≤ 1 by omega)⟩
set_option maxRecDepth 20000 in
set_option maxHeartbeats 2000000 in
theorem o_fX10_tiePoints {σ : gS} (hIσ : IM σ) {p1 : Int32} {p2 : Int32}  : Ok (fX10_tiePoints σ p1 p2) (fun _ => True) := by
  unfold fX10_tiePoints
  have hfσ : Fr fr_fX10_tiePoints σ σ := Fr_r
  refine ok_nm2 (fun x1 ex1 => ?_)
  have l_0 : (0 : Int32).toInt = 0 := by decide
  have qx1 : x1.toInt = 0 := by rw [ex1]; decide
  refine ok_nm2 (fun x2 ex2 => ?_)
  have qx2 : x2.toInt = 0 := by rw [ex2]; decide
  refine ok_lpc (I := fun n s => n = (20 + 1 - s.2.toInt).toNat ∧ 0 ≤ s.2.toInt ∧ s.2.toInt ≤ 20) (fun rec5_311725r n_311725 s_311725 hs_311725 hrec_311725 => ?_) K9 _ _ ⟨rfl, (by (try dsimp only); omega), (by (try dsimp only); omega)⟩ (by unfold K9; (try dsimp only); omega)
  obtain ⟨a3_311725, a4_311725⟩ := s_311725
  obtain ⟨hn_311725, b0a4_311725, b1a4_311725⟩ := hs_311725
  dsimp only at hn_311725 b0a4_311725 b1a4_311725
  unfold bX10_tiePoints_5
  try dsimp only
  refine ok_bd.mpr ?_
  try unfold fX10_points
  have l_8 : (8 : Int32).toInt = 8 := by decide
  refine ok_gd.mpr ⟨gb_of (by omega) (by omega), ?_⟩
  refine ok_nm2 (fun v1_311746 ev1_311746 => ?_)
  have f1 : 0 ≤ (σ.1 15 (8 : Int32).toNatClampNeg).toInt ∧ (σ.1 15 (8 : Int32).toNatClampNeg).toInt ≤ 20 := hIσ 15 _
  have qv1_311746 : v1_311746.toInt = (σ.1 15 (8 : Int32).toNatClampNeg).toInt := by rw [ev1_311746]
  refine ok_some.mpr ?_
  refine ok_ite.mpr ⟨fun h_2 => ?_, fun h_2 => ?_⟩
  · have g3 : v1_311746.toInt ≤ a4_311725.toInt := Int32.le_iff_toInt_le.mp h_2
    refine ok_some.mpr ?_
    exact trivial
  · have g4 : ¬ v1_311746.toInt ≤ a4_311725.toInt := fun z => h_2 (Int32.le_iff_toInt_le.mpr z)
    refine ok_bd.mpr ((o_fX10_rowOf hIσ ).mono (fun r7_311745_311747 ho_6 => ?_))
    obtain ⟨r0r7_311745_311747, r1r7_311745_311747⟩ := ho_6
    refine ok_ite.mpr ⟨fun h_7 => ?_, fun h_7 => ?_⟩
    · have l_m1 : (-1 : Int32).toInt = -1 := by decide
      have g8 : r7_311745_311747.toInt = (-1 : Int32).toInt := by rw [h_7]
      refine ok_nm2 (fun x9_311745_311747 ex9_311745_311747 => ?_)
      have l_1 : (1 : Int32).toInt = 1 := by decide
      have f9 : (a4_311725 + (1 : Int32)).toInt = a4_311725.toInt + (1 : Int32).toInt := iadd_toInt (by omega) (by omega)
      have qx9_311745_311747 : x9_311745_311747.toInt = (a4_311725 + 1).toInt := by rw [ex9_311745_311747]
      exact hrec_311725 _ (a3_311725, x9_311745_311747) (show (20 + 1 - x9_311745_311747.toInt).toNat < n_311725 by omega) ⟨rfl, (show 0 ≤ x9_311745_311747.toInt by omega), (show x9_311745_311747.toInt ≤ 20 by omega)⟩
    · have l_m1 : (-1 : Int32).toInt = -1 := by decide
      have g10 : r7_311745_311747.toInt ≠ (-1 : Int32).toInt := fun z => h_7 (Int32.toInt_inj.mp z)
      refine ok_bd.mpr ((o_fX10_rowOf hIσ ).mono (fun r11_311745_311747 ho_12 => ?_))
      obtain ⟨r0r11_311745_311747, r1r11_311745_311747⟩ := ho_12
      refine ok_ite.mpr ⟨fun h_13 => ?_, fun h_13 => ?_⟩
      · have g14 : r11_311745_311747.toInt = (-1 : Int32).toInt := by rw [h_13]
        refine ok_nm2 (fun x13_311745_311747 ex13_311745_311747 => ?_)
        have l_1 : (1 : Int32).toInt = 1 := by decide
        have f15 : (a4_311725 + (1 : Int32)).toInt = a4_311725.toInt + (1 : Int32).toInt := iadd_toInt (by omega) (by omega)
        have qx13_311745_311747 : x13_311745_311747.toInt = (a4_311725 + 1).toInt := by rw [ex13_311745_311747]
        exact hrec_311725 _ (a3_311725, x13_311745_311747) (show (20 + 1 - x13_311745_311747.toInt).toNat < n_311725 by omega) ⟨rfl, (show 0 ≤ x13_311745_311747.toInt by omega), (show x13_311745_311747.toInt ≤ 20 by omega)⟩
      · have g16 : r11_311745_311747.toInt ≠ (-1 : Int32).toInt := fun z => h_13 (Int32.toInt_inj.mp z)
        refine ok_nm2 (fun x14_311745_311747 ex14_311745_311747 => ?_)
        have l_1 : (1 : Int32).toInt = 1 := by decide
        refine ok_nm2 (fun x15_311745_311747 ex15_311745_311747 => ?_)
        have f17 : (a4_311725 + (1 : Int32)).toInt = a4_311725.toInt + (1 : Int32).toInt := iadd_toInt (by omega) (by omega)
        have qx15_311745_311747 : x15_311745_311747.toInt = (a4_311725 + 1).toInt := by rw [ex15_311745_311747]
        exact hrec_311725 _ (x14_311745_311747, x15_311745_311747) (show (20 + 1 - x15_311745_311747.toInt).toNat < n_311725 by omega) ⟨rfl, (show 0 ≤ x15_311745_311747.toInt by omega), (show x15_311745_311747.toInt ≤ 20 by omega)⟩
set_option maxRecDepth 20000 in
set_option maxHeartbeats 2000000 in
theorem o_fX10_isLoop {σ : gS} (hIσ : IM σ) {p1 : Int32} {p2 : Int32} {p3 : Int32}  : Ok (fX10_isLoop σ p1 p2 p3) (fun out => 0 ≤ out.toInt ∧ out.toInt ≤ 1) := by
  unfold fX10_isLoop
  have hfσ : Fr fr_fX10_isLoop σ σ := Fr_r
  refine ok_bd.mpr ((o_fX10_areTwo hIσ ).mono (fun r2 ho_2 => ?_))
  obtain ⟨r0r2, r1r2⟩ := ho_2
  refine ok_ite.mpr ⟨fun h_3 => ?_, fun h_3 => ?_⟩
  · have l_0 : (0 : Int32).toInt = 0 := by decide
    have g4 : r2.toInt = (0 : Int32).toInt := by rw [h_3]
    refine ok_some.mpr ?_
    exact ⟨(show 0 ≤ (0 : Int32).toInt by omega), (show (0 : Int32).toInt ≤ 1 by omega)⟩
  · have l_0 : (0 : Int32).toInt = 0 := by decide
    have g5 : r2.toInt ≠ (0 : Int32).toInt := fun z => h_3 (Int32.toInt_inj.mp z)
    refine ok_bd.mpr ((o_fX10_areTwo hIσ ).mono (fun r5 ho_7 => ?_))
    obtain ⟨r0r5, r1r5⟩ := ho_7
    refine ok_ite.mpr ⟨fun h_8 => ?_, fun h_8 => ?_⟩
    · have g9 : r5.toInt = (0 : Int32).toInt := by rw [h_8]
      refine ok_some.mpr ?_
      exact ⟨(show 0 ≤ (0 : Int32).toInt by omega), (show (0 : Int32).toInt ≤ 1 by omega)⟩
    · have g10 : r5.toInt ≠ (0 : Int32).toInt := fun z => h_8 (Int32.toInt_inj.mp z)
      refine ok_bd.mpr ((o_fX10_areTwo hIσ ).mono (fun r8 ho_12 => ?_))
      obtain ⟨r0r8, r1r8⟩ := ho_12
      refine ok_ite.mpr ⟨fun h_13 => ?_, fun h_13 => ?_⟩
      · have g14 : r8.toInt = (0 : Int32).toInt := by rw [h_13]
        refine ok_some.mpr ?_
        exact ⟨(show 0 ≤ (0 : Int32).toInt by omega), (show (0 : Int32).toInt ≤ 1 by omega)⟩
      · have g15 : r8.toInt ≠ (0 : Int32).toInt := fun z => h_13 (Int32.toInt_inj.mp z)
        refine ok_bd.mpr ((o_fX10_tiePoints hIσ ).mono (fun r11 ho_17 => ?_))
        refine ok_ite.mpr ⟨fun h_18 => ?_, fun h_18 => ?_⟩
        · have g19 : r11.toInt ≤ (0 : Int32).toInt := Int32.le_iff_toInt_le.mp h_18
          refine ok_some.mpr ?_
          exact ⟨(show 0 ≤ (0 : Int32).toInt by omega), (show (0 : Int32).toInt ≤ 1 by omega)⟩
        · have g20 : ¬ r11.toInt ≤ (0 : Int32).toInt := fun z => h_18 (Int32.le_iff_toInt_le.mpr z)
          refine ok_bd.mpr ((o_fX10_tiePoints hIσ ).mono (fun r14 ho_22 => ?_))
          refine ok_ite.mpr ⟨fun h_23 => ?_, fun h_23 => ?_⟩
          · have g24 : r14.toInt ≤ (0 : Int32).toInt := Int32.le_iff_toInt_le.mp h_23
            refine ok_some.mpr ?_
            exact ⟨(show 0 ≤ (0 : Int32).toInt by omega), (show (0 : Int32).toInt ≤ 1 by omega)⟩
          · have g25 : ¬ r14.toInt ≤ (0 : Int32).toInt := fun z => h_23 (Int32.le_iff_toInt_le.mpr z)
            refine ok_bd.mpr ((o_fX10_tiePoints hIσ ).mono (fun r17 ho_27 => ?_))
            refine ok_ite.mpr ⟨fun h_28 => ?_, fun h_28 => ?_⟩
            · have g29 : r17.toInt ≤ (0 : Int32).toInt := Int32.le_iff_toInt_le.mp h_28
              refine ok_some.mpr ?_
              exact ⟨(show 0 ≤ (0 : Int32).toInt by omega), (show (0 : Int32).toInt ≤ 1 by omega)⟩
            · have g30 : ¬ r17.toInt ≤ (0 : Int32).toInt := fun z => h_28 (Int32.le_iff_toInt_le.mpr z)
              refine ok_some.mpr ?_
              have l_1 : (1 : Int32).toInt = 1 := by decide
              exact ⟨(show 0 ≤ (1 : Int32).toInt by omega), (show (1 : Int32).toInt ≤ 1 by omega)⟩
set_option maxRecDepth 20000 in
set_option maxHeartbeats 2000000 in
theorem o_fX10_canMeasure {σ : gS} (hIσ : IM σ) {p1 : Int32} {p2 : Int32} {p3 : Int32}  : Ok (fX10_canMeasure σ p1 p2 p3) (fun out => 0 ≤ out.toInt ∧ out.toInt ≤ 1) := by
  unfold fX10_canMeasure
  have hfσ : Fr fr_fX10_canMeasure σ σ := Fr_r
  refine ok_bd.mpr ?_
  try unfold fX10_isRow
  refine ok_bd.mpr ?_
  try unfold fX10_rows
  have l_9 : (9 : Int32).toInt = 9 := by decide
  refine ok_gd.mpr ⟨gb_of (by omega) (by omega), ?_⟩
  refine ok_nm2 (fun v1_312218 ev1_312218 => ?_)
  have f1 : 0 ≤ (σ.1 15 (9 : Int32).toNatClampNeg).toInt ∧ (σ.1 15 (9 : Int32).toNatClampNeg).toInt ≤ 60 := hIσ 15 _
  have qv1_312218 : v1_312218.toInt = (σ.1 15 (9 : Int32).toNatClampNeg).toInt := by rw [ev1_312218]
  refine ok_some.mpr ?_
  refine ok_bd.mpr ?_
  try unfold fX10_isIn
  refine ok_ite.mpr ⟨fun h_2 => ?_, fun h_2 => ?_⟩
  · have t3 : p1.toInt64.toInt = p1.toInt := Int32.toInt_toInt64 _
    have t4 : (0 : Int64).toInt = 0 := by decide
    have g5 : p1.toInt64.toInt < (0 : Int64).toInt := Int64.lt_iff_toInt_lt.mp h_2
    refine ok_some.mpr ?_
    refine ok_some.mpr ?_
    refine ok_ite.mpr ⟨fun h_6 => ?_, fun h_6 => ?_⟩
    · have f7 : (vp_nar .boolean 0).toInt = 0 := by decide
      have l_0 : (0 : Int32).toInt = 0 := by decide
      have g8 : (vp_nar .boolean 0).toInt = (0 : Int32).toInt := by rw [h_6]
      refine ok_some.mpr ?_
      exact ⟨(show 0 ≤ (0 : Int32).toInt by omega), (show (0 : Int32).toInt ≤ 1 by omega)⟩
    · have f9 : (vp_nar .boolean 0).toInt = 0 := by decide
      have l_0 : (0 : Int32).toInt = 0 := by decide
      have g10 : (vp_nar .boolean 0).toInt ≠ (0 : Int32).toInt := fun z => h_6 (Int32.toInt_inj.mp z)
      exfalso; omega
  · have t11 : p1.toInt64.toInt = p1.toInt := Int32.toInt_toInt64 _
    have t12 : (0 : Int64).toInt = 0 := by decide
    have g13 : ¬ p1.toInt64.toInt < (0 : Int64).toInt := fun z => h_2 (Int64.lt_iff_toInt_lt.mpr z)
    refine ok_ite.mpr ⟨fun h_14 => ?_, fun h_14 => ?_⟩
    · have l_1 : (1 : Int32).toInt = 1 := by decide
      have f15 : (v1_312218 - (1 : Int32)).toInt = v1_312218.toInt - (1 : Int32).toInt := isub_toInt (by omega) (by omega)
      have t16 : (v1_312218 - 1).toInt64.toInt = (v1_312218 - 1).toInt := Int32.toInt_toInt64 _
      have g17 : (v1_312218 - 1).toInt64.toInt < p1.toInt64.toInt := Int64.lt_iff_toInt_lt.mp h_14
      refine ok_some.mpr ?_
      refine ok_some.mpr ?_
      refine ok_ite.mpr ⟨fun h_18 => ?_, fun h_18 => ?_⟩
      · have f19 : (vp_nar .boolean 0).toInt = 0 := by decide
        have l_0 : (0 : Int32).toInt = 0 := by decide
        have g20 : (vp_nar .boolean 0).toInt = (0 : Int32).toInt := by rw [h_18]
        refine ok_some.mpr ?_
        exact ⟨(show 0 ≤ (0 : Int32).toInt by omega), (show (0 : Int32).toInt ≤ 1 by omega)⟩
      · have f21 : (vp_nar .boolean 0).toInt = 0 := by decide
        have l_0 : (0 : Int32).toInt = 0 := by decide
        have g22 : (vp_nar .boolean 0).toInt ≠ (0 : Int32).toInt := fun z => h_18 (Int32.toInt_inj.mp z)
        exfalso; omega
    · have l_1 : (1 : Int32).toInt = 1 := by decide
      have f23 : (v1_312218 - (1 : Int32)).toInt = v1_312218.toInt - (1 : Int32).toInt := isub_toInt (by omega) (by omega)
      have t24 : (v1_312218 - 1).toInt64.toInt = (v1_312218 - 1).toInt := Int32.toInt_toInt64 _
      have g25 : ¬ (v1_312218 - 1).toInt64.toInt < p1.toInt64.toInt := fun z => h_14 (Int64.lt_iff_toInt_lt.mpr z)
      refine ok_some.mpr ?_
      refine ok_some.mpr ?_
      refine ok_ite.mpr ⟨fun h_26 => ?_, fun h_26 => ?_⟩
      · have f27 : (vp_nar .boolean 1).toInt = 1 := by decide
        have l_0 : (0 : Int32).toInt = 0 := by decide
        have g28 : (vp_nar .boolean 1).toInt = (0 : Int32).toInt := by rw [h_26]
        exfalso; omega
      · have f29 : (vp_nar .boolean 1).toInt = 1 := by decide
        have l_0 : (0 : Int32).toInt = 0 := by decide
        have g30 : (vp_nar .boolean 1).toInt ≠ (0 : Int32).toInt := fun z => h_26 (Int32.toInt_inj.mp z)
        refine ok_bd.mpr ?_
        try unfold fX10_isIn
        refine ok_ite.mpr ⟨fun h_31 => ?_, fun h_31 => ?_⟩
        · have t32 : p2.toInt64.toInt = p2.toInt := Int32.toInt_toInt64 _
          have g33 : p2.toInt64.toInt < (0 : Int64).toInt := Int64.lt_iff_toInt_lt.mp h_31
          refine ok_some.mpr ?_
          refine ok_ite.mpr ⟨fun h_34 => ?_, fun h_34 => ?_⟩
          · have g35 : (0 : Int32).toInt = (0 : Int32).toInt := by rw [h_34]
            refine ok_some.mpr ?_
            exact ⟨(show 0 ≤ (0 : Int32).toInt by omega), (show (0 : Int32).toInt ≤ 1 by omega)⟩
          · have g36 : (0 : Int32).toInt ≠ (0 : Int32).toInt := fun z => h_34 (Int32.toInt_inj.mp z)
            exfalso; omega
        · have t37 : p2.toInt64.toInt = p2.toInt := Int32.toInt_toInt64 _
          have g38 : ¬ p2.toInt64.toInt < (0 : Int64).toInt := fun z => h_31 (Int64.lt_iff_toInt_lt.mpr z)
          refine ok_ite.mpr ⟨fun h_39 => ?_, fun h_39 => ?_⟩
          · have t40 : (9999 : Int64).toInt = 9999 := by decide
            have g41 : (9999 : Int64).toInt < p2.toInt64.toInt := Int64.lt_iff_toInt_lt.mp h_39
            refine ok_some.mpr ?_
            refine ok_ite.mpr ⟨fun h_42 => ?_, fun h_42 => ?_⟩
            · have g43 : (0 : Int32).toInt = (0 : Int32).toInt := by rw [h_42]
              refine ok_some.mpr ?_
              exact ⟨(show 0 ≤ (0 : Int32).toInt by omega), (show (0 : Int32).toInt ≤ 1 by omega)⟩
            · have g44 : (0 : Int32).toInt ≠ (0 : Int32).toInt := fun z => h_42 (Int32.toInt_inj.mp z)
              exfalso; omega
          · have t45 : (9999 : Int64).toInt = 9999 := by decide
            have g46 : ¬ (9999 : Int64).toInt < p2.toInt64.toInt := fun z => h_39 (Int64.lt_iff_toInt_lt.mpr z)
            refine ok_some.mpr ?_
            refine ok_ite.mpr ⟨fun h_47 => ?_, fun h_47 => ?_⟩
            · have g48 : (1 : Int32).toInt = (0 : Int32).toInt := by rw [h_47]
              exfalso; omega
            · have g49 : (1 : Int32).toInt ≠ (0 : Int32).toInt := fun z => h_47 (Int32.toInt_inj.mp z)
              refine ok_bd.mpr ?_
              try unfold fX10_isIn
              refine ok_ite.mpr ⟨fun h_50 => ?_, fun h_50 => ?_⟩
              · have t51 : p3.toInt64.toInt = p3.toInt := Int32.toInt_toInt64 _
                have g52 : p3.toInt64.toInt < (0 : Int64).toInt := Int64.lt_iff_toInt_lt.mp h_50
                refine ok_some.mpr ?_
                refine ok_ite.mpr ⟨fun h_53 => ?_, fun h_53 => ?_⟩
                · have g54 : (0 : Int32).toInt = (0 : Int32).toInt := by rw [h_53]
                  refine ok_some.mpr ?_
                  exact ⟨(show 0 ≤ (0 : Int32).toInt by omega), (show (0 : Int32).toInt ≤ 1 by omega)⟩
                · have g55 : (0 : Int32).toInt ≠ (0 : Int32).toInt := fun z => h_53 (Int32.toInt_inj.mp z)
                  exfalso; omega
              · have t56 : p3.toInt64.toInt = p3.toInt := Int32.toInt_toInt64 _
                have g57 : ¬ p3.toInt64.toInt < (0 : Int64).toInt := fun z => h_50 (Int64.lt_iff_toInt_lt.mpr z)
                refine ok_ite.mpr ⟨fun h_58 => ?_, fun h_58 => ?_⟩
                · have g59 : (9999 : Int64).toInt < p3.toInt64.toInt := Int64.lt_iff_toInt_lt.mp h_58
                  refine ok_some.mpr ?_
                  refine ok_ite.mpr ⟨fun h_60 => ?_, fun h_60 => ?_⟩
                  · have g61 : (0 : Int32).toInt = (0 : Int32).toInt := by rw [h_60]
                    refine ok_some.mpr ?_
                    exact ⟨(show 0 ≤ (0 : Int32).toInt by omega), (show (0 : Int32).toInt ≤ 1 by omega)⟩
                  · have g62 : (0 : Int32).toInt ≠ (0 : Int32).toInt := fun z => h_60 (Int32.toInt_inj.mp z)
                    exfalso; omega
                · have g63 : ¬ (9999 : Int64).toInt < p3.toInt64.toInt := fun z => h_58 (Int64.lt_iff_toInt_lt.mpr z)
                  refine ok_some.mpr ?_
                  refine ok_ite.mpr ⟨fun h_64 => ?_, fun h_64 => ?_⟩
                  · have g65 : (1 : Int32).toInt = (0 : Int32).toInt := by rw [h_64]
                    exfalso; omega
                  · have g66 : (1 : Int32).toInt ≠ (0 : Int32).toInt := fun z => h_64 (Int32.toInt_inj.mp z)
                    refine ok_some.mpr ?_
                    exact ⟨(show 0 ≤ (1 : Int32).toInt by omega), (show (1 : Int32).toInt ≤ 1 by omega)⟩
set_option maxRecDepth 20000 in
set_option maxHeartbeats 2000000 in
theorem o_fX10_within {σ : gS} (hIσ : IM σ) {p0 : Int32} (h0p0 : -999 ≤ p0.toInt) (h1p0 : p0.toInt ≤ 11997) : Ok (fX10_within σ p0) (fun out => 0 ≤ out.toInt ∧ out.toInt ≤ 9999) := by
  unfold fX10_within
  have hfσ : Fr fr_fX10_within σ σ := Fr_r
  refine ok_ite.mpr ⟨fun h_1 => ?_, fun h_1 => ?_⟩
  · have l_0 : (0 : Int32).toInt = 0 := by decide
    have g2 : (0 : Int32).toInt ≤ p0.toInt := Int32.le_iff_toInt_le.mp h_1
    refine ok_ite.mpr ⟨fun h_3 => ?_, fun h_3 => ?_⟩
    · have l_9999 : (9999 : Int32).toInt = 9999 := by decide
      have g4 : p0.toInt ≤ (9999 : Int32).toInt := Int32.le_iff_toInt_le.mp h_3
      refine ok_some.mpr ?_
      exact ⟨(show 0 ≤ p0.toInt by omega), (show p0.toInt ≤ 9999 by omega)⟩
    · have l_9999 : (9999 : Int32).toInt = 9999 := by decide
      have g5 : ¬ p0.toInt ≤ (9999 : Int32).toInt := fun z => h_3 (Int32.le_iff_toInt_le.mpr z)
      refine ok_some.mpr ?_
      exact ⟨(show 0 ≤ (9999 : Int32).toInt by omega), (show (9999 : Int32).toInt ≤ 9999 by omega)⟩
  · have l_0 : (0 : Int32).toInt = 0 := by decide
    have g6 : ¬ (0 : Int32).toInt ≤ p0.toInt := fun z => h_1 (Int32.le_iff_toInt_le.mpr z)
    refine ok_some.mpr ?_
    exact ⟨(show 0 ≤ (0 : Int32).toInt by omega), (show (0 : Int32).toInt ≤ 9999 by omega)⟩
set_option maxRecDepth 20000 in
set_option maxHeartbeats 2000000 in
theorem o_fX10_octet {σ : gS} (hIσ : IM σ) {p1 : Int32}  : Ok (fX10_octet σ p1) (fun out => -1 ≤ out.toInt ∧ out.toInt ≤ 255) := by
  unfold fX10_octet
  have hfσ : Fr fr_fX10_octet σ σ := Fr_r
  refine ok_ite.mpr ⟨fun h_1 => ?_, fun h_1 => ?_⟩
  · have l_0 : (0 : Int32).toInt = 0 := by decide
    have g2 : p1.toInt < (0 : Int32).toInt := Int32.lt_iff_toInt_lt.mp h_1
    refine ok_some.mpr ?_
    have l_m1 : (-1 : Int32).toInt = -1 := by decide
    exact ⟨(show -1 ≤ (-1 : Int32).toInt by omega), (show (-1 : Int32).toInt ≤ 255 by omega)⟩
  · have l_0 : (0 : Int32).toInt = 0 := by decide
    have g3 : ¬ p1.toInt < (0 : Int32).toInt := fun z => h_1 (Int32.lt_iff_toInt_lt.mpr z)
    refine ok_ite.mpr ⟨fun h_4 => ?_, fun h_4 => ?_⟩
    · have f5 : 0 ≤ (σ.1 0 56).toInt ∧ (σ.1 0 56).toInt ≤ 378 := hIσ 0 _
      have g6 : (σ.1 0 56).toInt ≤ p1.toInt := Int32.le_iff_toInt_le.mp h_4
      refine ok_some.mpr ?_
      have l_m1 : (-1 : Int32).toInt = -1 := by decide
      exact ⟨(show -1 ≤ (-1 : Int32).toInt by omega), (show (-1 : Int32).toInt ≤ 255 by omega)⟩
    · have f7 : 0 ≤ (σ.1 0 56).toInt ∧ (σ.1 0 56).toInt ≤ 378 := hIσ 0 _
      have g8 : ¬ (σ.1 0 56).toInt ≤ p1.toInt := fun z => h_4 (Int32.le_iff_toInt_le.mpr z)
      refine ok_gd.mpr ⟨gb_of (by omega) (by omega), ?_⟩
      refine ok_nm2 (fun v3 ev3 => ?_)
      have f9 : 0 ≤ (σ.1 40 p1.toNatClampNeg).toInt ∧ (σ.1 40 p1.toNatClampNeg).toInt ≤ 255 := hIσ 40 _
      have qv3 : v3.toInt = (σ.1 40 p1.toNatClampNeg).toInt := by rw [ev3]
      refine ok_some.mpr ?_
      exact ⟨(show -1 ≤ v3.toInt by omega), (show v3.toInt ≤ 255 by omega)⟩
