/-! INTERVALS: what each cell's numbers lie between, kept by every method; which cells a method writes; that each method comes through -/
section IV
theorem i32_lo (x : Int32) : -2147483648 ≤ x.toInt := by have := Int32.le_toInt x; simpa using this
theorem i32_hi (x : Int32) : x.toInt ≤ 2147483647 := by have := Int32.toInt_lt x; omega
theorem ok_nm2 {β γ : Type} {v : γ} {E : γ → Option β} {P : β → Prop} (k : ∀ y, y = v → Ok (E y) P) : Ok (nm v E) P := k v rfl
theorem nar_bool (x : Int32) : 0 ≤ (vp_nar .boolean x).toInt ∧ (vp_nar .boolean x).toInt ≤ 1 := by
  show 0 ≤ (x &&& 1).toInt ∧ (x &&& 1).toInt ≤ 1
  have h : x &&& 1 = 0 ∨ x &&& 1 = 1 := by
    have e : (x &&& 1).toBitVec = x.toBitVec &&& 1#32 := rfl
    rw [← Int32.toBitVec_inj, ← Int32.toBitVec_inj, e, BitVec.and_one_eq_setWidth_ofBool_getLsbD]
    cases x.toBitVec.getLsbD 0
    · exact Or.inl rfl
    · exact Or.inr rfl
  rcases h with h | h <;> rw [h] <;> decide
theorem ineg_toInt {x : Int32} (h : -2147483648 < x.toInt) : (-x).toInt = -x.toInt := by
  have := i32_hi x
  rw [Int32.toInt_neg, Int.bmod_eq_of_le] <;> simp <;> omega
theorem imulc {x y : Int32} {c : Int} (hc : x.toInt = c) (h0 : -2147483648 ≤ c * y.toInt) (h1 : c * y.toInt < 2147483648) : (x * y).toInt = c * y.toInt := by
  rw [← hc] at h0 h1 ⊢
  exact imul_toInt h0 h1
def Fr (L : List (Nat × Nat)) (σ σ' : gS) : Prop := ∀ k i, (k, 0) ∉ L → (k, i + 1) ∉ L → σ'.1 k i = σ.1 k i ∧ σ'.2 k i = σ.2 k i
theorem Fr_r {L : List (Nat × Nat)} {σ : gS} : Fr L σ σ := fun _ _ _ _ => ⟨rfl, rfl⟩
theorem Fr_w {L : List (Nat × Nat)} {σ σ1 : gS} {k i : Nat} {x : Int32} (h : Fr L σ σ1) (hm : (k, i + 1) ∈ L) : Fr L σ (gsI σ1 k i x) := fun a j h1 h2 => by
  refine ⟨?_, (h a j h1 h2).2⟩
  rw [gsI_1, if_neg (by rintro ⟨rfl, rfl⟩; exact h2 hm)]
  exact (h a j h1 h2).1
theorem Fr_w0 {L : List (Nat × Nat)} {σ σ1 : gS} {k i : Nat} {x : Int32} (h : Fr L σ σ1) (hm : (k, 0) ∈ L) : Fr L σ (gsI σ1 k i x) := fun a j h1 h2 => by
  refine ⟨?_, (h a j h1 h2).2⟩
  rw [gsI_1, if_neg (by rintro ⟨rfl, rfl⟩; exact h1 hm)]
  exact (h a j h1 h2).1
theorem Fr_l {L : List (Nat × Nat)} {σ σ1 : gS} {k i : Nat} {x : Int64} (h : Fr L σ σ1) (hm : (k, i + 1) ∈ L) : Fr L σ (gsL σ1 k i x) := fun a j h1 h2 => by
  refine ⟨(h a j h1 h2).1, ?_⟩
  rw [gsL_2, if_neg (by rintro ⟨rfl, rfl⟩; exact h2 hm)]
  exact (h a j h1 h2).2
theorem Fr_l0 {L : List (Nat × Nat)} {σ σ1 : gS} {k i : Nat} {x : Int64} (h : Fr L σ σ1) (hm : (k, 0) ∈ L) : Fr L σ (gsL σ1 k i x) := fun a j h1 h2 => by
  refine ⟨(h a j h1 h2).1, ?_⟩
  rw [gsL_2, if_neg (by rintro ⟨rfl, rfl⟩; exact h1 hm)]
  exact (h a j h1 h2).2
theorem Fr_c {L Lc : List (Nat × Nat)} {σ σ1 σ2 : gS} (h : Fr L σ σ1) (hc : Fr Lc σ1 σ2) (hs : ∀ q ∈ Lc, q ∈ L ∨ (q.1, 0) ∈ L) : Fr L σ σ2 := fun a j h1 h2 => by
  have h3 : (a, 0) ∉ Lc := fun z => (hs _ z).elim h1 h1
  have h4 : (a, j + 1) ∉ Lc := fun z => (hs _ z).elim h2 h1
  exact ⟨(hc a j h3 h4).1.trans (h a j h1 h2).1, (hc a j h3 h4).2.trans (h a j h1 h2).2⟩
end IV
def bM : Nat → Nat → Int × Int
  | 0, i => ([(-2147483648, 2147483647), (0, 1600), (0, 1600), (0, 1600), (-1, 1600), (0, 4), (-1, 1600), (0, 4), (-1, 1600), (-2147483648, 2147483647), (-2147483648, 2147483647), (-2147483648, 2147483647), (-2147483648, 2147483647), (-2147483648, 2147483647), (-2147483648, 2147483647), (-2147483648, 2147483647), (-2147483648, 2147483647), (-2147483648, 2147483647), (-2147483648, 2147483647), (-2147483648, 2147483647), (-2147483648, 2147483647), (0, 1600), (-2147483648, 2147483647), (-2147483648, 2147483647), (-2147483648, 2147483647), (-2147483648, 2147483647), (-2147483648, 2147483647), (-2147483648, 2147483647), (-2147483648, 2147483647), (-2147483648, 2147483647), (-2147483648, 2147483647), (-2147483648, 2147483647), (-2147483648, 2147483647), (-2147483648, 2147483647), (0, 120), (-2147483648, 2147483647), (0, 3), (-2147483648, 2147483647), (-2147483648, 2147483647), (-2147483648, 2147483647), (-2147483648, 2147483647), (0, 100000), (-2147483648, 2147483647), (0, 38), (-2147483648, 2147483647), (-2147483648, 2147483647), (-2147483648, 2147483647), (-2147483648, 2147483647), (-2147483648, 2147483647), (-2147483648, 2147483647), (-2147483648, 2147483647), (-2147483648, 2147483647), (0, 3), (-2147483648, 2147483647), (-2147483648, 2147483647), (-2147483648, 2147483647), (0, 378)] : List (Int × Int)).getD i (-2147483648, 2147483647)
  | 1, _ => (0, 255)
  | 2, _ => (105, 116)
  | 3, _ => (99, 117)
  | 4, _ => (105, 110)
  | 5, _ => (110, 117)
  | 6, _ => (97, 121)
  | 7, _ => (105, 116)
  | 8, _ => (111, 119)
  | 9, _ => (97, 116)
  | 10, _ => (101, 119)
  | 11, _ => (99, 116)
  | 12, _ => (101, 116)
  | 13, _ => (99, 116)
  | 15, i => ([(0, 6), (0, 12), (0, 20), (0, 60), (-2147483648, 2147483647), (-2147483648, 2147483647), (0, 6), (0, 12), (0, 20), (0, 60), (-2147483648, 2147483647), (-2147483648, 2147483647)] : List (Int × Int)).getD i (-2147483648, 2147483647)
  | 16, _ => (0, 5)
  | 17, _ => (0, 4)
  | 18, _ => (0, 9)
  | 19, _ => (0, 9999)
  | 20, _ => (0, 2)
  | 21, _ => (0, 9999)
  | 22, _ => (0, 11)
  | 23, _ => (0, 19)
  | 24, _ => (0, 9999)
  | 25, _ => (0, 9)
  | 26, _ => (0, 1)
  | 27, i => ([(0, 3), (0, 3), (0, 3), (0, 3), (0, 3), (0, 3), (0, 3), (0, 3), (0, 3), (0, 3), (0, 3), (0, 3)] : List (Int × Int)).getD i (-2147483648, 2147483647)
  | 29, _ => (0, 1)
  | 30, _ => (0, 37)
  | 32, _ => (0, 31)
  | 33, _ => (0, 1)
  | 34, i => ([(0, 1111), (0, 1111), (0, 1111), (0, 1111), (0, 1111), (0, 1111), (0, 1111), (0, 1111), (0, 1111), (0, 1111), (0, 1111), (0, 1111)] : List (Int × Int)).getD i (-2147483648, 2147483647)
  | 35, i => ([(0, 11), (0, 11), (0, 11), (0, 11), (0, 11), (0, 11), (0, 11), (0, 11), (0, 11), (0, 11), (0, 11), (0, 11)] : List (Int × Int)).getD i (-2147483648, 2147483647)
  | 36, _ => (0, 1)
  | 38, i => ([(0, 3), (0, 3), (0, 3), (0, 3), (0, 3), (0, 3), (0, 3), (0, 3), (0, 3), (0, 3), (0, 3), (0, 3)] : List (Int × Int)).getD i (-2147483648, 2147483647)
  | 40, _ => (0, 255)
  | _, _ => (-2147483648, 2147483647)
def IM (σ : gS) : Prop := ∀ k i, (bM k i).1 ≤ (σ.1 k i).toInt ∧ (σ.1 k i).toInt ≤ (bM k i).2
theorem IM_w {σ : gS} {k i : Nat} {x : Int32} (h : IM σ) (h0 : (bM k i).1 ≤ x.toInt) (h1 : x.toInt ≤ (bM k i).2) : IM (gsI σ k i x) := fun a j => by
  rw [gsI_1]
  by_cases e : a = k ∧ j = i
  · rw [if_pos e, e.1, e.2]; exact ⟨h0, h1⟩
  · rw [if_neg e]; exact h a j
theorem IM_l {σ : gS} {k i : Nat} {x : Int64} (h : IM σ) : IM (gsL σ k i x) := h
def fr_fX10_feed : List (Nat × Nat) := [(0, 2), (1, 0)]
def fr_fX10_end : List (Nat × Nat) := [(0, 2)]
def fr_fX10_pictures : List (Nat × Nat) := []
def fr_fX10_firstNotStarted : List (Nat × Nat) := []
def fr_fX10_points : List (Nat × Nat) := []
def fr_fX10_isControl : List (Nat × Nat) := []
def fr_fX10_standControls : List (Nat × Nat) := [(28, 0)]
def fr_fX10_rows : List (Nat × Nat) := []
def fr_fX10_pointOf : List (Nat × Nat) := []
def fr_fX10_pictureOf : List (Nat × Nat) := []
def fr_fX10_startedRow : List (Nat × Nat) := []
def fr_fX10_turnedBy : List (Nat × Nat) := []
def fr_fX10_turned : List (Nat × Nat) := []
def fr_fX10_put : List (Nat × Nat) := []
def fr_fX10_rowOf : List (Nat × Nat) := []
def fr_fX10_sharedMany : List (Nat × Nat) := []
def fr_fX10_nextStarted : List (Nat × Nat) := []
def fr_fX10_apart : List (Nat × Nat) := []
def fr_fX10_unlike : List (Nat × Nat) := []
def fr_fX10_startsBy : List (Nat × Nat) := [(27, 0), (28, 0), (29, 0)]
def fr_fX10_starts : List (Nat × Nat) := [(27, 0), (28, 0), (29, 0)]
def fr_fX10_stands : List (Nat × Nat) := [(0, 37), (14, 0), (15, 0), (16, 0), (17, 0), (18, 0), (19, 0), (20, 0), (21, 0), (22, 0), (23, 0), (24, 0), (25, 0), (26, 0), (27, 0), (28, 0), (29, 0)]
def fr_fX10_look : List (Nat × Nat) := [(0, 3)]
def fr_fX10_isLetter : List (Nat × Nat) := []
def fr_fX10_isHere : List (Nat × Nat) := [(0, 3)]
def fr_fX10_takes : List (Nat × Nat) := [(0, 3), (0, 5)]
def fr_fX10_fail : List (Nat × Nat) := [(0, 6), (0, 7)]
def fr_fX10_asks : List (Nat × Nat) := [(0, 3), (0, 5), (0, 6), (0, 7)]
def fr_fX10_takesSign : List (Nat × Nat) := [(0, 3)]
def fr_fX10_asksSign : List (Nat × Nat) := [(0, 3), (0, 6), (0, 7)]
def fr_fX10_isOwnHere : List (Nat × Nat) := [(0, 3)]
def fr_fX10_name : List (Nat × Nat) := [(0, 3), (0, 5), (0, 6), (0, 7), (0, 22)]
def fr_fX10_nameOf : List (Nat × Nat) := []
def fr_fX10_oneOf : List (Nat × Nat) := [(0, 3), (0, 5), (0, 6), (0, 7), (0, 22)]
def fr_fX10_isDigit : List (Nat × Nat) := []
def fr_fX10_isIn : List (Nat × Nat) := []
def fr_fX10_number : List (Nat × Nat) := [(0, 3), (0, 5), (0, 6), (0, 7)]
def fr_fX10_centreTold : List (Nat × Nat) := [(0, 3), (0, 5), (0, 6), (0, 7), (0, 22), (15, 0), (18, 0), (19, 0)]
def fr_fX10_isFull : List (Nat × Nat) := [(0, 6), (0, 7)]
def fr_fX10_controlTold : List (Nat × Nat) := [(0, 3), (0, 5), (0, 6), (0, 7), (0, 22), (15, 0), (20, 0), (21, 0)]
def fr_fX10_rowTold : List (Nat × Nat) := [(0, 3), (0, 5), (0, 6), (0, 7), (0, 22), (15, 0), (22, 0), (23, 0), (24, 0), (25, 0)]
def fr_fX10_newName : List (Nat × Nat) := [(0, 3), (0, 5), (0, 6), (0, 7), (0, 22), (14, 0), (15, 0)]
def fr_fX10_pointTold : List (Nat × Nat) := [(0, 3), (0, 5), (0, 6), (0, 7), (0, 22), (14, 0), (15, 0), (20, 0)]
def fr_fX10_pictureTold : List (Nat × Nat) := [(0, 3), (0, 5), (0, 6), (0, 7), (0, 22), (14, 0), (15, 0), (16, 0), (17, 0), (18, 0)]
def fr_fX10_blockTold : List (Nat × Nat) := [(0, 3), (0, 5), (0, 6), (0, 7), (0, 22), (0, 35), (14, 0), (15, 0), (16, 0), (17, 0), (18, 0), (19, 0), (20, 0), (21, 0), (22, 0), (23, 0), (24, 0), (25, 0)]
def fr_fX10_block : List (Nat × Nat) := [(0, 2), (0, 3), (0, 4), (0, 5), (0, 6), (0, 7), (0, 8), (0, 9), (0, 22), (0, 35), (0, 37), (14, 0), (15, 0), (16, 0), (17, 0), (18, 0), (19, 0), (20, 0), (21, 0), (22, 0), (23, 0), (24, 0), (25, 0), (26, 0), (27, 0), (28, 0), (29, 0)]
def fr_fX10_fault : List (Nat × Nat) := []
def fr_fX10_dropped : List (Nat × Nat) := []
def fr_fX10_controls : List (Nat × Nat) := []
def fr_fX10_has : List (Nat × Nat) := []
def fr_fX10_letter : List (Nat × Nat) := []
def fr_fX10_isPicture : List (Nat × Nat) := []
def fr_fX10_strip : List (Nat × Nat) := []
def fr_fX10_rowsOf : List (Nat × Nat) := []
def fr_fX10_centreOf : List (Nat × Nat) := []
def fr_fX10_joins : List (Nat × Nat) := [(32, 0)]
def fr_fX10_hangs : List (Nat × Nat) := [(32, 0)]
def fr_fX10_isLoose : List (Nat × Nat) := []
def fr_fX10_picture : List (Nat × Nat) := [(32, 0)]
def fr_fX10_isPoint : List (Nat × Nat) := []
def fr_fX10_point : List (Nat × Nat) := [(32, 0)]
def fr_fX10_isRow : List (Nat × Nat) := []
def fr_fX10_weightOf : List (Nat × Nat) := []
def fr_fX10_miss : List (Nat × Nat) := []
def fr_fX10_canShow : List (Nat × Nat) := [(26, 0), (32, 0)]
def fr_fX10_row : List (Nat × Nat) := [(26, 0), (32, 0)]
def fr_fX10_hasDrift : List (Nat × Nat) := []
def fr_fX10_drift : List (Nat × Nat) := []
def fr_fX10_start : List (Nat × Nat) := [(27, 0), (28, 0), (29, 0)]
def fr_fX10_noMean : List (Nat × Nat) := [(0, 41), (0, 42)]
def fr_fX10_becomes : List (Nat × Nat) := [(28, 0)]
def fr_fX10_mean : List (Nat × Nat) := [(0, 41), (0, 42)]
def fr_fX10_isDriftAltered : List (Nat × Nat) := [(0, 41), (0, 42), (28, 0)]
def fr_fX10_isPictureAltered : List (Nat × Nat) := [(0, 41), (0, 42), (28, 0)]
def fr_fX10_isPointAltered : List (Nat × Nat) := [(0, 41), (0, 42), (28, 0)]
def fr_fX10_isRound : List (Nat × Nat) := [(0, 41), (0, 42), (28, 0)]
def fr_fX10_rests : List (Nat × Nat) := [(0, 41), (0, 42), (28, 0)]
def fr_fX10_rounds : List (Nat × Nat) := [(0, 41), (0, 42), (28, 0)]
def fr_fX10_doubtOf : List (Nat × Nat) := []
def fr_fX10_sum : List (Nat × Nat) := []
def fr_fX10_isUsed : List (Nat × Nat) := []
def fr_fX10_numberOf : List (Nat × Nat) := []
def fr_fX10_modulo : List (Nat × Nat) := []
def fr_fX10_adds : List (Nat × Nat) := [(31, 0)]
def fr_fX10_addsTie : List (Nat × Nat) := [(31, 0)]
def fr_fX10_equations : List (Nat × Nat) := [(0, 44), (30, 0), (31, 0)]
def fr_fX10_swaps : List (Nat × Nat) := [(31, 0)]
def fr_fX10_inverse : List (Nat × Nat) := []
def fr_fX10_isSolved : List (Nat × Nat) := [(0, 44), (30, 0), (31, 0)]
def fr_fX10_whole : List (Nat × Nat) := [(0, 44), (30, 0), (31, 0)]
def fr_fX10_sets : List (Nat × Nat) := [(0, 37), (28, 0)]
def fr_fX10_parts : List (Nat × Nat) := [(32, 0)]
def fr_fX10_hang : List (Nat × Nat) := [(32, 0)]
def fr_fX10_blind : List (Nat × Nat) := [(26, 0), (32, 0)]
def fr_fX10_looseMany : List (Nat × Nat) := [(32, 0)]
def fr_fX10_needs : List (Nat × Nat) := [(26, 0), (32, 0)]
def fr_fX10_doubt : List (Nat × Nat) := []
def fr_fX10_worstNow : List (Nat × Nat) := [(26, 0), (32, 0)]
def fr_fX10_worst : List (Nat × Nat) := [(26, 0), (32, 0)]
def fr_fX10_drop : List (Nat × Nat) := [(26, 0)]
def fr_fX10_clean : List (Nat × Nat) := [(0, 41), (0, 42), (26, 0), (28, 0), (32, 0), (33, 0)]
def fr_fX10_areTwo : List (Nat × Nat) := []
def fr_fX10_tiePoints : List (Nat × Nat) := []
def fr_fX10_step : List (Nat × Nat) := []
def fr_fX10_tie : List (Nat × Nat) := []
def fr_fX10_isLoop : List (Nat × Nat) := []
def fr_fX10_loopOf : List (Nat × Nat) := []
def fr_fX10_loop : List (Nat × Nat) := []
def fr_fX10_gap : List (Nat × Nat) := []
def fr_fX10_treeOf : List (Nat × Nat) := [(34, 0), (35, 0)]
def fr_fX10_tree : List (Nat × Nat) := [(34, 0), (35, 0)]
def fr_fX10_plan : List (Nat × Nat) := [(34, 0), (35, 0), (36, 0)]
def fr_fX10_putsAside : List (Nat × Nat) := [(0, 53), (37, 0), (38, 0)]
def fr_fX10_takesBack : List (Nat × Nat) := [(0, 37), (27, 0), (28, 0)]
def fr_fX10_placeBy : List (Nat × Nat) := [(0, 37), (0, 41), (0, 42), (0, 53), (27, 0), (28, 0), (29, 0), (37, 0), (38, 0)]
def fr_fX10_differ : List (Nat × Nat) := [(0, 37), (0, 41), (0, 42), (0, 53), (27, 0), (28, 0), (29, 0), (37, 0), (38, 0)]
def fr_fX10_canMeasure : List (Nat × Nat) := []
def fr_fX10_measures : List (Nat × Nat) := [(24, 0)]
def fr_fX10_alters : List (Nat × Nat) := [(0, 37), (0, 41), (0, 42), (0, 53), (24, 0), (27, 0), (28, 0), (37, 0), (38, 0), (39, 0)]
def fr_fX10_measure : List (Nat × Nat) := [(24, 0)]
def fr_fX10_drawOf : List (Nat × Nat) := [(0, 55)]
def fr_fX10_within : List (Nat × Nat) := []
def fr_fX10_slips : List (Nat × Nat) := [(0, 55), (24, 0)]
def fr_fX10_writes : List (Nat × Nat) := [(0, 57), (40, 0)]
def fr_fX10_checked : List (Nat × Nat) := []
def fr_fX10_writesFour : List (Nat × Nat) := [(0, 57), (40, 0)]
def fr_fX10_writesPlace : List (Nat × Nat) := [(0, 57), (40, 0)]
def fr_fX10_image : List (Nat × Nat) := [(0, 57), (40, 0)]
def fr_fX10_octet : List (Nat × Nat) := []
def fr_fX10_fourAt : List (Nat × Nat) := []
def fr_fX10_canBe : List (Nat × Nat) := []
def fr_fX10_isTold : List (Nat × Nat) := []
def fr_fX10_tells : List (Nat × Nat) := [(28, 0)]
def fr_fX10_on : List (Nat × Nat) := [(0, 2), (0, 37), (26, 0), (27, 0), (28, 0)]
set_option maxRecDepth 20000 in
set_option maxHeartbeats 2000000 in
theorem o_fX10_end {σ : gS} (hIσ : IM σ) {p1 : Int32}  : Ok (fX10_end σ p1) (fun out => IM out.2 ∧ Fr fr_fX10_end σ out.2 ∧ 0 ≤ out.1.toInt ∧ out.1.toInt ≤ 1) := by
  unfold fX10_end
  have hfσ : Fr fr_fX10_end σ σ := Fr_r
  refine ok_ite.mpr ⟨fun h_1 => ?_, fun h_1 => ?_⟩
  · have l_0 : (0 : Int32).toInt = 0 := by decide
    have g2 : p1.toInt < (0 : Int32).toInt := Int32.lt_iff_toInt_lt.mp h_1
    refine ok_some.mpr ?_
    exact ⟨hIσ, hfσ, (show 0 ≤ (0 : Int32).toInt by omega), (show (0 : Int32).toInt ≤ 1 by omega)⟩
  · have l_0 : (0 : Int32).toInt = 0 := by decide
    have g3 : ¬ p1.toInt < (0 : Int32).toInt := fun z => h_1 (Int32.lt_iff_toInt_lt.mpr z)
    refine ok_ite.mpr ⟨fun h_4 => ?_, fun h_4 => ?_⟩
    · have f5 : 0 ≤ (σ.1 0 1).toInt ∧ (σ.1 0 1).toInt ≤ 1600 := hIσ 0 _
      have g6 : p1.toInt ≤ (σ.1 0 1).toInt := Int32.le_iff_toInt_le.mp h_4
      refine ok_nm2 (fun σ3 eσ3 => ?_)
      have hIσ3 : IM σ3 := by rw [eσ3]; exact IM_w hIσ (show 0 ≤ _ by omega) (show _ ≤ 1600 by omega)
      have hfσ3 : Fr fr_fX10_end σ σ3 := by rw [eσ3]; exact Fr_w hfσ (by decide)
      have sσ3_0_1 : (σ3.1 0 1).toInt = p1.toInt := by rw [eσ3]; rfl
      refine ok_some.mpr ?_
      have l_1 : (1 : Int32).toInt = 1 := by decide
      exact ⟨hIσ3, hfσ3, (show 0 ≤ (1 : Int32).toInt by omega), (show (1 : Int32).toInt ≤ 1 by omega)⟩
    · have f7 : 0 ≤ (σ.1 0 1).toInt ∧ (σ.1 0 1).toInt ≤ 1600 := hIσ 0 _
      have g8 : ¬ p1.toInt ≤ (σ.1 0 1).toInt := fun z => h_4 (Int32.le_iff_toInt_le.mpr z)
      refine ok_some.mpr ?_
      exact ⟨hIσ, hfσ, (show 0 ≤ (0 : Int32).toInt by omega), (show (0 : Int32).toInt ≤ 1 by omega)⟩
set_option maxRecDepth 20000 in
set_option maxHeartbeats 2000000 in
theorem o_fX10_pictures {σ : gS} (hIσ : IM σ)   : Ok (fX10_pictures σ ) (fun out => 0 ≤ out.toInt ∧ out.toInt ≤ 12) := by
  unfold fX10_pictures
  have hfσ : Fr fr_fX10_pictures σ σ := Fr_r
  have l_7 : (7 : Int32).toInt = 7 := by decide
  refine ok_gd.mpr ⟨gb_of (by omega) (by omega), ?_⟩
  refine ok_nm2 (fun v1 ev1 => ?_)
  have f1 : 0 ≤ (σ.1 15 (7 : Int32).toNatClampNeg).toInt ∧ (σ.1 15 (7 : Int32).toNatClampNeg).toInt ≤ 12 := hIσ 15 _
  have qv1 : v1.toInt = (σ.1 15 (7 : Int32).toNatClampNeg).toInt := by rw [ev1]
  refine ok_some.mpr ?_
  exact ⟨(show 0 ≤ v1.toInt by omega), (show v1.toInt ≤ 12 by omega)⟩
set_option maxRecDepth 20000 in
set_option maxHeartbeats 2000000 in
theorem o_fX10_firstNotStarted {σ : gS} (hIσ : IM σ)   : Ok (fX10_firstNotStarted σ ) (fun out => -1 ≤ out.toInt ∧ out.toInt ≤ 11) := by
  unfold fX10_firstNotStarted
  have hfσ : Fr fr_fX10_firstNotStarted σ σ := Fr_r
  refine ok_nm2 (fun x1 ex1 => ?_)
  have l_0 : (0 : Int32).toInt = 0 := by decide
  have qx1 : x1.toInt = 0 := by rw [ex1]; decide
  refine ok_lpc (I := fun n s => n = (12 + 1 - s.toInt).toNat ∧ 0 ≤ s.toInt ∧ s.toInt ≤ 12) (fun rec2_170035r n_170035 s_170035 hs_170035 hrec_170035 => ?_) K9 _ _ ⟨rfl, (by (try dsimp only); omega), (by (try dsimp only); omega)⟩ (by unfold K9; (try dsimp only); omega)
  obtain ⟨a1_170035, hq_170035⟩ : ∃ y, y = s_170035 := ⟨_, rfl⟩
  subst hq_170035
  obtain ⟨hn_170035, b0a1_170035, b1a1_170035⟩ := hs_170035
  skip
  unfold bX10_firstNotStarted_2
  try dsimp only
  refine ok_bd.mpr ?_
  try unfold fX10_pictures
  have l_7 : (7 : Int32).toInt = 7 := by decide
  refine ok_gd.mpr ⟨gb_of (by omega) (by omega), ?_⟩
  refine ok_nm2 (fun v1_170042 ev1_170042 => ?_)
  have f1 : 0 ≤ (σ.1 15 (7 : Int32).toNatClampNeg).toInt ∧ (σ.1 15 (7 : Int32).toNatClampNeg).toInt ≤ 12 := hIσ 15 _
  have qv1_170042 : v1_170042.toInt = (σ.1 15 (7 : Int32).toNatClampNeg).toInt := by rw [ev1_170042]
  refine ok_some.mpr ?_
  refine ok_ite.mpr ⟨fun h_2 => ?_, fun h_2 => ?_⟩
  · have g3 : v1_170042.toInt ≤ a1_170035.toInt := Int32.le_iff_toInt_le.mp h_2
    refine ok_some.mpr ?_
    have l_m1 : (-1 : Int32).toInt = -1 := by decide
    exact ⟨(show -1 ≤ (-1 : Int32).toInt by omega), (show (-1 : Int32).toInt ≤ 11 by omega)⟩
  · have g4 : ¬ v1_170042.toInt ≤ a1_170035.toInt := fun z => h_2 (Int32.le_iff_toInt_le.mpr z)
    refine ok_gd.mpr ⟨gb_of (by omega) (by omega), ?_⟩
    refine ok_nm2 (fun v5_170041_170043 ev5_170041_170043 => ?_)
    have f5 : 0 ≤ (σ.1 29 a1_170035.toNatClampNeg).toInt ∧ (σ.1 29 a1_170035.toNatClampNeg).toInt ≤ 1 := hIσ 29 _
    have qv5_170041_170043 : v5_170041_170043.toInt = (σ.1 29 a1_170035.toNatClampNeg).toInt := by rw [ev5_170041_170043]
    refine ok_ite.mpr ⟨fun h_6 => ?_, fun h_6 => ?_⟩
    · have g7 : v5_170041_170043.toInt = (0 : Int32).toInt := by rw [h_6]
      refine ok_some.mpr ?_
      exact ⟨(show -1 ≤ a1_170035.toInt by omega), (show a1_170035.toInt ≤ 11 by omega)⟩
    · have g8 : v5_170041_170043.toInt ≠ (0 : Int32).toInt := fun z => h_6 (Int32.toInt_inj.mp z)
      refine ok_nm2 (fun x7_170041_170043 ex7_170041_170043 => ?_)
      have l_1 : (1 : Int32).toInt = 1 := by decide
      have f9 : (a1_170035 + (1 : Int32)).toInt = a1_170035.toInt + (1 : Int32).toInt := iadd_toInt (by omega) (by omega)
      have qx7_170041_170043 : x7_170041_170043.toInt = (a1_170035 + 1).toInt := by rw [ex7_170041_170043]
      exact hrec_170035 _ x7_170041_170043 (show (12 + 1 - x7_170041_170043.toInt).toNat < n_170035 by omega) ⟨rfl, (show 0 ≤ x7_170041_170043.toInt by omega), (show x7_170041_170043.toInt ≤ 12 by omega)⟩
set_option maxRecDepth 20000 in
set_option maxHeartbeats 2000000 in
theorem o_fX10_points {σ : gS} (hIσ : IM σ)   : Ok (fX10_points σ ) (fun out => 0 ≤ out.toInt ∧ out.toInt ≤ 20) := by
  unfold fX10_points
  have hfσ : Fr fr_fX10_points σ σ := Fr_r
  have l_8 : (8 : Int32).toInt = 8 := by decide
  refine ok_gd.mpr ⟨gb_of (by omega) (by omega), ?_⟩
  refine ok_nm2 (fun v1 ev1 => ?_)
  have f1 : 0 ≤ (σ.1 15 (8 : Int32).toNatClampNeg).toInt ∧ (σ.1 15 (8 : Int32).toNatClampNeg).toInt ≤ 20 := hIσ 15 _
  have qv1 : v1.toInt = (σ.1 15 (8 : Int32).toNatClampNeg).toInt := by rw [ev1]
  refine ok_some.mpr ?_
  exact ⟨(show 0 ≤ v1.toInt by omega), (show v1.toInt ≤ 20 by omega)⟩
set_option maxRecDepth 20000 in
set_option maxHeartbeats 2000000 in
theorem o_fX10_standControls {σ : gS} (hIσ : IM σ)   : Ok (fX10_standControls σ ) (fun out => IM out ∧ Fr fr_fX10_standControls σ out) := by
  unfold fX10_standControls
  have hfσ : Fr fr_fX10_standControls σ σ := Fr_r
  refine ok_nm2 (fun x1 ex1 => ?_)
  have l_0 : (0 : Int32).toInt = 0 := by decide
  have qx1 : x1.toInt = 0 := by rw [ex1]; decide
  refine ok_lpc (I := fun n s => n = (20 + 1 - s.1.toInt).toNat ∧ IM s.2 ∧ Fr fr_fX10_standControls σ s.2 ∧ 0 ≤ s.1.toInt ∧ s.1.toInt ≤ 20) (fun rec2_170044r n_170044 s_170044 hs_170044 hrec_170044 => ?_) K9 _ _ ⟨rfl, hIσ, hfσ, (by (try dsimp only); omega), (by (try dsimp only); omega)⟩ (by unfold K9; (try dsimp only); omega)
  obtain ⟨a1_170044, σ1_170044⟩ := s_170044
  obtain ⟨hn_170044, hIσ1_170044, hfσ1_170044, b0a1_170044, b1a1_170044⟩ := hs_170044
  dsimp only at hn_170044 hIσ1_170044 hfσ1_170044 b0a1_170044 b1a1_170044
  unfold bX10_standControls_2
  try dsimp only
  refine ok_bd.mpr ?_
  try unfold fX10_points
  have l_8 : (8 : Int32).toInt = 8 := by decide
  refine ok_gd.mpr ⟨gb_of (by omega) (by omega), ?_⟩
  refine ok_nm2 (fun v1_170078 ev1_170078 => ?_)
  have f1 : 0 ≤ (σ1_170044.1 15 (8 : Int32).toNatClampNeg).toInt ∧ (σ1_170044.1 15 (8 : Int32).toNatClampNeg).toInt ≤ 20 := hIσ1_170044 15 _
  have qv1_170078 : v1_170078.toInt = (σ1_170044.1 15 (8 : Int32).toNatClampNeg).toInt := by rw [ev1_170078]
  refine ok_some.mpr ?_
  refine ok_ite.mpr ⟨fun h_2 => ?_, fun h_2 => ?_⟩
  · have g3 : v1_170078.toInt ≤ a1_170044.toInt := Int32.le_iff_toInt_le.mp h_2
    refine ok_some.mpr ?_
    exact ⟨hIσ1_170044, hfσ1_170044⟩
  · have g4 : ¬ v1_170078.toInt ≤ a1_170044.toInt := fun z => h_2 (Int32.le_iff_toInt_le.mpr z)
    refine ok_nm2 (fun x5_170075_170079 ex5_170075_170079 => ?_)
    have qx5_170075_170079 : x5_170075_170079.toInt = 0 := by rw [ex5_170075_170079]; decide
    refine ok_lpc (I := fun n s => n = (6 + 1 - s.1.toInt).toNat ∧ IM s.2 ∧ Fr fr_fX10_standControls σ s.2 ∧ 0 ≤ s.1.toInt ∧ s.1.toInt ≤ 6) (fun rec12_170080r n_170080 s_170080 hs_170080 hrec_170080 => ?_) K9 _ _ ⟨rfl, hIσ1_170044, hfσ1_170044, (by (try dsimp only); omega), (by (try dsimp only); omega)⟩ (by unfold K9; (try dsimp only); omega)
    obtain ⟨a2_170080, σ1_170080⟩ := s_170080
    obtain ⟨hn_170080, hIσ1_170080, hfσ1_170080, b0a2_170080, b1a2_170080⟩ := hs_170080
    dsimp only at hn_170080 hIσ1_170080 hfσ1_170080 b0a2_170080 b1a2_170080
    unfold bX10_standControls_12
    try dsimp only
    refine ok_ite.mpr ⟨fun h_5 => ?_, fun h_5 => ?_⟩
    · have l_2 : (2 : Int32).toInt = 2 := by decide
      have g6 : (2 : Int32).toInt ≤ a2_170080.toInt := Int32.le_iff_toInt_le.mp h_5
      refine ok_nm2 (fun x7_170085 ex7_170085 => ?_)
      have l_1 : (1 : Int32).toInt = 1 := by decide
      have f7 : (a1_170044 + (1 : Int32)).toInt = a1_170044.toInt + (1 : Int32).toInt := iadd_toInt (by omega) (by omega)
      have qx7_170085 : x7_170085.toInt = (a1_170044 + 1).toInt := by rw [ex7_170085]
      exact hrec_170044 _ (x7_170085, σ1_170080) (show (20 + 1 - x7_170085.toInt).toNat < n_170044 by omega) ⟨rfl, hIσ1_170080, hfσ1_170080, (show 0 ≤ x7_170085.toInt by omega), (show x7_170085.toInt ≤ 20 by omega)⟩
    · have l_2 : (2 : Int32).toInt = 2 := by decide
      have g8 : ¬ (2 : Int32).toInt ≤ a2_170080.toInt := fun z => h_5 (Int32.le_iff_toInt_le.mpr z)
      refine ok_bd.mpr ?_
      try unfold fX10_isControl
      have l_20 : (20 : Int32).toInt = 20 := by decide
      have f9 : ((20 : Int32) + a1_170044).toInt = (20 : Int32).toInt + a1_170044.toInt := iadd_toInt (by omega) (by omega)
      refine ok_gd.mpr ⟨gb_of (by omega) (by omega), ?_⟩
      refine ok_nm2 (fun v1_170086 ev1_170086 => ?_)
      have f10 : 0 ≤ (σ1_170080.1 20 (20 + a1_170044).toNatClampNeg).toInt ∧ (σ1_170080.1 20 (20 + a1_170044).toNatClampNeg).toInt ≤ 2 := hIσ1_170080 20 _
      have qv1_170086 : v1_170086.toInt = (σ1_170080.1 20 (20 + a1_170044).toNatClampNeg).toInt := by rw [ev1_170086]
      refine ok_nm2 (fun x2_170086 ex2_170086 => ?_)
      have qx2_170086 : x2_170086.toInt = v1_170086.toInt := by rw [ex2_170086]
      refine ok_ite.mpr ⟨fun h_11 => ?_, fun h_11 => ?_⟩
      · have g12 : x2_170086.toInt = (0 : Int32).toInt := by rw [h_11]
        refine ok_some.mpr ?_
        refine ok_ite.mpr ⟨fun h_13 => ?_, fun h_13 => ?_⟩
        · have g14 : (0 : Int32).toInt = (0 : Int32).toInt := by rw [h_13]
          refine ok_nm2 (fun x11_170085_170087 ex11_170085_170087 => ?_)
          have l_1 : (1 : Int32).toInt = 1 := by decide
          have f15 : (a2_170080 + (1 : Int32)).toInt = a2_170080.toInt + (1 : Int32).toInt := iadd_toInt (by omega) (by omega)
          have qx11_170085_170087 : x11_170085_170087.toInt = (a2_170080 + 1).toInt := by rw [ex11_170085_170087]
          exact hrec_170080 _ (x11_170085_170087, σ1_170080) (show (6 + 1 - x11_170085_170087.toInt).toNat < n_170080 by omega) ⟨rfl, hIσ1_170080, hfσ1_170080, (show 0 ≤ x11_170085_170087.toInt by omega), (show x11_170085_170087.toInt ≤ 6 by omega)⟩
        · have g16 : (0 : Int32).toInt ≠ (0 : Int32).toInt := fun z => h_13 (Int32.toInt_inj.mp z)
          exfalso; omega
      · have g17 : x2_170086.toInt ≠ (0 : Int32).toInt := fun z => h_11 (Int32.toInt_inj.mp z)
        refine ok_ite.mpr ⟨fun h_18 => ?_, fun h_18 => ?_⟩
        · have l_1 : (1 : Int32).toInt = 1 := by decide
          have g19 : (((σ1_170080.1 0 36) >>> ((x2_170086 - 1) &&& 31)) &&& 1).toInt = (1 : Int32).toInt := by rw [h_18]
          refine ok_some.mpr ?_
          refine ok_ite.mpr ⟨fun h_20 => ?_, fun h_20 => ?_⟩
          · have g21 : (1 : Int32).toInt = (0 : Int32).toInt := by rw [h_20]
            exfalso; omega
          · have g22 : (1 : Int32).toInt ≠ (0 : Int32).toInt := fun z => h_20 (Int32.toInt_inj.mp z)
            have l_40 : (40 : Int32).toInt = 40 := by decide
            have f23 : ((2 : Int32) * a1_170044).toInt = 2 * a1_170044.toInt := imulc l_2 (by omega) (by omega)
            have f24 : ((40 : Int32) + (2 * a1_170044)).toInt = (40 : Int32).toInt + (2 * a1_170044).toInt := iadd_toInt (by omega) (by omega)
            have f25 : ((40 + (2 * a1_170044)) + a2_170080).toInt = (40 + (2 * a1_170044)).toInt + a2_170080.toInt := iadd_toInt (by omega) (by omega)
            refine ok_gd.mpr ⟨gb_of (by omega) (by omega), ?_⟩
            refine ok_nm2 (fun v12_170085_170088 ev12_170085_170088 => ?_)
            have f26 : 0 ≤ (σ1_170080.1 21 ((40 + (2 * a1_170044)) + a2_170080).toNatClampNeg).toInt ∧ (σ1_170080.1 21 ((40 + (2 * a1_170044)) + a2_170080).toNatClampNeg).toInt ≤ 9999 := hIσ1_170080 21 _
            have qv12_170085_170088 : v12_170085_170088.toInt = (σ1_170080.1 21 ((40 + (2 * a1_170044)) + a2_170080).toNatClampNeg).toInt := by rw [ev12_170085_170088]
            have l_38 : (38 : Int32).toInt = 38 := by decide
            have f27 : ((38 : Int32) * a2_170080).toInt = 38 * a2_170080.toInt := imulc l_38 (by omega) (by omega)
            have l_12 : (12 : Int32).toInt = 12 := by decide
            have f28 : ((38 * a2_170080) + (12 : Int32)).toInt = (38 * a2_170080).toInt + (12 : Int32).toInt := iadd_toInt (by omega) (by omega)
            have f29 : (((38 * a2_170080) + 12) + a1_170044).toInt = ((38 * a2_170080) + 12).toInt + a1_170044.toInt := iadd_toInt (by omega) (by omega)
            refine ok_gd.mpr ⟨gb_of (by omega) (by omega), ?_⟩
            refine ok_nm2 (fun σ13_170085_170088 eσ13_170085_170088 => ?_)
            have l_100 : (100 : Int32).toInt = 100 := by decide
            have f30 : ((100 : Int32) * v12_170085_170088).toInt = 100 * v12_170085_170088.toInt := imulc l_100 (by omega) (by omega)
            have hIσ13_170085_170088 : IM σ13_170085_170088 := by rw [eσ13_170085_170088]; exact IM_w hIσ1_170080 (Int32.le_toInt _) (Int32.toInt_le _)
            have hfσ13_170085_170088 : Fr fr_fX10_standControls σ σ13_170085_170088 := by rw [eσ13_170085_170088]; exact Fr_w0 hfσ1_170080 (by decide)
            refine ok_nm2 (fun x14_170085_170088 ex14_170085_170088 => ?_)
            have f31 : (a2_170080 + (1 : Int32)).toInt = a2_170080.toInt + (1 : Int32).toInt := iadd_toInt (by omega) (by omega)
            have qx14_170085_170088 : x14_170085_170088.toInt = (a2_170080 + 1).toInt := by rw [ex14_170085_170088]
            exact hrec_170080 _ (x14_170085_170088, σ13_170085_170088) (show (6 + 1 - x14_170085_170088.toInt).toNat < n_170080 by omega) ⟨rfl, hIσ13_170085_170088, hfσ13_170085_170088, (show 0 ≤ x14_170085_170088.toInt by omega), (show x14_170085_170088.toInt ≤ 6 by omega)⟩
        · have l_1 : (1 : Int32).toInt = 1 := by decide
          have g32 : (((σ1_170080.1 0 36) >>> ((x2_170086 - 1) &&& 31)) &&& 1).toInt ≠ (1 : Int32).toInt := fun z => h_18 (Int32.toInt_inj.mp z)
          refine ok_some.mpr ?_
          refine ok_ite.mpr ⟨fun h_33 => ?_, fun h_33 => ?_⟩
          · have g34 : (0 : Int32).toInt = (0 : Int32).toInt := by rw [h_33]
            refine ok_nm2 (fun x11_170085_170089 ex11_170085_170089 => ?_)
            have f35 : (a2_170080 + (1 : Int32)).toInt = a2_170080.toInt + (1 : Int32).toInt := iadd_toInt (by omega) (by omega)
            have qx11_170085_170089 : x11_170085_170089.toInt = (a2_170080 + 1).toInt := by rw [ex11_170085_170089]
            exact hrec_170080 _ (x11_170085_170089, σ1_170080) (show (6 + 1 - x11_170085_170089.toInt).toNat < n_170080 by omega) ⟨rfl, hIσ1_170080, hfσ1_170080, (show 0 ≤ x11_170085_170089.toInt by omega), (show x11_170085_170089.toInt ≤ 6 by omega)⟩
          · have g36 : (0 : Int32).toInt ≠ (0 : Int32).toInt := fun z => h_33 (Int32.toInt_inj.mp z)
            exfalso; omega
set_option maxRecDepth 20000 in
set_option maxHeartbeats 2000000 in
theorem o_fX10_rows {σ : gS} (hIσ : IM σ)   : Ok (fX10_rows σ ) (fun out => 0 ≤ out.toInt ∧ out.toInt ≤ 60) := by
  unfold fX10_rows
  have hfσ : Fr fr_fX10_rows σ σ := Fr_r
  have l_9 : (9 : Int32).toInt = 9 := by decide
  refine ok_gd.mpr ⟨gb_of (by omega) (by omega), ?_⟩
  refine ok_nm2 (fun v1 ev1 => ?_)
  have f1 : 0 ≤ (σ.1 15 (9 : Int32).toNatClampNeg).toInt ∧ (σ.1 15 (9 : Int32).toNatClampNeg).toInt ≤ 60 := hIσ 15 _
  have qv1 : v1.toInt = (σ.1 15 (9 : Int32).toNatClampNeg).toInt := by rw [ev1]
  refine ok_some.mpr ?_
  exact ⟨(show 0 ≤ v1.toInt by omega), (show v1.toInt ≤ 60 by omega)⟩
set_option maxRecDepth 20000 in
set_option maxHeartbeats 2000000 in
theorem o_fX10_startedRow {σ : gS} (hIσ : IM σ) {p1 : Int32}  : Ok (fX10_startedRow σ p1) (fun out => -1 ≤ out.toInt ∧ out.toInt ≤ 59) := by
  unfold fX10_startedRow
  have hfσ : Fr fr_fX10_startedRow σ σ := Fr_r
  refine ok_nm2 (fun x1 ex1 => ?_)
  have l_0 : (0 : Int32).toInt = 0 := by decide
  have qx1 : x1.toInt = 0 := by rw [ex1]; decide
  refine ok_lpc (I := fun n s => n = (60 + 1 - s.toInt).toNat ∧ 0 ≤ s.toInt ∧ s.toInt ≤ 60) (fun rec2_170090r n_170090 s_170090 hs_170090 hrec_170090 => ?_) K9 _ _ ⟨rfl, (by (try dsimp only); omega), (by (try dsimp only); omega)⟩ (by unfold K9; (try dsimp only); omega)
  obtain ⟨a2_170090, hq_170090⟩ : ∃ y, y = s_170090 := ⟨_, rfl⟩
  subst hq_170090
  obtain ⟨hn_170090, b0a2_170090, b1a2_170090⟩ := hs_170090
  skip
  unfold bX10_startedRow_2
  try dsimp only
  refine ok_bd.mpr ?_
  try unfold fX10_rows
  have l_9 : (9 : Int32).toInt = 9 := by decide
  refine ok_gd.mpr ⟨gb_of (by omega) (by omega), ?_⟩
  refine ok_nm2 (fun v1_170122 ev1_170122 => ?_)
  have f1 : 0 ≤ (σ.1 15 (9 : Int32).toNatClampNeg).toInt ∧ (σ.1 15 (9 : Int32).toNatClampNeg).toInt ≤ 60 := hIσ 15 _
  have qv1_170122 : v1_170122.toInt = (σ.1 15 (9 : Int32).toNatClampNeg).toInt := by rw [ev1_170122]
  refine ok_some.mpr ?_
  refine ok_ite.mpr ⟨fun h_2 => ?_, fun h_2 => ?_⟩
  · have g3 : v1_170122.toInt ≤ a2_170090.toInt := Int32.le_iff_toInt_le.mp h_2
    refine ok_some.mpr ?_
    have l_m1 : (-1 : Int32).toInt = -1 := by decide
    exact ⟨(show -1 ≤ (-1 : Int32).toInt by omega), (show (-1 : Int32).toInt ≤ 59 by omega)⟩
  · have g4 : ¬ v1_170122.toInt ≤ a2_170090.toInt := fun z => h_2 (Int32.le_iff_toInt_le.mpr z)
    refine ok_gd.mpr ⟨gb_of (by omega) (by omega), ?_⟩
    refine ok_nm2 (fun v5_170121_170123 ev5_170121_170123 => ?_)
    have f5 : 0 ≤ (σ.1 26 a2_170090.toNatClampNeg).toInt ∧ (σ.1 26 a2_170090.toNatClampNeg).toInt ≤ 1 := hIσ 26 _
    have qv5_170121_170123 : v5_170121_170123.toInt = (σ.1 26 a2_170090.toNatClampNeg).toInt := by rw [ev5_170121_170123]
    refine ok_ite.mpr ⟨fun h_6 => ?_, fun h_6 => ?_⟩
    · have g7 : v5_170121_170123.toInt = (0 : Int32).toInt := by rw [h_6]
      refine ok_bd.mpr ?_
      try unfold fX10_pointOf
      have l_60 : (60 : Int32).toInt = 60 := by decide
      have f8 : ((60 : Int32) + a2_170090).toInt = (60 : Int32).toInt + a2_170090.toInt := iadd_toInt (by omega) (by omega)
      refine ok_gd.mpr ⟨gb_of (by omega) (by omega), ?_⟩
      refine ok_nm2 (fun v1_170124 ev1_170124 => ?_)
      have f9 : 0 ≤ (σ.1 23 (60 + a2_170090).toNatClampNeg).toInt ∧ (σ.1 23 (60 + a2_170090).toNatClampNeg).toInt ≤ 19 := hIσ 23 _
      have qv1_170124 : v1_170124.toInt = (σ.1 23 (60 + a2_170090).toNatClampNeg).toInt := by rw [ev1_170124]
      refine ok_some.mpr ?_
      refine ok_ite.mpr ⟨fun h_10 => ?_, fun h_10 => ?_⟩
      · have g11 : v1_170124.toInt = p1.toInt := by rw [h_10]
        refine ok_bd.mpr ?_
        try unfold fX10_pictureOf
        refine ok_gd.mpr ⟨gb_of (by omega) (by omega), ?_⟩
        refine ok_nm2 (fun v1_170126 ev1_170126 => ?_)
        have f12 : 0 ≤ (σ.1 22 (60 + a2_170090).toNatClampNeg).toInt ∧ (σ.1 22 (60 + a2_170090).toNatClampNeg).toInt ≤ 11 := hIσ 22 _
        have qv1_170126 : v1_170126.toInt = (σ.1 22 (60 + a2_170090).toNatClampNeg).toInt := by rw [ev1_170126]
        refine ok_some.mpr ?_
        refine ok_gd.mpr ⟨gb_of (by omega) (by omega), ?_⟩
        refine ok_nm2 (fun v14_170121_170123_170125_170127 ev14_170121_170123_170125_170127 => ?_)
        have f13 : 0 ≤ (σ.1 29 v1_170126.toNatClampNeg).toInt ∧ (σ.1 29 v1_170126.toNatClampNeg).toInt ≤ 1 := hIσ 29 _
        have qv14_170121_170123_170125_170127 : v14_170121_170123_170125_170127.toInt = (σ.1 29 v1_170126.toNatClampNeg).toInt := by rw [ev14_170121_170123_170125_170127]
        refine ok_ite.mpr ⟨fun h_14 => ?_, fun h_14 => ?_⟩
        · have g15 : v14_170121_170123_170125_170127.toInt = (0 : Int32).toInt := by rw [h_14]
          refine ok_nm2 (fun x16_170121_170123_170125_170127 ex16_170121_170123_170125_170127 => ?_)
          have l_1 : (1 : Int32).toInt = 1 := by decide
          have f16 : (a2_170090 + (1 : Int32)).toInt = a2_170090.toInt + (1 : Int32).toInt := iadd_toInt (by omega) (by omega)
          have qx16_170121_170123_170125_170127 : x16_170121_170123_170125_170127.toInt = (a2_170090 + 1).toInt := by rw [ex16_170121_170123_170125_170127]
          exact hrec_170090 _ x16_170121_170123_170125_170127 (show (60 + 1 - x16_170121_170123_170125_170127.toInt).toNat < n_170090 by omega) ⟨rfl, (show 0 ≤ x16_170121_170123_170125_170127.toInt by omega), (show x16_170121_170123_170125_170127.toInt ≤ 60 by omega)⟩
        · have g17 : v14_170121_170123_170125_170127.toInt ≠ (0 : Int32).toInt := fun z => h_14 (Int32.toInt_inj.mp z)
          refine ok_some.mpr ?_
          exact ⟨(show -1 ≤ a2_170090.toInt by omega), (show a2_170090.toInt ≤ 59 by omega)⟩
      · have g18 : v1_170124.toInt ≠ p1.toInt := fun z => h_10 (Int32.toInt_inj.mp z)
        refine ok_nm2 (fun x11_170121_170123_170125 ex11_170121_170123_170125 => ?_)
        have l_1 : (1 : Int32).toInt = 1 := by decide
        have f19 : (a2_170090 + (1 : Int32)).toInt = a2_170090.toInt + (1 : Int32).toInt := iadd_toInt (by omega) (by omega)
        have qx11_170121_170123_170125 : x11_170121_170123_170125.toInt = (a2_170090 + 1).toInt := by rw [ex11_170121_170123_170125]
        exact hrec_170090 _ x11_170121_170123_170125 (show (60 + 1 - x11_170121_170123_170125.toInt).toNat < n_170090 by omega) ⟨rfl, (show 0 ≤ x11_170121_170123_170125.toInt by omega), (show x11_170121_170123_170125.toInt ≤ 60 by omega)⟩
    · have g20 : v5_170121_170123.toInt ≠ (0 : Int32).toInt := fun z => h_6 (Int32.toInt_inj.mp z)
      refine ok_nm2 (fun x7_170121_170123 ex7_170121_170123 => ?_)
      have l_1 : (1 : Int32).toInt = 1 := by decide
      have f21 : (a2_170090 + (1 : Int32)).toInt = a2_170090.toInt + (1 : Int32).toInt := iadd_toInt (by omega) (by omega)
      have qx7_170121_170123 : x7_170121_170123.toInt = (a2_170090 + 1).toInt := by rw [ex7_170121_170123]
      exact hrec_170090 _ x7_170121_170123 (show (60 + 1 - x7_170121_170123.toInt).toNat < n_170090 by omega) ⟨rfl, (show 0 ≤ x7_170121_170123.toInt by omega), (show x7_170121_170123.toInt ≤ 60 by omega)⟩
set_option maxRecDepth 20000 in
set_option maxHeartbeats 2000000 in
theorem o_fX10_turnedBy {σ : gS} (hIσ : IM σ) {p1 : Int32} {p2 : Int32} {p3 : Int32} (h0p1 : -1 ≤ p1.toInt) (h1p1 : p1.toInt ≤ 59) (h0p2 : 0 ≤ p2.toInt) (h1p2 : p2.toInt ≤ 6) (h0p3 : 0 ≤ p3.toInt) (h1p3 : p3.toInt ≤ 1) : Ok (fX10_turnedBy σ p1 p2 p3) (fun out => -999900 ≤ out.toInt ∧ out.toInt ≤ 999900) := by
  unfold fX10_turnedBy
  have hfσ : Fr fr_fX10_turnedBy σ σ := Fr_r
  have l_120 : (120 : Int32).toInt = 120 := by decide
  have l_2 : (2 : Int32).toInt = 2 := by decide
  have f1 : ((2 : Int32) * p1).toInt = 2 * p1.toInt := imulc l_2 (by omega) (by omega)
  have f2 : ((120 : Int32) + (2 * p1)).toInt = (120 : Int32).toInt + (2 * p1).toInt := iadd_toInt (by omega) (by omega)
  refine ok_gd.mpr ⟨gb_of (by omega) (by omega), ?_⟩
  refine ok_nm2 (fun v1 ev1 => ?_)
  have f3 : 0 ≤ (σ.1 24 (120 + (2 * p1)).toNatClampNeg).toInt ∧ (σ.1 24 (120 + (2 * p1)).toNatClampNeg).toInt ≤ 9999 := hIσ 24 _
  have qv1 : v1.toInt = (σ.1 24 (120 + (2 * p1)).toNatClampNeg).toInt := by rw [ev1]
  refine ok_nm2 (fun x2 ex2 => ?_)
  have qx2 : x2.toInt = v1.toInt := by rw [ex2]
  have l_1 : (1 : Int32).toInt = 1 := by decide
  have f4 : ((120 + (2 * p1)) + (1 : Int32)).toInt = (120 + (2 * p1)).toInt + (1 : Int32).toInt := iadd_toInt (by omega) (by omega)
  refine ok_gd.mpr ⟨gb_of (by omega) (by omega), ?_⟩
  refine ok_nm2 (fun v3 ev3 => ?_)
  have f5 : 0 ≤ (σ.1 24 ((120 + (2 * p1)) + 1).toNatClampNeg).toInt ∧ (σ.1 24 ((120 + (2 * p1)) + 1).toNatClampNeg).toInt ≤ 9999 := hIσ 24 _
  have qv3 : v3.toInt = (σ.1 24 ((120 + (2 * p1)) + 1).toNatClampNeg).toInt := by rw [ev3]
  refine ok_nm2 (fun x4 ex4 => ?_)
  have qx4 : x4.toInt = v3.toInt := by rw [ex4]
  refine ok_ite.mpr ⟨fun h_6 => ?_, fun h_6 => ?_⟩
  · have l_0 : (0 : Int32).toInt = 0 := by decide
    have g7 : p3.toInt = (0 : Int32).toInt := by rw [h_6]
    try unfold jX10_turnedBy_38
    refine ok_nm2 (fun x6_170128 ex6_170128 => ?_)
    refine ok_ite.mpr ⟨fun h_8 => ?_, fun h_8 => ?_⟩
    · have g9 : x6_170128.toInt = (0 : Int32).toInt := by rw [h_8]
      refine ok_some.mpr ?_
      have l_100 : (100 : Int32).toInt = 100 := by decide
      have f10 : ((100 : Int32) * x2).toInt = 100 * x2.toInt := imulc l_100 (by omega) (by omega)
      exact ⟨(show -999900 ≤ (100 * x2).toInt by omega), (show (100 * x2).toInt ≤ 999900 by omega)⟩
    · have g11 : x6_170128.toInt ≠ (0 : Int32).toInt := fun z => h_8 (Int32.toInt_inj.mp z)
      refine ok_ite.mpr ⟨fun h_12 => ?_, fun h_12 => ?_⟩
      · have g13 : x6_170128.toInt = (1 : Int32).toInt := by rw [h_12]
        refine ok_some.mpr ?_
        have l_100 : (100 : Int32).toInt = 100 := by decide
        have f14 : (-x4).toInt = -x4.toInt := ineg_toInt (by omega)
        have f15 : ((100 : Int32) * (-x4)).toInt = 100 * (-x4).toInt := imulc l_100 (by omega) (by omega)
        exact ⟨(show -999900 ≤ (100 * (-x4)).toInt by omega), (show (100 * (-x4)).toInt ≤ 999900 by omega)⟩
      · have g16 : x6_170128.toInt ≠ (1 : Int32).toInt := fun z => h_12 (Int32.toInt_inj.mp z)
        refine ok_ite.mpr ⟨fun h_17 => ?_, fun h_17 => ?_⟩
        · have g18 : x6_170128.toInt = (2 : Int32).toInt := by rw [h_17]
          refine ok_some.mpr ?_
          have l_100 : (100 : Int32).toInt = 100 := by decide
          have f19 : (-x2).toInt = -x2.toInt := ineg_toInt (by omega)
          have f20 : ((100 : Int32) * (-x2)).toInt = 100 * (-x2).toInt := imulc l_100 (by omega) (by omega)
          exact ⟨(show -999900 ≤ (100 * (-x2)).toInt by omega), (show (100 * (-x2)).toInt ≤ 999900 by omega)⟩
        · have g21 : x6_170128.toInt ≠ (2 : Int32).toInt := fun z => h_17 (Int32.toInt_inj.mp z)
          refine ok_some.mpr ?_
          have l_100 : (100 : Int32).toInt = 100 := by decide
          have f22 : ((100 : Int32) * x4).toInt = 100 * x4.toInt := imulc l_100 (by omega) (by omega)
          exact ⟨(show -999900 ≤ (100 * x4).toInt by omega), (show (100 * x4).toInt ≤ 999900 by omega)⟩
  · have l_0 : (0 : Int32).toInt = 0 := by decide
    have g23 : p3.toInt ≠ (0 : Int32).toInt := fun z => h_6 (Int32.toInt_inj.mp z)
    try unfold jX10_turnedBy_38
    refine ok_nm2 (fun x6_170129 ex6_170129 => ?_)
    refine ok_ite.mpr ⟨fun h_24 => ?_, fun h_24 => ?_⟩
    · have g25 : x6_170129.toInt = (0 : Int32).toInt := by rw [h_24]
      refine ok_some.mpr ?_
      have l_100 : (100 : Int32).toInt = 100 := by decide
      have f26 : ((100 : Int32) * x2).toInt = 100 * x2.toInt := imulc l_100 (by omega) (by omega)
      exact ⟨(show -999900 ≤ (100 * x2).toInt by omega), (show (100 * x2).toInt ≤ 999900 by omega)⟩
    · have g27 : x6_170129.toInt ≠ (0 : Int32).toInt := fun z => h_24 (Int32.toInt_inj.mp z)
      refine ok_ite.mpr ⟨fun h_28 => ?_, fun h_28 => ?_⟩
      · have g29 : x6_170129.toInt = (1 : Int32).toInt := by rw [h_28]
        refine ok_some.mpr ?_
        have l_100 : (100 : Int32).toInt = 100 := by decide
        have f30 : (-x4).toInt = -x4.toInt := ineg_toInt (by omega)
        have f31 : ((100 : Int32) * (-x4)).toInt = 100 * (-x4).toInt := imulc l_100 (by omega) (by omega)
        exact ⟨(show -999900 ≤ (100 * (-x4)).toInt by omega), (show (100 * (-x4)).toInt ≤ 999900 by omega)⟩
      · have g32 : x6_170129.toInt ≠ (1 : Int32).toInt := fun z => h_28 (Int32.toInt_inj.mp z)
        refine ok_ite.mpr ⟨fun h_33 => ?_, fun h_33 => ?_⟩
        · have g34 : x6_170129.toInt = (2 : Int32).toInt := by rw [h_33]
          refine ok_some.mpr ?_
          have l_100 : (100 : Int32).toInt = 100 := by decide
          have f35 : (-x2).toInt = -x2.toInt := ineg_toInt (by omega)
          have f36 : ((100 : Int32) * (-x2)).toInt = 100 * (-x2).toInt := imulc l_100 (by omega) (by omega)
          exact ⟨(show -999900 ≤ (100 * (-x2)).toInt by omega), (show (100 * (-x2)).toInt ≤ 999900 by omega)⟩
        · have g37 : x6_170129.toInt ≠ (2 : Int32).toInt := fun z => h_33 (Int32.toInt_inj.mp z)
          refine ok_some.mpr ?_
          have l_100 : (100 : Int32).toInt = 100 := by decide
          have f38 : ((100 : Int32) * x4).toInt = 100 * x4.toInt := imulc l_100 (by omega) (by omega)
          exact ⟨(show -999900 ≤ (100 * x4).toInt by omega), (show (100 * x4).toInt ≤ 999900 by omega)⟩
set_option maxRecDepth 20000 in
set_option maxHeartbeats 2000000 in
theorem o_fX10_turned {σ : gS} (hIσ : IM σ) {p1 : Int32} {p2 : Int32} (h0p1 : -1 ≤ p1.toInt) (h1p1 : p1.toInt ≤ 59) (h0p2 : 0 ≤ p2.toInt) (h1p2 : p2.toInt ≤ 1) : Ok (fX10_turned σ p1 p2) (fun out => -999900 ≤ out.toInt ∧ out.toInt ≤ 999900) := by
  unfold fX10_turned
  have hfσ : Fr fr_fX10_turned σ σ := Fr_r
  refine ok_bd.mpr ?_
  try unfold fX10_pictureOf
  have l_60 : (60 : Int32).toInt = 60 := by decide
  have f1 : ((60 : Int32) + p1).toInt = (60 : Int32).toInt + p1.toInt := iadd_toInt (by omega) (by omega)
  refine ok_gd.mpr ⟨gb_of (by omega) (by omega), ?_⟩
  refine ok_nm2 (fun v1_170130 ev1_170130 => ?_)
  have f2 : 0 ≤ (σ.1 22 (60 + p1).toNatClampNeg).toInt ∧ (σ.1 22 (60 + p1).toNatClampNeg).toInt ≤ 11 := hIσ 22 _
  have qv1_170130 : v1_170130.toInt = (σ.1 22 (60 + p1).toNatClampNeg).toInt := by rw [ev1_170130]
  refine ok_some.mpr ?_
  refine ok_gd.mpr ⟨gb_of (by omega) (by omega), ?_⟩
  refine ok_nm2 (fun v3_170131 ev3_170131 => ?_)
  have f3 : 0 ≤ (σ.1 27 v1_170130.toNatClampNeg).toInt ∧ (σ.1 27 v1_170130.toNatClampNeg).toInt ≤ 3 := by
    have hz : v1_170130.toNatClampNeg = v1_170130.toInt.toNat := rfl
    have hb := hIσ 27 v1_170130.toNatClampNeg
    have hj : v1_170130.toNatClampNeg = 0 ∨ v1_170130.toNatClampNeg = 1 ∨ v1_170130.toNatClampNeg = 2 ∨ v1_170130.toNatClampNeg = 3 ∨ v1_170130.toNatClampNeg = 4 ∨ v1_170130.toNatClampNeg = 5 ∨ v1_170130.toNatClampNeg = 6 ∨ v1_170130.toNatClampNeg = 7 ∨ v1_170130.toNatClampNeg = 8 ∨ v1_170130.toNatClampNeg = 9 ∨ v1_170130.toNatClampNeg = 10 ∨ v1_170130.toNatClampNeg = 11 := by omega
    generalize v1_170130.toNatClampNeg = j at hb hj ⊢
    rcases hj with rfl | rfl | rfl | rfl | rfl | rfl | rfl | rfl | rfl | rfl | rfl | rfl <;> exact ⟨Int.le_trans (by decide) hb.1, Int.le_trans hb.2 (by decide)⟩
  have qv3_170131 : v3_170131.toInt = (σ.1 27 v1_170130.toNatClampNeg).toInt := by rw [ev3_170131]
  refine ok_bd.mpr ((o_fX10_turnedBy hIσ (by omega) (by omega) (by omega) (by omega) (by omega) (by omega)).mono (fun r5_170131 ho_5 => ?_))
  obtain ⟨r0r5_170131, r1r5_170131⟩ := ho_5
  refine ok_some.mpr ?_
  exact ⟨(show -999900 ≤ r5_170131.toInt by omega), (show r5_170131.toInt ≤ 999900 by omega)⟩
set_option maxRecDepth 20000 in
set_option maxHeartbeats 2000000 in
theorem o_fX10_put {σ : gS} (hIσ : IM σ) {p1 : Int32} {p2 : Int32} (h0p1 : -1 ≤ p1.toInt) (h1p1 : p1.toInt ≤ 59) (h0p2 : 0 ≤ p2.toInt) (h1p2 : p2.toInt ≤ 1) : Ok (fX10_put σ p1 p2) (fun _ => True) := by
  unfold fX10_put
  have hfσ : Fr fr_fX10_put σ σ := Fr_r
  refine ok_bd.mpr ?_
  try unfold fX10_pictureOf
  have l_60 : (60 : Int32).toInt = 60 := by decide
  have f1 : ((60 : Int32) + p1).toInt = (60 : Int32).toInt + p1.toInt := iadd_toInt (by omega) (by omega)
  refine ok_gd.mpr ⟨gb_of (by omega) (by omega), ?_⟩
  refine ok_nm2 (fun v1_170132 ev1_170132 => ?_)
  have f2 : 0 ≤ (σ.1 22 (60 + p1).toNatClampNeg).toInt ∧ (σ.1 22 (60 + p1).toNatClampNeg).toInt ≤ 11 := hIσ 22 _
  have qv1_170132 : v1_170132.toInt = (σ.1 22 (60 + p1).toNatClampNeg).toInt := by rw [ev1_170132]
  refine ok_some.mpr ?_
  have l_38 : (38 : Int32).toInt = 38 := by decide
  have f3 : ((38 : Int32) * p2).toInt = 38 * p2.toInt := imulc l_38 (by omega) (by omega)
  have f4 : ((38 * p2) + v1_170132).toInt = (38 * p2).toInt + v1_170132.toInt := iadd_toInt (by omega) (by omega)
  refine ok_gd.mpr ⟨gb_of (by omega) (by omega), ?_⟩
  refine ok_nm2 (fun v3_170133 ev3_170133 => ?_)
  refine ok_bd.mpr ((o_fX10_turned hIσ (by omega) (by omega) (by omega) (by omega)).mono (fun r5_170133 ho_6 => ?_))
  obtain ⟨r0r5_170133, r1r5_170133⟩ := ho_6
  refine ok_some.mpr ?_
  exact trivial
set_option maxRecDepth 20000 in
set_option maxHeartbeats 2000000 in
theorem o_fX10_rowOf {σ : gS} (hIσ : IM σ) {p1 : Int32} {p2 : Int32} (h0p1 : -1 ≤ p1.toInt) (h1p1 : p1.toInt ≤ 119) : Ok (fX10_rowOf σ p1 p2) (fun out => -1 ≤ out.toInt ∧ out.toInt ≤ 59) := by
  unfold fX10_rowOf
  have hfσ : Fr fr_fX10_rowOf σ σ := Fr_r
  refine ok_nm2 (fun x1 ex1 => ?_)
  have l_0 : (0 : Int32).toInt = 0 := by decide
  have qx1 : x1.toInt = 0 := by rw [ex1]; decide
  refine ok_lpc (I := fun n s => n = (60 + 1 - s.toInt).toNat ∧ 0 ≤ s.toInt ∧ s.toInt ≤ 60) (fun rec2_170134r n_170134 s_170134 hs_170134 hrec_170134 => ?_) K9 _ _ ⟨rfl, (by (try dsimp only); omega), (by (try dsimp only); omega)⟩ (by unfold K9; (try dsimp only); omega)
  obtain ⟨a3_170134, hq_170134⟩ : ∃ y, y = s_170134 := ⟨_, rfl⟩
  subst hq_170134
  obtain ⟨hn_170134, b0a3_170134, b1a3_170134⟩ := hs_170134
  skip
  unfold bX10_rowOf_2
  try dsimp only
  refine ok_bd.mpr ?_
  try unfold fX10_rows
  have l_9 : (9 : Int32).toInt = 9 := by decide
  refine ok_gd.mpr ⟨gb_of (by omega) (by omega), ?_⟩
  refine ok_nm2 (fun v1_170166 ev1_170166 => ?_)
  have f1 : 0 ≤ (σ.1 15 (9 : Int32).toNatClampNeg).toInt ∧ (σ.1 15 (9 : Int32).toNatClampNeg).toInt ≤ 60 := hIσ 15 _
  have qv1_170166 : v1_170166.toInt = (σ.1 15 (9 : Int32).toNatClampNeg).toInt := by rw [ev1_170166]
  refine ok_some.mpr ?_
  refine ok_ite.mpr ⟨fun h_2 => ?_, fun h_2 => ?_⟩
  · have g3 : v1_170166.toInt ≤ a3_170134.toInt := Int32.le_iff_toInt_le.mp h_2
    refine ok_some.mpr ?_
    have l_m1 : (-1 : Int32).toInt = -1 := by decide
    exact ⟨(show -1 ≤ (-1 : Int32).toInt by omega), (show (-1 : Int32).toInt ≤ 59 by omega)⟩
  · have g4 : ¬ v1_170166.toInt ≤ a3_170134.toInt := fun z => h_2 (Int32.le_iff_toInt_le.mpr z)
    refine ok_gd.mpr ⟨gb_of (by omega) (by omega), ?_⟩
    refine ok_nm2 (fun v5_170165_170167 ev5_170165_170167 => ?_)
    have f5 : 0 ≤ (σ.1 26 a3_170134.toNatClampNeg).toInt ∧ (σ.1 26 a3_170134.toNatClampNeg).toInt ≤ 1 := hIσ 26 _
    have qv5_170165_170167 : v5_170165_170167.toInt = (σ.1 26 a3_170134.toNatClampNeg).toInt := by rw [ev5_170165_170167]
    refine ok_ite.mpr ⟨fun h_6 => ?_, fun h_6 => ?_⟩
    · have g7 : v5_170165_170167.toInt = (0 : Int32).toInt := by rw [h_6]
      refine ok_bd.mpr ?_
      try unfold fX10_pictureOf
      have l_60 : (60 : Int32).toInt = 60 := by decide
      have f8 : ((60 : Int32) + a3_170134).toInt = (60 : Int32).toInt + a3_170134.toInt := iadd_toInt (by omega) (by omega)
      refine ok_gd.mpr ⟨gb_of (by omega) (by omega), ?_⟩
      refine ok_nm2 (fun v1_170168 ev1_170168 => ?_)
      have f9 : 0 ≤ (σ.1 22 (60 + a3_170134).toNatClampNeg).toInt ∧ (σ.1 22 (60 + a3_170134).toNatClampNeg).toInt ≤ 11 := hIσ 22 _
      have qv1_170168 : v1_170168.toInt = (σ.1 22 (60 + a3_170134).toNatClampNeg).toInt := by rw [ev1_170168]
      refine ok_some.mpr ?_
      refine ok_ite.mpr ⟨fun h_10 => ?_, fun h_10 => ?_⟩
      · have g11 : v1_170168.toInt = p1.toInt := by rw [h_10]
        refine ok_bd.mpr ?_
        try unfold fX10_pointOf
        refine ok_gd.mpr ⟨gb_of (by omega) (by omega), ?_⟩
        refine ok_nm2 (fun v1_170170 ev1_170170 => ?_)
        have f12 : 0 ≤ (σ.1 23 (60 + a3_170134).toNatClampNeg).toInt ∧ (σ.1 23 (60 + a3_170134).toNatClampNeg).toInt ≤ 19 := hIσ 23 _
        have qv1_170170 : v1_170170.toInt = (σ.1 23 (60 + a3_170134).toNatClampNeg).toInt := by rw [ev1_170170]
        refine ok_some.mpr ?_
        refine ok_ite.mpr ⟨fun h_13 => ?_, fun h_13 => ?_⟩
        · have g14 : v1_170170.toInt = p2.toInt := by rw [h_13]
          refine ok_some.mpr ?_
          exact ⟨(show -1 ≤ a3_170134.toInt by omega), (show a3_170134.toInt ≤ 59 by omega)⟩
        · have g15 : v1_170170.toInt ≠ p2.toInt := fun z => h_13 (Int32.toInt_inj.mp z)
          refine ok_nm2 (fun x15_170165_170167_170169_170171 ex15_170165_170167_170169_170171 => ?_)
          have l_1 : (1 : Int32).toInt = 1 := by decide
          have f16 : (a3_170134 + (1 : Int32)).toInt = a3_170134.toInt + (1 : Int32).toInt := iadd_toInt (by omega) (by omega)
          have qx15_170165_170167_170169_170171 : x15_170165_170167_170169_170171.toInt = (a3_170134 + 1).toInt := by rw [ex15_170165_170167_170169_170171]
          exact hrec_170134 _ x15_170165_170167_170169_170171 (show (60 + 1 - x15_170165_170167_170169_170171.toInt).toNat < n_170134 by omega) ⟨rfl, (show 0 ≤ x15_170165_170167_170169_170171.toInt by omega), (show x15_170165_170167_170169_170171.toInt ≤ 60 by omega)⟩
      · have g17 : v1_170168.toInt ≠ p1.toInt := fun z => h_10 (Int32.toInt_inj.mp z)
        refine ok_nm2 (fun x11_170165_170167_170169 ex11_170165_170167_170169 => ?_)
        have l_1 : (1 : Int32).toInt = 1 := by decide
        have f18 : (a3_170134 + (1 : Int32)).toInt = a3_170134.toInt + (1 : Int32).toInt := iadd_toInt (by omega) (by omega)
        have qx11_170165_170167_170169 : x11_170165_170167_170169.toInt = (a3_170134 + 1).toInt := by rw [ex11_170165_170167_170169]
        exact hrec_170134 _ x11_170165_170167_170169 (show (60 + 1 - x11_170165_170167_170169.toInt).toNat < n_170134 by omega) ⟨rfl, (show 0 ≤ x11_170165_170167_170169.toInt by omega), (show x11_170165_170167_170169.toInt ≤ 60 by omega)⟩
    · have g19 : v5_170165_170167.toInt ≠ (0 : Int32).toInt := fun z => h_6 (Int32.toInt_inj.mp z)
      refine ok_nm2 (fun x7_170165_170167 ex7_170165_170167 => ?_)
      have l_1 : (1 : Int32).toInt = 1 := by decide
      have f20 : (a3_170134 + (1 : Int32)).toInt = a3_170134.toInt + (1 : Int32).toInt := iadd_toInt (by omega) (by omega)
      have qx7_170165_170167 : x7_170165_170167.toInt = (a3_170134 + 1).toInt := by rw [ex7_170165_170167]
      exact hrec_170134 _ x7_170165_170167 (show (60 + 1 - x7_170165_170167.toInt).toNat < n_170134 by omega) ⟨rfl, (show 0 ≤ x7_170165_170167.toInt by omega), (show x7_170165_170167.toInt ≤ 60 by omega)⟩
set_option maxRecDepth 20000 in
set_option maxHeartbeats 2000000 in
theorem o_fX10_sharedMany {σ : gS} (hIσ : IM σ) {p1 : Int32} (h0p1 : 0 ≤ p1.toInt) (h1p1 : p1.toInt ≤ 11) : Ok (fX10_sharedMany σ p1) (fun _ => True) := by
  unfold fX10_sharedMany
  have hfσ : Fr fr_fX10_sharedMany σ σ := Fr_r
  refine ok_nm2 (fun x1 ex1 => ?_)
  have l_0 : (0 : Int32).toInt = 0 := by decide
  have qx1 : x1.toInt = 0 := by rw [ex1]; decide
  refine ok_nm2 (fun x2 ex2 => ?_)
  have qx2 : x2.toInt = 0 := by rw [ex2]; decide
  refine ok_lpc (I := fun n s => n = (20 + 1 - s.2.toInt).toNat ∧ 0 ≤ s.2.toInt ∧ s.2.toInt ≤ 20) (fun rec4_170172r n_170172 s_170172 hs_170172 hrec_170172 => ?_) K9 _ _ ⟨rfl, (by (try dsimp only); omega), (by (try dsimp only); omega)⟩ (by unfold K9; (try dsimp only); omega)
  obtain ⟨a2_170172, a3_170172⟩ := s_170172
  obtain ⟨hn_170172, b0a3_170172, b1a3_170172⟩ := hs_170172
  dsimp only at hn_170172 b0a3_170172 b1a3_170172
  unfold bX10_sharedMany_4
  try dsimp only
  refine ok_bd.mpr ?_
  try unfold fX10_points
  have l_8 : (8 : Int32).toInt = 8 := by decide
  refine ok_gd.mpr ⟨gb_of (by omega) (by omega), ?_⟩
  refine ok_nm2 (fun v1_170193 ev1_170193 => ?_)
  have f1 : 0 ≤ (σ.1 15 (8 : Int32).toNatClampNeg).toInt ∧ (σ.1 15 (8 : Int32).toNatClampNeg).toInt ≤ 20 := hIσ 15 _
  have qv1_170193 : v1_170193.toInt = (σ.1 15 (8 : Int32).toNatClampNeg).toInt := by rw [ev1_170193]
  refine ok_some.mpr ?_
  refine ok_ite.mpr ⟨fun h_2 => ?_, fun h_2 => ?_⟩
  · have g3 : v1_170193.toInt ≤ a3_170172.toInt := Int32.le_iff_toInt_le.mp h_2
    refine ok_some.mpr ?_
    exact trivial
  · have g4 : ¬ v1_170193.toInt ≤ a3_170172.toInt := fun z => h_2 (Int32.le_iff_toInt_le.mpr z)
    refine ok_bd.mpr ((o_fX10_rowOf hIσ (by omega) (by omega)).mono (fun r7_170192_170194 ho_6 => ?_))
    obtain ⟨r0r7_170192_170194, r1r7_170192_170194⟩ := ho_6
    refine ok_ite.mpr ⟨fun h_7 => ?_, fun h_7 => ?_⟩
    · have l_m1 : (-1 : Int32).toInt = -1 := by decide
      have g8 : r7_170192_170194.toInt = (-1 : Int32).toInt := by rw [h_7]
      refine ok_nm2 (fun x9_170192_170194 ex9_170192_170194 => ?_)
      have l_1 : (1 : Int32).toInt = 1 := by decide
      have f9 : (a3_170172 + (1 : Int32)).toInt = a3_170172.toInt + (1 : Int32).toInt := iadd_toInt (by omega) (by omega)
      have qx9_170192_170194 : x9_170192_170194.toInt = (a3_170172 + 1).toInt := by rw [ex9_170192_170194]
      exact hrec_170172 _ (a2_170172, x9_170192_170194) (show (20 + 1 - x9_170192_170194.toInt).toNat < n_170172 by omega) ⟨rfl, (show 0 ≤ x9_170192_170194.toInt by omega), (show x9_170192_170194.toInt ≤ 20 by omega)⟩
    · have l_m1 : (-1 : Int32).toInt = -1 := by decide
      have g10 : r7_170192_170194.toInt ≠ (-1 : Int32).toInt := fun z => h_7 (Int32.toInt_inj.mp z)
      refine ok_bd.mpr ((o_fX10_startedRow hIσ ).mono (fun r11_170192_170194 ho_12 => ?_))
      obtain ⟨r0r11_170192_170194, r1r11_170192_170194⟩ := ho_12
      refine ok_ite.mpr ⟨fun h_13 => ?_, fun h_13 => ?_⟩
      · have g14 : r11_170192_170194.toInt = (-1 : Int32).toInt := by rw [h_13]
        refine ok_nm2 (fun x13_170192_170194 ex13_170192_170194 => ?_)
        have l_1 : (1 : Int32).toInt = 1 := by decide
        have f15 : (a3_170172 + (1 : Int32)).toInt = a3_170172.toInt + (1 : Int32).toInt := iadd_toInt (by omega) (by omega)
        have qx13_170192_170194 : x13_170192_170194.toInt = (a3_170172 + 1).toInt := by rw [ex13_170192_170194]
        exact hrec_170172 _ (a2_170172, x13_170192_170194) (show (20 + 1 - x13_170192_170194.toInt).toNat < n_170172 by omega) ⟨rfl, (show 0 ≤ x13_170192_170194.toInt by omega), (show x13_170192_170194.toInt ≤ 20 by omega)⟩
      · have g16 : r11_170192_170194.toInt ≠ (-1 : Int32).toInt := fun z => h_13 (Int32.toInt_inj.mp z)
        refine ok_nm2 (fun x14_170192_170194 ex14_170192_170194 => ?_)
        have l_1 : (1 : Int32).toInt = 1 := by decide
        refine ok_nm2 (fun x15_170192_170194 ex15_170192_170194 => ?_)
        have f17 : (a3_170172 + (1 : Int32)).toInt = a3_170172.toInt + (1 : Int32).toInt := iadd_toInt (by omega) (by omega)
        have qx15_170192_170194 : x15_170192_170194.toInt = (a3_170172 + 1).toInt := by rw [ex15_170192_170194]
        exact hrec_170172 _ (x14_170192_170194, x15_170192_170194) (show (20 + 1 - x15_170192_170194.toInt).toNat < n_170172 by omega) ⟨rfl, (show 0 ≤ x15_170192_170194.toInt by omega), (show x15_170192_170194.toInt ≤ 20 by omega)⟩
set_option maxRecDepth 20000 in
set_option maxHeartbeats 2000000 in
theorem o_fX10_nextStarted {σ : gS} (hIσ : IM σ)   : Ok (fX10_nextStarted σ ) (fun out => -1 ≤ out.toInt ∧ out.toInt ≤ 11) := by
  unfold fX10_nextStarted
  have hfσ : Fr fr_fX10_nextStarted σ σ := Fr_r
  refine ok_nm2 (fun x1 ex1 => ?_)
  have l_0 : (0 : Int32).toInt = 0 := by decide
  have qx1 : x1.toInt = 0 := by rw [ex1]; decide
  refine ok_lpc (I := fun n s => n = (12 + 1 - s.toInt).toNat ∧ 0 ≤ s.toInt ∧ s.toInt ≤ 12) (fun rec2_170195r n_170195 s_170195 hs_170195 hrec_170195 => ?_) K9 _ _ ⟨rfl, (by (try dsimp only); omega), (by (try dsimp only); omega)⟩ (by unfold K9; (try dsimp only); omega)
  obtain ⟨a1_170195, hq_170195⟩ : ∃ y, y = s_170195 := ⟨_, rfl⟩
  subst hq_170195
  obtain ⟨hn_170195, b0a1_170195, b1a1_170195⟩ := hs_170195
  skip
  unfold bX10_nextStarted_2
  try dsimp only
  refine ok_bd.mpr ?_
  try unfold fX10_pictures
  have l_7 : (7 : Int32).toInt = 7 := by decide
  refine ok_gd.mpr ⟨gb_of (by omega) (by omega), ?_⟩
  refine ok_nm2 (fun v1_170204 ev1_170204 => ?_)
  have f1 : 0 ≤ (σ.1 15 (7 : Int32).toNatClampNeg).toInt ∧ (σ.1 15 (7 : Int32).toNatClampNeg).toInt ≤ 12 := hIσ 15 _
  have qv1_170204 : v1_170204.toInt = (σ.1 15 (7 : Int32).toNatClampNeg).toInt := by rw [ev1_170204]
  refine ok_some.mpr ?_
  refine ok_ite.mpr ⟨fun h_2 => ?_, fun h_2 => ?_⟩
  · have g3 : v1_170204.toInt ≤ a1_170195.toInt := Int32.le_iff_toInt_le.mp h_2
    refine ok_some.mpr ?_
    have l_m1 : (-1 : Int32).toInt = -1 := by decide
    exact ⟨(show -1 ≤ (-1 : Int32).toInt by omega), (show (-1 : Int32).toInt ≤ 11 by omega)⟩
  · have g4 : ¬ v1_170204.toInt ≤ a1_170195.toInt := fun z => h_2 (Int32.le_iff_toInt_le.mpr z)
    refine ok_gd.mpr ⟨gb_of (by omega) (by omega), ?_⟩
    refine ok_nm2 (fun v5_170201_170205 ev5_170201_170205 => ?_)
    have f5 : 0 ≤ (σ.1 29 a1_170195.toNatClampNeg).toInt ∧ (σ.1 29 a1_170195.toNatClampNeg).toInt ≤ 1 := hIσ 29 _
    have qv5_170201_170205 : v5_170201_170205.toInt = (σ.1 29 a1_170195.toNatClampNeg).toInt := by rw [ev5_170201_170205]
    refine ok_ite.mpr ⟨fun h_6 => ?_, fun h_6 => ?_⟩
    · have g7 : v5_170201_170205.toInt = (0 : Int32).toInt := by rw [h_6]
      refine ok_bd.mpr ((o_fX10_sharedMany hIσ (by omega) (by omega)).mono (fun r9_170201_170205 ho_9 => ?_))
      have l_12 : (12 : Int32).toInt = 12 := by decide
      have f10 : ((12 : Int32) + a1_170195).toInt = (12 : Int32).toInt + a1_170195.toInt := iadd_toInt (by omega) (by omega)
      refine ok_gd.mpr ⟨gb_of (by omega) (by omega), ?_⟩
      refine ok_nm2 (fun v10_170201_170205 ev10_170201_170205 => ?_)
      have f11 : 0 ≤ (σ.1 17 (12 + a1_170195).toNatClampNeg).toInt ∧ (σ.1 17 (12 + a1_170195).toNatClampNeg).toInt ≤ 4 := hIσ 17 _
      have qv10_170201_170205 : v10_170201_170205.toInt = (σ.1 17 (12 + a1_170195).toNatClampNeg).toInt := by rw [ev10_170201_170205]
      refine ok_ite.mpr ⟨fun h_12 => ?_, fun h_12 => ?_⟩
      · have l_4 : (4 : Int32).toInt = 4 := by decide
        have g13 : v10_170201_170205.toInt = (4 : Int32).toInt := by rw [h_12]
        try unfold jX10_nextStarted_42
        refine ok_ite.mpr ⟨fun h_14 => ?_, fun h_14 => ?_⟩
        · have l_2 : (2 : Int32).toInt = 2 := by decide
          have g15 : r9_170201_170205.toInt < (2 : Int32).toInt := Int32.lt_iff_toInt_lt.mp h_14
          refine ok_nm2 (fun x13_170206 ex13_170206 => ?_)
          have l_1 : (1 : Int32).toInt = 1 := by decide
          have f16 : (a1_170195 + (1 : Int32)).toInt = a1_170195.toInt + (1 : Int32).toInt := iadd_toInt (by omega) (by omega)
          have qx13_170206 : x13_170206.toInt = (a1_170195 + 1).toInt := by rw [ex13_170206]
          exact hrec_170195 _ x13_170206 (show (12 + 1 - x13_170206.toInt).toNat < n_170195 by omega) ⟨rfl, (show 0 ≤ x13_170206.toInt by omega), (show x13_170206.toInt ≤ 12 by omega)⟩
        · have l_2 : (2 : Int32).toInt = 2 := by decide
          have g17 : ¬ r9_170201_170205.toInt < (2 : Int32).toInt := fun z => h_14 (Int32.lt_iff_toInt_lt.mpr z)
          refine ok_some.mpr ?_
          exact ⟨(show -1 ≤ a1_170195.toInt by omega), (show a1_170195.toInt ≤ 11 by omega)⟩
      · have l_4 : (4 : Int32).toInt = 4 := by decide
        have g18 : v10_170201_170205.toInt ≠ (4 : Int32).toInt := fun z => h_12 (Int32.toInt_inj.mp z)
        try unfold jX10_nextStarted_42
        refine ok_ite.mpr ⟨fun h_19 => ?_, fun h_19 => ?_⟩
        · have l_1 : (1 : Int32).toInt = 1 := by decide
          have g20 : r9_170201_170205.toInt < (1 : Int32).toInt := Int32.lt_iff_toInt_lt.mp h_19
          refine ok_nm2 (fun x13_170207 ex13_170207 => ?_)
          have f21 : (a1_170195 + (1 : Int32)).toInt = a1_170195.toInt + (1 : Int32).toInt := iadd_toInt (by omega) (by omega)
          have qx13_170207 : x13_170207.toInt = (a1_170195 + 1).toInt := by rw [ex13_170207]
          exact hrec_170195 _ x13_170207 (show (12 + 1 - x13_170207.toInt).toNat < n_170195 by omega) ⟨rfl, (show 0 ≤ x13_170207.toInt by omega), (show x13_170207.toInt ≤ 12 by omega)⟩
        · have l_1 : (1 : Int32).toInt = 1 := by decide
          have g22 : ¬ r9_170201_170205.toInt < (1 : Int32).toInt := fun z => h_19 (Int32.lt_iff_toInt_lt.mpr z)
          refine ok_some.mpr ?_
          exact ⟨(show -1 ≤ a1_170195.toInt by omega), (show a1_170195.toInt ≤ 11 by omega)⟩
    · have g23 : v5_170201_170205.toInt ≠ (0 : Int32).toInt := fun z => h_6 (Int32.toInt_inj.mp z)
      refine ok_nm2 (fun x7_170201_170205 ex7_170201_170205 => ?_)
      have l_1 : (1 : Int32).toInt = 1 := by decide
      have f24 : (a1_170195 + (1 : Int32)).toInt = a1_170195.toInt + (1 : Int32).toInt := iadd_toInt (by omega) (by omega)
      have qx7_170201_170205 : x7_170201_170205.toInt = (a1_170195 + 1).toInt := by rw [ex7_170201_170205]
      exact hrec_170195 _ x7_170201_170205 (show (12 + 1 - x7_170201_170205.toInt).toNat < n_170195 by omega) ⟨rfl, (show 0 ≤ x7_170201_170205.toInt by omega), (show x7_170201_170205.toInt ≤ 12 by omega)⟩
set_option maxRecDepth 20000 in
set_option maxHeartbeats 2000000 in
theorem o_fX10_unlike {σ : gS} (hIσ : IM σ) {p1 : Int32} {p2 : Int32} (h0p1 : 0 ≤ p1.toInt) (h1p1 : p1.toInt ≤ 11) (h0p2 : 0 ≤ p2.toInt) (h1p2 : p2.toInt ≤ 6) : Ok (fX10_unlike σ p1 p2) (fun _ => True) := by
  unfold fX10_unlike
  have hfσ : Fr fr_fX10_unlike σ σ := Fr_r
  refine ok_nm2 (fun x1 ex1 => ?_)
  have l_m1 : (-1 : Int32).toInt = -1 := by decide
  have qx1 : x1.toInt = (-1 : Int32).toInt := by rw [ex1]
  refine ok_nm2 (fun x2 ex2 => ?_)
  refine ok_nm2 (fun x3 ex3 => ?_)
  have l_0 : (0 : Int32).toInt = 0 := by decide
  have qx3 : x3.toInt = 0 := by rw [ex3]; decide
  refine ok_lpc (I := fun n s => n = (20 + 1 - s.2.2.toInt).toNat ∧ -1 ≤ s.1.toInt ∧ s.1.toInt ≤ 20 ∧ 0 ≤ s.2.2.toInt ∧ s.2.2.toInt ≤ 20) (fun rec8_170208r n_170208 s_170208 hs_170208 hrec_170208 => ?_) K9 _ _ ⟨rfl, (by (try dsimp only); omega), (by (try dsimp only); omega), (by (try dsimp only); omega), (by (try dsimp only); omega)⟩ (by unfold K9; (try dsimp only); omega)
  obtain ⟨a3_170208, a4_170208, a6_170208⟩ := s_170208
  obtain ⟨hn_170208, b0a3_170208, b1a3_170208, b0a6_170208, b1a6_170208⟩ := hs_170208
  dsimp only at hn_170208 b0a3_170208 b1a3_170208 b0a6_170208 b1a6_170208
  unfold bX10_unlike_8
  try dsimp only
  refine ok_bd.mpr ?_
  try unfold fX10_points
  have l_8 : (8 : Int32).toInt = 8 := by decide
  refine ok_gd.mpr ⟨gb_of (by omega) (by omega), ?_⟩
  refine ok_nm2 (fun v1_170273 ev1_170273 => ?_)
  have f1 : 0 ≤ (σ.1 15 (8 : Int32).toNatClampNeg).toInt ∧ (σ.1 15 (8 : Int32).toNatClampNeg).toInt ≤ 20 := hIσ 15 _
  have qv1_170273 : v1_170273.toInt = (σ.1 15 (8 : Int32).toNatClampNeg).toInt := by rw [ev1_170273]
  refine ok_some.mpr ?_
  refine ok_ite.mpr ⟨fun h_2 => ?_, fun h_2 => ?_⟩
  · have g3 : v1_170273.toInt ≤ a6_170208.toInt := Int32.le_iff_toInt_le.mp h_2
    refine ok_some.mpr ?_
    exact trivial
  · have g4 : ¬ v1_170273.toInt ≤ a6_170208.toInt := fun z => h_2 (Int32.le_iff_toInt_le.mpr z)
    refine ok_bd.mpr ((o_fX10_rowOf hIσ (by omega) (by omega)).mono (fun r8_170268_170274 ho_6 => ?_))
    obtain ⟨r0r8_170268_170274, r1r8_170268_170274⟩ := ho_6
    refine ok_nm2 (fun x9_170268_170274 ex9_170268_170274 => ?_)
    have qx9_170268_170274 : x9_170268_170274.toInt = r8_170268_170274.toInt := by rw [ex9_170268_170274]
    refine ok_bd.mpr ((o_fX10_startedRow hIσ ).mono (fun r11_170268_170274 ho_8 => ?_))
    obtain ⟨r0r11_170268_170274, r1r11_170268_170274⟩ := ho_8
    refine ok_nm2 (fun x12_170268_170274 ex12_170268_170274 => ?_)
    have qx12_170268_170274 : x12_170268_170274.toInt = r11_170268_170274.toInt := by rw [ex12_170268_170274]
    refine ok_ite.mpr ⟨fun h_9 => ?_, fun h_9 => ?_⟩
    · have g10 : x9_170268_170274.toInt = (-1 : Int32).toInt := by rw [h_9]
      refine ok_nm2 (fun x14_170268_170274 ex14_170268_170274 => ?_)
      have l_1 : (1 : Int32).toInt = 1 := by decide
      have f11 : (a6_170208 + (1 : Int32)).toInt = a6_170208.toInt + (1 : Int32).toInt := iadd_toInt (by omega) (by omega)
      have qx14_170268_170274 : x14_170268_170274.toInt = (a6_170208 + 1).toInt := by rw [ex14_170268_170274]
      exact hrec_170208 _ (a3_170208, a4_170208, x14_170268_170274) (show (20 + 1 - x14_170268_170274.toInt).toNat < n_170208 by omega) ⟨rfl, (show -1 ≤ a3_170208.toInt by omega), (show a3_170208.toInt ≤ 20 by omega), (show 0 ≤ x14_170268_170274.toInt by omega), (show x14_170268_170274.toInt ≤ 20 by omega)⟩
    · have g12 : x9_170268_170274.toInt ≠ (-1 : Int32).toInt := fun z => h_9 (Int32.toInt_inj.mp z)
      refine ok_ite.mpr ⟨fun h_13 => ?_, fun h_13 => ?_⟩
      · have g14 : x12_170268_170274.toInt = (-1 : Int32).toInt := by rw [h_13]
        refine ok_nm2 (fun x38_170268_170274 ex38_170268_170274 => ?_)
        have l_1 : (1 : Int32).toInt = 1 := by decide
        have f15 : (a6_170208 + (1 : Int32)).toInt = a6_170208.toInt + (1 : Int32).toInt := iadd_toInt (by omega) (by omega)
        have qx38_170268_170274 : x38_170268_170274.toInt = (a6_170208 + 1).toInt := by rw [ex38_170268_170274]
        exact hrec_170208 _ (a3_170208, a4_170208, x38_170268_170274) (show (20 + 1 - x38_170268_170274.toInt).toNat < n_170208 by omega) ⟨rfl, (show -1 ≤ a3_170208.toInt by omega), (show a3_170208.toInt ≤ 20 by omega), (show 0 ≤ x38_170268_170274.toInt by omega), (show x38_170268_170274.toInt ≤ 20 by omega)⟩
      · have g16 : x12_170268_170274.toInt ≠ (-1 : Int32).toInt := fun z => h_13 (Int32.toInt_inj.mp z)
        refine ok_ite.mpr ⟨fun h_17 => ?_, fun h_17 => ?_⟩
        · have g18 : a3_170208.toInt = (-1 : Int32).toInt := by rw [h_17]
          refine ok_nm2 (fun x36_170268_170274 ex36_170268_170274 => ?_)
          have qx36_170268_170274 : x36_170268_170274.toInt = a6_170208.toInt := by rw [ex36_170268_170274]
          refine ok_nm2 (fun x37_170268_170274 ex37_170268_170274 => ?_)
          have qx37_170268_170274 : x37_170268_170274.toInt = 0 := by rw [ex37_170268_170274]; decide
          refine ok_lpc (I := fun n s => n = (6 + 1 - s.2.toInt).toNat ∧ 0 ≤ s.2.toInt ∧ s.2.toInt ≤ 6) (fun rec60_170275r n_170275 s_170275 hs_170275 hrec_170275 => ?_) K9 _ _ ⟨rfl, (by (try dsimp only); omega), (by (try dsimp only); omega)⟩ (by unfold K9; (try dsimp only); omega)
          obtain ⟨a4_170275, a9_170275⟩ := s_170275
          obtain ⟨hn_170275, b0a9_170275, b1a9_170275⟩ := hs_170275
          dsimp only at hn_170275 b0a9_170275 b1a9_170275
          unfold bX10_unlike_60
          try dsimp only
          refine ok_ite.mpr ⟨fun h_19 => ?_, fun h_19 => ?_⟩
          · have l_2 : (2 : Int32).toInt = 2 := by decide
            have g20 : (2 : Int32).toInt ≤ a9_170275.toInt := Int32.le_iff_toInt_le.mp h_19
            refine ok_nm2 (fun x19_170280 ex19_170280 => ?_)
            have l_1 : (1 : Int32).toInt = 1 := by decide
            have f21 : (a6_170208 + (1 : Int32)).toInt = a6_170208.toInt + (1 : Int32).toInt := iadd_toInt (by omega) (by omega)
            have qx19_170280 : x19_170280.toInt = (a6_170208 + 1).toInt := by rw [ex19_170280]
            exact hrec_170208 _ (x36_170268_170274, a4_170275, x19_170280) (show (20 + 1 - x19_170280.toInt).toNat < n_170208 by omega) ⟨rfl, (show -1 ≤ x36_170268_170274.toInt by omega), (show x36_170268_170274.toInt ≤ 20 by omega), (show 0 ≤ x19_170280.toInt by omega), (show x19_170280.toInt ≤ 20 by omega)⟩
          · have l_2 : (2 : Int32).toInt = 2 := by decide
            have g22 : ¬ (2 : Int32).toInt ≤ a9_170275.toInt := fun z => h_19 (Int32.le_iff_toInt_le.mpr z)
            refine ok_bd.mpr ((o_fX10_turnedBy hIσ (by omega) (by omega) (by omega) (by omega) (by omega) (by omega)).mono (fun r21_170280 ho_24 => ?_))
            obtain ⟨r0r21_170280, r1r21_170280⟩ := ho_24
            refine ok_bd.mpr ((o_fX10_rowOf hIσ (by omega) (by omega)).mono (fun r23_170280 ho_26 => ?_))
            obtain ⟨r0r23_170280, r1r23_170280⟩ := ho_26
            refine ok_bd.mpr ((o_fX10_turnedBy hIσ (by omega) (by omega) (by omega) (by omega) (by omega) (by omega)).mono (fun r25_170280 ho_28 => ?_))
            obtain ⟨r0r25_170280, r1r25_170280⟩ := ho_28
            refine ok_bd.mpr ((o_fX10_put hIσ (by omega) (by omega) (by omega) (by omega)).mono (fun r27_170280 ho_30 => ?_))
            refine ok_bd.mpr ((o_fX10_startedRow hIσ ).mono (fun r29_170280 ho_32 => ?_))
            obtain ⟨r0r29_170280, r1r29_170280⟩ := ho_32
            refine ok_bd.mpr ((o_fX10_put hIσ (by omega) (by omega) (by omega) (by omega)).mono (fun r31_170280 ho_34 => ?_))
            refine ok_bd.mpr ?_
            try unfold fX10_apart
            refine ok_ite.mpr ⟨fun h_35 => ?_, fun h_35 => ?_⟩
            · have f36 : (r21_170280 - r25_170280).toInt = r21_170280.toInt - r25_170280.toInt := isub_toInt (by omega) (by omega)
              have t37 : (r21_170280 - r25_170280).toInt64.toInt = (r21_170280 - r25_170280).toInt := Int32.toInt_toInt64 _
              have t38 : (r27_170280 - r31_170280).toInt64.toInt = (r27_170280 - r31_170280).toInt := Int32.toInt_toInt64 _
              have g39 : (r21_170280 - r25_170280).toInt64.toInt ≤ (r27_170280 - r31_170280).toInt64.toInt := Int64.le_iff_toInt_le.mp h_35
              refine ok_some.mpr ?_
              refine ok_nm2 (fun x34_170280_170282 ex34_170280_170282 => ?_)
              refine ok_nm2 (fun x35_170280_170282 ex35_170280_170282 => ?_)
              have l_1 : (1 : Int32).toInt = 1 := by decide
              have f40 : (a9_170275 + (1 : Int32)).toInt = a9_170275.toInt + (1 : Int32).toInt := iadd_toInt (by omega) (by omega)
              have qx35_170280_170282 : x35_170280_170282.toInt = (a9_170275 + 1).toInt := by rw [ex35_170280_170282]
              exact hrec_170275 _ (x34_170280_170282, x35_170280_170282) (show (6 + 1 - x35_170280_170282.toInt).toNat < n_170275 by omega) ⟨rfl, (show 0 ≤ x35_170280_170282.toInt by omega), (show x35_170280_170282.toInt ≤ 6 by omega)⟩
            · have f41 : (r21_170280 - r25_170280).toInt = r21_170280.toInt - r25_170280.toInt := isub_toInt (by omega) (by omega)
              have t42 : (r21_170280 - r25_170280).toInt64.toInt = (r21_170280 - r25_170280).toInt := Int32.toInt_toInt64 _
              have t43 : (r27_170280 - r31_170280).toInt64.toInt = (r27_170280 - r31_170280).toInt := Int32.toInt_toInt64 _
              have g44 : ¬ (r21_170280 - r25_170280).toInt64.toInt ≤ (r27_170280 - r31_170280).toInt64.toInt := fun z => h_35 (Int64.le_iff_toInt_le.mpr z)
              refine ok_some.mpr ?_
              refine ok_nm2 (fun x34_170280_170283 ex34_170280_170283 => ?_)
              refine ok_nm2 (fun x35_170280_170283 ex35_170280_170283 => ?_)
              have l_1 : (1 : Int32).toInt = 1 := by decide
              have f45 : (a9_170275 + (1 : Int32)).toInt = a9_170275.toInt + (1 : Int32).toInt := iadd_toInt (by omega) (by omega)
              have qx35_170280_170283 : x35_170280_170283.toInt = (a9_170275 + 1).toInt := by rw [ex35_170280_170283]
              exact hrec_170275 _ (x34_170280_170283, x35_170280_170283) (show (6 + 1 - x35_170280_170283.toInt).toNat < n_170275 by omega) ⟨rfl, (show 0 ≤ x35_170280_170283.toInt by omega), (show x35_170280_170283.toInt ≤ 6 by omega)⟩
        · have g46 : a3_170208.toInt ≠ (-1 : Int32).toInt := fun z => h_17 (Int32.toInt_inj.mp z)
          refine ok_nm2 (fun x17_170268_170274 ex17_170268_170274 => ?_)
          have qx17_170268_170274 : x17_170268_170274.toInt = 0 := by rw [ex17_170268_170274]; decide
          refine ok_lpc (I := fun n s => n = (6 + 1 - s.2.toInt).toNat ∧ 0 ≤ s.2.toInt ∧ s.2.toInt ≤ 6) (fun rec60_170284r n_170284 s_170284 hs_170284 hrec_170284 => ?_) K9 _ _ ⟨rfl, (by (try dsimp only); omega), (by (try dsimp only); omega)⟩ (by unfold K9; (try dsimp only); omega)
          obtain ⟨a4_170284, a9_170284⟩ := s_170284
          obtain ⟨hn_170284, b0a9_170284, b1a9_170284⟩ := hs_170284
          dsimp only at hn_170284 b0a9_170284 b1a9_170284
          unfold bX10_unlike_60
          try dsimp only
          refine ok_ite.mpr ⟨fun h_47 => ?_, fun h_47 => ?_⟩
          · have l_2 : (2 : Int32).toInt = 2 := by decide
            have g48 : (2 : Int32).toInt ≤ a9_170284.toInt := Int32.le_iff_toInt_le.mp h_47
            refine ok_nm2 (fun x19_170289 ex19_170289 => ?_)
            have l_1 : (1 : Int32).toInt = 1 := by decide
            have f49 : (a6_170208 + (1 : Int32)).toInt = a6_170208.toInt + (1 : Int32).toInt := iadd_toInt (by omega) (by omega)
            have qx19_170289 : x19_170289.toInt = (a6_170208 + 1).toInt := by rw [ex19_170289]
            exact hrec_170208 _ (a3_170208, a4_170284, x19_170289) (show (20 + 1 - x19_170289.toInt).toNat < n_170208 by omega) ⟨rfl, (show -1 ≤ a3_170208.toInt by omega), (show a3_170208.toInt ≤ 20 by omega), (show 0 ≤ x19_170289.toInt by omega), (show x19_170289.toInt ≤ 20 by omega)⟩
          · have l_2 : (2 : Int32).toInt = 2 := by decide
            have g50 : ¬ (2 : Int32).toInt ≤ a9_170284.toInt := fun z => h_47 (Int32.le_iff_toInt_le.mpr z)
            refine ok_bd.mpr ((o_fX10_turnedBy hIσ (by omega) (by omega) (by omega) (by omega) (by omega) (by omega)).mono (fun r21_170289 ho_52 => ?_))
            obtain ⟨r0r21_170289, r1r21_170289⟩ := ho_52
            refine ok_bd.mpr ((o_fX10_rowOf hIσ (by omega) (by omega)).mono (fun r23_170289 ho_54 => ?_))
            obtain ⟨r0r23_170289, r1r23_170289⟩ := ho_54
            refine ok_bd.mpr ((o_fX10_turnedBy hIσ (by omega) (by omega) (by omega) (by omega) (by omega) (by omega)).mono (fun r25_170289 ho_56 => ?_))
            obtain ⟨r0r25_170289, r1r25_170289⟩ := ho_56
            refine ok_bd.mpr ((o_fX10_put hIσ (by omega) (by omega) (by omega) (by omega)).mono (fun r27_170289 ho_58 => ?_))
            refine ok_bd.mpr ((o_fX10_startedRow hIσ ).mono (fun r29_170289 ho_60 => ?_))
            obtain ⟨r0r29_170289, r1r29_170289⟩ := ho_60
            refine ok_bd.mpr ((o_fX10_put hIσ (by omega) (by omega) (by omega) (by omega)).mono (fun r31_170289 ho_62 => ?_))
            refine ok_bd.mpr ?_
            try unfold fX10_apart
            refine ok_ite.mpr ⟨fun h_63 => ?_, fun h_63 => ?_⟩
            · have f64 : (r21_170289 - r25_170289).toInt = r21_170289.toInt - r25_170289.toInt := isub_toInt (by omega) (by omega)
              have t65 : (r21_170289 - r25_170289).toInt64.toInt = (r21_170289 - r25_170289).toInt := Int32.toInt_toInt64 _
              have t66 : (r27_170289 - r31_170289).toInt64.toInt = (r27_170289 - r31_170289).toInt := Int32.toInt_toInt64 _
              have g67 : (r21_170289 - r25_170289).toInt64.toInt ≤ (r27_170289 - r31_170289).toInt64.toInt := Int64.le_iff_toInt_le.mp h_63
              refine ok_some.mpr ?_
              refine ok_nm2 (fun x34_170289_170291 ex34_170289_170291 => ?_)
              refine ok_nm2 (fun x35_170289_170291 ex35_170289_170291 => ?_)
              have l_1 : (1 : Int32).toInt = 1 := by decide
              have f68 : (a9_170284 + (1 : Int32)).toInt = a9_170284.toInt + (1 : Int32).toInt := iadd_toInt (by omega) (by omega)
              have qx35_170289_170291 : x35_170289_170291.toInt = (a9_170284 + 1).toInt := by rw [ex35_170289_170291]
              exact hrec_170284 _ (x34_170289_170291, x35_170289_170291) (show (6 + 1 - x35_170289_170291.toInt).toNat < n_170284 by omega) ⟨rfl, (show 0 ≤ x35_170289_170291.toInt by omega), (show x35_170289_170291.toInt ≤ 6 by omega)⟩
            · have f69 : (r21_170289 - r25_170289).toInt = r21_170289.toInt - r25_170289.toInt := isub_toInt (by omega) (by omega)
              have t70 : (r21_170289 - r25_170289).toInt64.toInt = (r21_170289 - r25_170289).toInt := Int32.toInt_toInt64 _
              have t71 : (r27_170289 - r31_170289).toInt64.toInt = (r27_170289 - r31_170289).toInt := Int32.toInt_toInt64 _
              have g72 : ¬ (r21_170289 - r25_170289).toInt64.toInt ≤ (r27_170289 - r31_170289).toInt64.toInt := fun z => h_63 (Int64.le_iff_toInt_le.mpr z)
              refine ok_some.mpr ?_
              refine ok_nm2 (fun x34_170289_170292 ex34_170289_170292 => ?_)
              refine ok_nm2 (fun x35_170289_170292 ex35_170289_170292 => ?_)
              have l_1 : (1 : Int32).toInt = 1 := by decide
              have f73 : (a9_170284 + (1 : Int32)).toInt = a9_170284.toInt + (1 : Int32).toInt := iadd_toInt (by omega) (by omega)
              have qx35_170289_170292 : x35_170289_170292.toInt = (a9_170284 + 1).toInt := by rw [ex35_170289_170292]
              exact hrec_170284 _ (x34_170289_170292, x35_170289_170292) (show (6 + 1 - x35_170289_170292.toInt).toNat < n_170284 by omega) ⟨rfl, (show 0 ≤ x35_170289_170292.toInt by omega), (show x35_170289_170292.toInt ≤ 6 by omega)⟩
set_option maxRecDepth 20000 in
set_option maxHeartbeats 2000000 in
theorem o_fX10_fail {σ : gS} (hIσ : IM σ) {p1 : Int32} {p2 : Int32} (h0p1 : 1 ≤ p1.toInt) (h1p1 : p1.toInt ≤ 4) (h0p2 : 0 ≤ p2.toInt) (h1p2 : p2.toInt ≤ 1600) : Ok (fX10_fail σ p1 p2) (fun out => IM out ∧ Fr fr_fX10_fail σ out) := by
  unfold fX10_fail
  have hfσ : Fr fr_fX10_fail σ σ := Fr_r
  refine ok_ite.mpr ⟨fun h_1 => ?_, fun h_1 => ?_⟩
  · have f2 : 0 ≤ (σ.1 0 5).toInt ∧ (σ.1 0 5).toInt ≤ 4 := hIσ 0 _
    have l_0 : (0 : Int32).toInt = 0 := by decide
    have g3 : (σ.1 0 5).toInt = (0 : Int32).toInt := by rw [h_1]
    refine ok_nm2 (fun σ2 eσ2 => ?_)
    have hIσ2 : IM σ2 := by rw [eσ2]; exact IM_w hIσ (show 0 ≤ _ by omega) (show _ ≤ 4 by omega)
    have hfσ2 : Fr fr_fX10_fail σ σ2 := by rw [eσ2]; exact Fr_w hfσ (by decide)
    have sσ2_0_5 : (σ2.1 0 5).toInt = p1.toInt := by rw [eσ2]; rfl
    refine ok_nm2 (fun σ3 eσ3 => ?_)
    have hIσ3 : IM σ3 := by rw [eσ3]; exact IM_w hIσ2 (show -1 ≤ _ by omega) (show _ ≤ 1600 by omega)
    have hfσ3 : Fr fr_fX10_fail σ σ3 := by rw [eσ3]; exact Fr_w hfσ2 (by decide)
    have sσ3_0_5 : (σ3.1 0 5).toInt = (σ2.1 0 5).toInt := by rw [eσ3]; rfl
    refine ok_some.mpr ?_
    exact ⟨hIσ3, hfσ3⟩
  · have f4 : 0 ≤ (σ.1 0 5).toInt ∧ (σ.1 0 5).toInt ≤ 4 := hIσ 0 _
    have l_0 : (0 : Int32).toInt = 0 := by decide
    have g5 : (σ.1 0 5).toInt ≠ (0 : Int32).toInt := fun z => h_1 (Int32.toInt_inj.mp z)
    refine ok_some.mpr ?_
    exact ⟨hIσ, hfσ⟩
set_option maxRecDepth 20000 in
set_option maxHeartbeats 2000000 in
theorem o_fX10_nameOf {σ : gS} (hIσ : IM σ) {p1 : Int32} {p2 : Int64} (h0p1 : 0 ≤ p1.toInt) (h1p1 : p1.toInt ≤ 2) : Ok (fX10_nameOf σ p1 p2) (fun out => -1 ≤ out.toInt ∧ out.toInt ≤ 19) := by
  unfold fX10_nameOf
  have hfσ : Fr fr_fX10_nameOf σ σ := Fr_r
  refine ok_nm2 (fun x1 ex1 => ?_)
  have l_0 : (0 : Int32).toInt = 0 := by decide
  have qx1 : x1.toInt = 0 := by rw [ex1]; decide
  refine ok_lpc (I := fun n s => n = (20 + 1 - s.toInt).toNat ∧ 0 ≤ s.toInt ∧ s.toInt ≤ 20) (fun rec3_170389r n_170389 s_170389 hs_170389 hrec_170389 => ?_) K9 _ _ ⟨rfl, (by (try dsimp only); omega), (by (try dsimp only); omega)⟩ (by unfold K9; (try dsimp only); omega)
  obtain ⟨a4_170389, hq_170389⟩ : ∃ y, y = s_170389 := ⟨_, rfl⟩
  subst hq_170389
  obtain ⟨hn_170389, b0a4_170389, b1a4_170389⟩ := hs_170389
  skip
  unfold bX10_nameOf_3
  try dsimp only
  refine ok_gd.mpr ⟨gb_of (by omega) (by omega), ?_⟩
  refine ok_nm2 (fun v2_170390 ev2_170390 => ?_)
  have f1 : 0 ≤ (σ.1 15 p1.toNatClampNeg).toInt ∧ (σ.1 15 p1.toNatClampNeg).toInt ≤ 20 := by
    have hz : p1.toNatClampNeg = p1.toInt.toNat := rfl
    have hb := hIσ 15 p1.toNatClampNeg
    have hj : p1.toNatClampNeg = 0 ∨ p1.toNatClampNeg = 1 ∨ p1.toNatClampNeg = 2 := by omega
    generalize p1.toNatClampNeg = j at hb hj ⊢
    rcases hj with rfl | rfl | rfl <;> exact ⟨Int.le_trans (by decide) hb.1, Int.le_trans hb.2 (by decide)⟩
  have qv2_170390 : v2_170390.toInt = (σ.1 15 p1.toNatClampNeg).toInt := by rw [ev2_170390]
  refine ok_ite.mpr ⟨fun h_2 => ?_, fun h_2 => ?_⟩
  · have g3 : v2_170390.toInt ≤ a4_170389.toInt := Int32.le_iff_toInt_le.mp h_2
    refine ok_some.mpr ?_
    have l_m1 : (-1 : Int32).toInt = -1 := by decide
    exact ⟨(show -1 ≤ (-1 : Int32).toInt by omega), (show (-1 : Int32).toInt ≤ 19 by omega)⟩
  · have g4 : ¬ v2_170390.toInt ≤ a4_170389.toInt := fun z => h_2 (Int32.le_iff_toInt_le.mpr z)
    have l_20 : (20 : Int32).toInt = 20 := by decide
    have f5 : ((20 : Int32) * p1).toInt = 20 * p1.toInt := imulc l_20 (by omega) (by omega)
    have f6 : ((20 * p1) + a4_170389).toInt = (20 * p1).toInt + a4_170389.toInt := iadd_toInt (by omega) (by omega)
    refine ok_gd.mpr ⟨gb_of (by omega) (by omega), ?_⟩
    refine ok_nm2 (fun v4_170390 ev4_170390 => ?_)
    refine ok_ite.mpr ⟨fun h_7 => ?_, fun h_7 => ?_⟩
    · refine ok_some.mpr ?_
      exact ⟨(show -1 ≤ a4_170389.toInt by omega), (show a4_170389.toInt ≤ 19 by omega)⟩
    · refine ok_nm2 (fun x6_170390 ex6_170390 => ?_)
      have l_1 : (1 : Int32).toInt = 1 := by decide
      have f8 : (a4_170389 + (1 : Int32)).toInt = a4_170389.toInt + (1 : Int32).toInt := iadd_toInt (by omega) (by omega)
      have qx6_170390 : x6_170390.toInt = (a4_170389 + 1).toInt := by rw [ex6_170390]
      exact hrec_170389 _ x6_170390 (show (20 + 1 - x6_170390.toInt).toNat < n_170389 by omega) ⟨rfl, (show 0 ≤ x6_170390.toInt by omega), (show x6_170390.toInt ≤ 20 by omega)⟩
set_option maxRecDepth 20000 in
set_option maxHeartbeats 2000000 in
theorem o_fX10_isFull {σ : gS} (hIσ : IM σ) {p1 : Int32} {p2 : Int32} {p3 : Int32} (h0p1 : 0 ≤ p1.toInt) (h1p1 : p1.toInt ≤ 4) (h0p2 : 6 ≤ p2.toInt) (h1p2 : p2.toInt ≤ 60) (h0p3 : 0 ≤ p3.toInt) (h1p3 : p3.toInt ≤ 1600) : Ok (fX10_isFull σ p1 p2 p3) (fun out => IM out.2 ∧ Fr fr_fX10_isFull σ out.2 ∧ 0 ≤ out.1.toInt ∧ out.1.toInt ≤ 1) := by
  unfold fX10_isFull
  have hfσ : Fr fr_fX10_isFull σ σ := Fr_r
  refine ok_ite.mpr ⟨fun h_1 => ?_, fun h_1 => ?_⟩
  · have f2 : 0 ≤ (σ.1 0 5).toInt ∧ (σ.1 0 5).toInt ≤ 4 := hIσ 0 _
    have l_0 : (0 : Int32).toInt = 0 := by decide
    have g3 : (σ.1 0 5).toInt = (0 : Int32).toInt := by rw [h_1]
    refine ok_gd.mpr ⟨gb_of (by omega) (by omega), ?_⟩
    refine ok_nm2 (fun v3 ev3 => ?_)
    refine ok_ite.mpr ⟨fun h_4 => ?_, fun h_4 => ?_⟩
    · have g5 : v3.toInt = p2.toInt := by rw [h_4]
      have l_4 : (4 : Int32).toInt = 4 := by decide
      refine ok_bd.mpr ((o_fX10_fail hIσ (by omega) (by omega) (by omega) (by omega)).mono (fun σ6 ho_7 => ?_))
      obtain ⟨hIσ6, hcσ6⟩ := ho_7
      have hfσ6 : Fr fr_fX10_isFull σ σ6 := Fr_c hfσ hcσ6 (by decide)
      try unfold jX10_isFull_23
      refine ok_ite.mpr ⟨fun h_8 => ?_, fun h_8 => ?_⟩
      · have f9 : 0 ≤ (σ6.1 0 5).toInt ∧ (σ6.1 0 5).toInt ≤ 4 := hIσ6 0 _
        have g10 : (σ6.1 0 5).toInt = (0 : Int32).toInt := by rw [h_8]
        refine ok_some.mpr ?_
        exact ⟨hIσ6, hfσ6, (show 0 ≤ (0 : Int32).toInt by omega), (show (0 : Int32).toInt ≤ 1 by omega)⟩
      · have f11 : 0 ≤ (σ6.1 0 5).toInt ∧ (σ6.1 0 5).toInt ≤ 4 := hIσ6 0 _
        have g12 : (σ6.1 0 5).toInt ≠ (0 : Int32).toInt := fun z => h_8 (Int32.toInt_inj.mp z)
        refine ok_some.mpr ?_
        have l_1 : (1 : Int32).toInt = 1 := by decide
        exact ⟨hIσ6, hfσ6, (show 0 ≤ (1 : Int32).toInt by omega), (show (1 : Int32).toInt ≤ 1 by omega)⟩
    · have g13 : v3.toInt ≠ p2.toInt := fun z => h_4 (Int32.toInt_inj.mp z)
      try unfold jX10_isFull_23
      refine ok_ite.mpr ⟨fun h_14 => ?_, fun h_14 => ?_⟩
      · have g15 : (σ.1 0 5).toInt = (0 : Int32).toInt := by rw [h_14]
        refine ok_some.mpr ?_
        exact ⟨hIσ, hfσ, (show 0 ≤ (0 : Int32).toInt by omega), (show (0 : Int32).toInt ≤ 1 by omega)⟩
      · have g16 : (σ.1 0 5).toInt ≠ (0 : Int32).toInt := fun z => h_14 (Int32.toInt_inj.mp z)
        exfalso; omega
  · have f17 : 0 ≤ (σ.1 0 5).toInt ∧ (σ.1 0 5).toInt ≤ 4 := hIσ 0 _
    have l_0 : (0 : Int32).toInt = 0 := by decide
    have g18 : (σ.1 0 5).toInt ≠ (0 : Int32).toInt := fun z => h_1 (Int32.toInt_inj.mp z)
    try unfold jX10_isFull_23
    refine ok_ite.mpr ⟨fun h_19 => ?_, fun h_19 => ?_⟩
    · have g20 : (σ.1 0 5).toInt = (0 : Int32).toInt := by rw [h_19]
      exfalso; omega
    · have g21 : (σ.1 0 5).toInt ≠ (0 : Int32).toInt := fun z => h_19 (Int32.toInt_inj.mp z)
      refine ok_some.mpr ?_
      have l_1 : (1 : Int32).toInt = 1 := by decide
      exact ⟨hIσ, hfσ, (show 0 ≤ (1 : Int32).toInt by omega), (show (1 : Int32).toInt ≤ 1 by omega)⟩
set_option maxRecDepth 20000 in
set_option maxHeartbeats 2000000 in
theorem o_fX10_fault {σ : gS} (hIσ : IM σ) {p1 : Int32}  : Ok (fX10_fault σ p1) (fun out => -1 ≤ out.toInt ∧ out.toInt ≤ 1600) := by
  unfold fX10_fault
  have hfσ : Fr fr_fX10_fault σ σ := Fr_r
  refine ok_ite.mpr ⟨fun h_1 => ?_, fun h_1 => ?_⟩
  · have l_0 : (0 : Int32).toInt = 0 := by decide
    have g2 : p1.toInt = (0 : Int32).toInt := by rw [h_1]
    refine ok_some.mpr ?_
    have f3 : 0 ≤ (σ.1 0 7).toInt ∧ (σ.1 0 7).toInt ≤ 4 := hIσ 0 _
    exact ⟨(show -1 ≤ (σ.1 0 7).toInt by omega), (show (σ.1 0 7).toInt ≤ 1600 by omega)⟩
  · have l_0 : (0 : Int32).toInt = 0 := by decide
    have g4 : p1.toInt ≠ (0 : Int32).toInt := fun z => h_1 (Int32.toInt_inj.mp z)
    refine ok_ite.mpr ⟨fun h_5 => ?_, fun h_5 => ?_⟩
    · have l_1 : (1 : Int32).toInt = 1 := by decide
      have g6 : p1.toInt = (1 : Int32).toInt := by rw [h_5]
      refine ok_some.mpr ?_
      have f7 : -1 ≤ (σ.1 0 8).toInt ∧ (σ.1 0 8).toInt ≤ 1600 := hIσ 0 _
      exact ⟨(show -1 ≤ (σ.1 0 8).toInt by omega), (show (σ.1 0 8).toInt ≤ 1600 by omega)⟩
    · have l_1 : (1 : Int32).toInt = 1 := by decide
      have g8 : p1.toInt ≠ (1 : Int32).toInt := fun z => h_5 (Int32.toInt_inj.mp z)
      refine ok_some.mpr ?_
      have l_m1 : (-1 : Int32).toInt = -1 := by decide
      exact ⟨(show -1 ≤ (-1 : Int32).toInt by omega), (show (-1 : Int32).toInt ≤ 1600 by omega)⟩
set_option maxRecDepth 20000 in
set_option maxHeartbeats 2000000 in
theorem o_fX10_dropped {σ : gS} (hIσ : IM σ)   : Ok (fX10_dropped σ ) (fun _ => True) := by
  unfold fX10_dropped
  have hfσ : Fr fr_fX10_dropped σ σ := Fr_r
  refine ok_nm2 (fun x1 ex1 => ?_)
  have l_0 : (0 : Int32).toInt = 0 := by decide
  have qx1 : x1.toInt = 0 := by rw [ex1]; decide
  refine ok_nm2 (fun x2 ex2 => ?_)
  have qx2 : x2.toInt = 0 := by rw [ex2]; decide
  refine ok_lpc (I := fun n s => n = (60 + 1 - s.2.toInt).toNat ∧ 0 ≤ s.2.toInt ∧ s.2.toInt ≤ 60) (fun rec4_170398r n_170398 s_170398 hs_170398 hrec_170398 => ?_) K9 _ _ ⟨rfl, (by (try dsimp only); omega), (by (try dsimp only); omega)⟩ (by unfold K9; (try dsimp only); omega)
  obtain ⟨a1_170398, a2_170398⟩ := s_170398
  obtain ⟨hn_170398, b0a2_170398, b1a2_170398⟩ := hs_170398
  dsimp only at hn_170398 b0a2_170398 b1a2_170398
  unfold bX10_dropped_4
  try dsimp only
  refine ok_bd.mpr ?_
  try unfold fX10_rows
  have l_9 : (9 : Int32).toInt = 9 := by decide
  refine ok_gd.mpr ⟨gb_of (by omega) (by omega), ?_⟩
  refine ok_nm2 (fun v1_170419 ev1_170419 => ?_)
  have f1 : 0 ≤ (σ.1 15 (9 : Int32).toNatClampNeg).toInt ∧ (σ.1 15 (9 : Int32).toNatClampNeg).toInt ≤ 60 := hIσ 15 _
  have qv1_170419 : v1_170419.toInt = (σ.1 15 (9 : Int32).toNatClampNeg).toInt := by rw [ev1_170419]
  refine ok_some.mpr ?_
  refine ok_ite.mpr ⟨fun h_2 => ?_, fun h_2 => ?_⟩
  · have g3 : v1_170419.toInt ≤ a2_170398.toInt := Int32.le_iff_toInt_le.mp h_2
    refine ok_some.mpr ?_
    exact trivial
  · have g4 : ¬ v1_170419.toInt ≤ a2_170398.toInt := fun z => h_2 (Int32.le_iff_toInt_le.mpr z)
    refine ok_gd.mpr ⟨gb_of (by omega) (by omega), ?_⟩
    refine ok_nm2 (fun v6_170418_170420 ev6_170418_170420 => ?_)
    have f5 : 0 ≤ (σ.1 26 a2_170398.toNatClampNeg).toInt ∧ (σ.1 26 a2_170398.toNatClampNeg).toInt ≤ 1 := hIσ 26 _
    have qv6_170418_170420 : v6_170418_170420.toInt = (σ.1 26 a2_170398.toNatClampNeg).toInt := by rw [ev6_170418_170420]
    refine ok_ite.mpr ⟨fun h_6 => ?_, fun h_6 => ?_⟩
    · have g7 : v6_170418_170420.toInt = (0 : Int32).toInt := by rw [h_6]
      refine ok_nm2 (fun x8_170418_170420 ex8_170418_170420 => ?_)
      have l_1 : (1 : Int32).toInt = 1 := by decide
      have f8 : (a2_170398 + (1 : Int32)).toInt = a2_170398.toInt + (1 : Int32).toInt := iadd_toInt (by omega) (by omega)
      have qx8_170418_170420 : x8_170418_170420.toInt = (a2_170398 + 1).toInt := by rw [ex8_170418_170420]
      exact hrec_170398 _ (a1_170398, x8_170418_170420) (show (60 + 1 - x8_170418_170420.toInt).toNat < n_170398 by omega) ⟨rfl, (show 0 ≤ x8_170418_170420.toInt by omega), (show x8_170418_170420.toInt ≤ 60 by omega)⟩
    · have g9 : v6_170418_170420.toInt ≠ (0 : Int32).toInt := fun z => h_6 (Int32.toInt_inj.mp z)
      refine ok_nm2 (fun x9_170418_170420 ex9_170418_170420 => ?_)
      have l_1 : (1 : Int32).toInt = 1 := by decide
      refine ok_nm2 (fun x10_170418_170420 ex10_170418_170420 => ?_)
      have f10 : (a2_170398 + (1 : Int32)).toInt = a2_170398.toInt + (1 : Int32).toInt := iadd_toInt (by omega) (by omega)
      have qx10_170418_170420 : x10_170418_170420.toInt = (a2_170398 + 1).toInt := by rw [ex10_170418_170420]
      exact hrec_170398 _ (x9_170418_170420, x10_170418_170420) (show (60 + 1 - x10_170418_170420.toInt).toNat < n_170398 by omega) ⟨rfl, (show 0 ≤ x10_170418_170420.toInt by omega), (show x10_170418_170420.toInt ≤ 60 by omega)⟩
set_option maxRecDepth 20000 in
set_option maxHeartbeats 2000000 in
theorem o_fX10_controls {σ : gS} (hIσ : IM σ)   : Ok (fX10_controls σ ) (fun _ => True) := by
  unfold fX10_controls
  have hfσ : Fr fr_fX10_controls σ σ := Fr_r
  refine ok_nm2 (fun x1 ex1 => ?_)
  have l_0 : (0 : Int32).toInt = 0 := by decide
  have qx1 : x1.toInt = 0 := by rw [ex1]; decide
  refine ok_nm2 (fun x2 ex2 => ?_)
  have qx2 : x2.toInt = 0 := by rw [ex2]; decide
  refine ok_lpc (I := fun n s => n = (20 + 1 - s.2.toInt).toNat ∧ 0 ≤ s.2.toInt ∧ s.2.toInt ≤ 20) (fun rec4_170421r n_170421 s_170421 hs_170421 hrec_170421 => ?_) K9 _ _ ⟨rfl, (by (try dsimp only); omega), (by (try dsimp only); omega)⟩ (by unfold K9; (try dsimp only); omega)
  obtain ⟨a1_170421, a2_170421⟩ := s_170421
  obtain ⟨hn_170421, b0a2_170421, b1a2_170421⟩ := hs_170421
  dsimp only at hn_170421 b0a2_170421 b1a2_170421
  unfold bX10_controls_4
  try dsimp only
  refine ok_bd.mpr ?_
  try unfold fX10_points
  have l_8 : (8 : Int32).toInt = 8 := by decide
  refine ok_gd.mpr ⟨gb_of (by omega) (by omega), ?_⟩
  refine ok_nm2 (fun v1_170461 ev1_170461 => ?_)
  have f1 : 0 ≤ (σ.1 15 (8 : Int32).toNatClampNeg).toInt ∧ (σ.1 15 (8 : Int32).toNatClampNeg).toInt ≤ 20 := hIσ 15 _
  have qv1_170461 : v1_170461.toInt = (σ.1 15 (8 : Int32).toNatClampNeg).toInt := by rw [ev1_170461]
  refine ok_some.mpr ?_
  refine ok_ite.mpr ⟨fun h_2 => ?_, fun h_2 => ?_⟩
  · have g3 : v1_170461.toInt ≤ a2_170421.toInt := Int32.le_iff_toInt_le.mp h_2
    refine ok_some.mpr ?_
    exact trivial
  · have g4 : ¬ v1_170461.toInt ≤ a2_170421.toInt := fun z => h_2 (Int32.le_iff_toInt_le.mpr z)
    refine ok_bd.mpr ?_
    try unfold fX10_isControl
    have l_20 : (20 : Int32).toInt = 20 := by decide
    have f5 : ((20 : Int32) + a2_170421).toInt = (20 : Int32).toInt + a2_170421.toInt := iadd_toInt (by omega) (by omega)
    refine ok_gd.mpr ⟨gb_of (by omega) (by omega), ?_⟩
    refine ok_nm2 (fun v1_170463 ev1_170463 => ?_)
    have f6 : 0 ≤ (σ.1 20 (20 + a2_170421).toNatClampNeg).toInt ∧ (σ.1 20 (20 + a2_170421).toNatClampNeg).toInt ≤ 2 := hIσ 20 _
    have qv1_170463 : v1_170463.toInt = (σ.1 20 (20 + a2_170421).toNatClampNeg).toInt := by rw [ev1_170463]
    refine ok_nm2 (fun x2_170463 ex2_170463 => ?_)
    have qx2_170463 : x2_170463.toInt = v1_170463.toInt := by rw [ex2_170463]
    refine ok_ite.mpr ⟨fun h_7 => ?_, fun h_7 => ?_⟩
    · have g8 : x2_170463.toInt = (0 : Int32).toInt := by rw [h_7]
      refine ok_some.mpr ?_
      refine ok_ite.mpr ⟨fun h_9 => ?_, fun h_9 => ?_⟩
      · have g10 : (0 : Int32).toInt = (0 : Int32).toInt := by rw [h_9]
        refine ok_nm2 (fun x9_170460_170462_170464 ex9_170460_170462_170464 => ?_)
        have l_1 : (1 : Int32).toInt = 1 := by decide
        have f11 : (a2_170421 + (1 : Int32)).toInt = a2_170421.toInt + (1 : Int32).toInt := iadd_toInt (by omega) (by omega)
        have qx9_170460_170462_170464 : x9_170460_170462_170464.toInt = (a2_170421 + 1).toInt := by rw [ex9_170460_170462_170464]
        exact hrec_170421 _ (a1_170421, x9_170460_170462_170464) (show (20 + 1 - x9_170460_170462_170464.toInt).toNat < n_170421 by omega) ⟨rfl, (show 0 ≤ x9_170460_170462_170464.toInt by omega), (show x9_170460_170462_170464.toInt ≤ 20 by omega)⟩
      · have g12 : (0 : Int32).toInt ≠ (0 : Int32).toInt := fun z => h_9 (Int32.toInt_inj.mp z)
        exfalso; omega
    · have g13 : x2_170463.toInt ≠ (0 : Int32).toInt := fun z => h_7 (Int32.toInt_inj.mp z)
      refine ok_ite.mpr ⟨fun h_14 => ?_, fun h_14 => ?_⟩
      · have l_1 : (1 : Int32).toInt = 1 := by decide
        have g15 : (((σ.1 0 36) >>> ((x2_170463 - 1) &&& 31)) &&& 1).toInt = (1 : Int32).toInt := by rw [h_14]
        refine ok_some.mpr ?_
        refine ok_ite.mpr ⟨fun h_16 => ?_, fun h_16 => ?_⟩
        · have g17 : (1 : Int32).toInt = (0 : Int32).toInt := by rw [h_16]
          exfalso; omega
        · have g18 : (1 : Int32).toInt ≠ (0 : Int32).toInt := fun z => h_16 (Int32.toInt_inj.mp z)
          refine ok_nm2 (fun x10_170460_170462_170465 ex10_170460_170462_170465 => ?_)
          refine ok_nm2 (fun x11_170460_170462_170465 ex11_170460_170462_170465 => ?_)
          have f19 : (a2_170421 + (1 : Int32)).toInt = a2_170421.toInt + (1 : Int32).toInt := iadd_toInt (by omega) (by omega)
          have qx11_170460_170462_170465 : x11_170460_170462_170465.toInt = (a2_170421 + 1).toInt := by rw [ex11_170460_170462_170465]
          exact hrec_170421 _ (x10_170460_170462_170465, x11_170460_170462_170465) (show (20 + 1 - x11_170460_170462_170465.toInt).toNat < n_170421 by omega) ⟨rfl, (show 0 ≤ x11_170460_170462_170465.toInt by omega), (show x11_170460_170462_170465.toInt ≤ 20 by omega)⟩
      · have l_1 : (1 : Int32).toInt = 1 := by decide
        have g20 : (((σ.1 0 36) >>> ((x2_170463 - 1) &&& 31)) &&& 1).toInt ≠ (1 : Int32).toInt := fun z => h_14 (Int32.toInt_inj.mp z)
        refine ok_some.mpr ?_
        refine ok_ite.mpr ⟨fun h_21 => ?_, fun h_21 => ?_⟩
        · have g22 : (0 : Int32).toInt = (0 : Int32).toInt := by rw [h_21]
          refine ok_nm2 (fun x9_170460_170462_170466 ex9_170460_170462_170466 => ?_)
          have f23 : (a2_170421 + (1 : Int32)).toInt = a2_170421.toInt + (1 : Int32).toInt := iadd_toInt (by omega) (by omega)
          have qx9_170460_170462_170466 : x9_170460_170462_170466.toInt = (a2_170421 + 1).toInt := by rw [ex9_170460_170462_170466]
          exact hrec_170421 _ (a1_170421, x9_170460_170462_170466) (show (20 + 1 - x9_170460_170462_170466.toInt).toNat < n_170421 by omega) ⟨rfl, (show 0 ≤ x9_170460_170462_170466.toInt by omega), (show x9_170460_170462_170466.toInt ≤ 20 by omega)⟩
        · have g24 : (0 : Int32).toInt ≠ (0 : Int32).toInt := fun z => h_21 (Int32.toInt_inj.mp z)
          exfalso; omega
set_option maxRecDepth 20000 in
set_option maxHeartbeats 2000000 in
theorem o_fX10_has {σ : gS} (hIσ : IM σ) {p1 : Int32}  : Ok (fX10_has σ p1) (fun _ => True) := by
  unfold fX10_has
  have hfσ : Fr fr_fX10_has σ σ := Fr_r
  refine ok_ite.mpr ⟨fun h_1 => ?_, fun h_1 => ?_⟩
  · have l_0 : (0 : Int32).toInt = 0 := by decide
    have g2 : p1.toInt = (0 : Int32).toInt := by rw [h_1]
    try unfold jX10_has_52
    have l_6 : (6 : Int32).toInt = 6 := by decide
    have f3 : ((6 : Int32) + p1).toInt = (6 : Int32).toInt + p1.toInt := iadd_toInt (by omega) (by omega)
    refine ok_gd.mpr ⟨gb_of (by omega) (by omega), ?_⟩
    refine ok_nm2 (fun v1_170467 ev1_170467 => ?_)
    have f4 : 0 ≤ (σ.1 15 (6 + p1).toNatClampNeg).toInt ∧ (σ.1 15 (6 + p1).toNatClampNeg).toInt ≤ 6 := by
      have hz : (6 + p1).toNatClampNeg = (6 + p1).toInt.toNat := rfl
      have hb := hIσ 15 (6 + p1).toNatClampNeg
      have hj : (6 + p1).toNatClampNeg = 6 := by omega
      generalize (6 + p1).toNatClampNeg = j at hb hj ⊢
      rcases hj with rfl <;> exact ⟨Int.le_trans (by decide) hb.1, Int.le_trans hb.2 (by decide)⟩
    have qv1_170467 : v1_170467.toInt = (σ.1 15 (6 + p1).toNatClampNeg).toInt := by rw [ev1_170467]
    refine ok_some.mpr ?_
    exact trivial
  · have l_0 : (0 : Int32).toInt = 0 := by decide
    have g5 : p1.toInt ≠ (0 : Int32).toInt := fun z => h_1 (Int32.toInt_inj.mp z)
    refine ok_ite.mpr ⟨fun h_6 => ?_, fun h_6 => ?_⟩
    · have l_1 : (1 : Int32).toInt = 1 := by decide
      have g7 : p1.toInt = (1 : Int32).toInt := by rw [h_6]
      try unfold jX10_has_52
      have l_6 : (6 : Int32).toInt = 6 := by decide
      have f8 : ((6 : Int32) + p1).toInt = (6 : Int32).toInt + p1.toInt := iadd_toInt (by omega) (by omega)
      refine ok_gd.mpr ⟨gb_of (by omega) (by omega), ?_⟩
      refine ok_nm2 (fun v1_170468 ev1_170468 => ?_)
      have f9 : 0 ≤ (σ.1 15 (6 + p1).toNatClampNeg).toInt ∧ (σ.1 15 (6 + p1).toNatClampNeg).toInt ≤ 12 := by
        have hz : (6 + p1).toNatClampNeg = (6 + p1).toInt.toNat := rfl
        have hb := hIσ 15 (6 + p1).toNatClampNeg
        have hj : (6 + p1).toNatClampNeg = 7 := by omega
        generalize (6 + p1).toNatClampNeg = j at hb hj ⊢
        rcases hj with rfl <;> exact ⟨Int.le_trans (by decide) hb.1, Int.le_trans hb.2 (by decide)⟩
      have qv1_170468 : v1_170468.toInt = (σ.1 15 (6 + p1).toNatClampNeg).toInt := by rw [ev1_170468]
      refine ok_some.mpr ?_
      exact trivial
    · have l_1 : (1 : Int32).toInt = 1 := by decide
      have g10 : p1.toInt ≠ (1 : Int32).toInt := fun z => h_6 (Int32.toInt_inj.mp z)
      refine ok_ite.mpr ⟨fun h_11 => ?_, fun h_11 => ?_⟩
      · have l_2 : (2 : Int32).toInt = 2 := by decide
        have g12 : p1.toInt = (2 : Int32).toInt := by rw [h_11]
        try unfold jX10_has_52
        have l_6 : (6 : Int32).toInt = 6 := by decide
        have f13 : ((6 : Int32) + p1).toInt = (6 : Int32).toInt + p1.toInt := iadd_toInt (by omega) (by omega)
        refine ok_gd.mpr ⟨gb_of (by omega) (by omega), ?_⟩
        refine ok_nm2 (fun v1_170469 ev1_170469 => ?_)
        have f14 : 0 ≤ (σ.1 15 (6 + p1).toNatClampNeg).toInt ∧ (σ.1 15 (6 + p1).toNatClampNeg).toInt ≤ 20 := by
          have hz : (6 + p1).toNatClampNeg = (6 + p1).toInt.toNat := rfl
          have hb := hIσ 15 (6 + p1).toNatClampNeg
          have hj : (6 + p1).toNatClampNeg = 8 := by omega
          generalize (6 + p1).toNatClampNeg = j at hb hj ⊢
          rcases hj with rfl <;> exact ⟨Int.le_trans (by decide) hb.1, Int.le_trans hb.2 (by decide)⟩
        have qv1_170469 : v1_170469.toInt = (σ.1 15 (6 + p1).toNatClampNeg).toInt := by rw [ev1_170469]
        refine ok_some.mpr ?_
        exact trivial
      · have l_2 : (2 : Int32).toInt = 2 := by decide
        have g15 : p1.toInt ≠ (2 : Int32).toInt := fun z => h_11 (Int32.toInt_inj.mp z)
        refine ok_ite.mpr ⟨fun h_16 => ?_, fun h_16 => ?_⟩
        · have l_3 : (3 : Int32).toInt = 3 := by decide
          have g17 : p1.toInt = (3 : Int32).toInt := by rw [h_16]
          try unfold jX10_has_52
          have l_6 : (6 : Int32).toInt = 6 := by decide
          have f18 : ((6 : Int32) + p1).toInt = (6 : Int32).toInt + p1.toInt := iadd_toInt (by omega) (by omega)
          refine ok_gd.mpr ⟨gb_of (by omega) (by omega), ?_⟩
          refine ok_nm2 (fun v1_170470 ev1_170470 => ?_)
          have f19 : 0 ≤ (σ.1 15 (6 + p1).toNatClampNeg).toInt ∧ (σ.1 15 (6 + p1).toNatClampNeg).toInt ≤ 60 := by
            have hz : (6 + p1).toNatClampNeg = (6 + p1).toInt.toNat := rfl
            have hb := hIσ 15 (6 + p1).toNatClampNeg
            have hj : (6 + p1).toNatClampNeg = 9 := by omega
            generalize (6 + p1).toNatClampNeg = j at hb hj ⊢
            rcases hj with rfl <;> exact ⟨Int.le_trans (by decide) hb.1, Int.le_trans hb.2 (by decide)⟩
          have qv1_170470 : v1_170470.toInt = (σ.1 15 (6 + p1).toNatClampNeg).toInt := by rw [ev1_170470]
          refine ok_some.mpr ?_
          exact trivial
        · have l_3 : (3 : Int32).toInt = 3 := by decide
          have g20 : p1.toInt ≠ (3 : Int32).toInt := fun z => h_16 (Int32.toInt_inj.mp z)
          refine ok_ite.mpr ⟨fun h_21 => ?_, fun h_21 => ?_⟩
          · have l_4 : (4 : Int32).toInt = 4 := by decide
            have g22 : p1.toInt = (4 : Int32).toInt := by rw [h_21]
            try unfold jX10_has_52
            have l_6 : (6 : Int32).toInt = 6 := by decide
            have f23 : ((6 : Int32) + p1).toInt = (6 : Int32).toInt + p1.toInt := iadd_toInt (by omega) (by omega)
            refine ok_gd.mpr ⟨gb_of (by omega) (by omega), ?_⟩
            refine ok_nm2 (fun v1_170471 ev1_170471 => ?_)
            refine ok_some.mpr ?_
            exact trivial
          · have l_4 : (4 : Int32).toInt = 4 := by decide
            have g24 : p1.toInt ≠ (4 : Int32).toInt := fun z => h_21 (Int32.toInt_inj.mp z)
            refine ok_ite.mpr ⟨fun h_25 => ?_, fun h_25 => ?_⟩
            · have l_5 : (5 : Int32).toInt = 5 := by decide
              have g26 : p1.toInt = (5 : Int32).toInt := by rw [h_25]
              try unfold jX10_has_52
              have l_6 : (6 : Int32).toInt = 6 := by decide
              have f27 : ((6 : Int32) + p1).toInt = (6 : Int32).toInt + p1.toInt := iadd_toInt (by omega) (by omega)
              refine ok_gd.mpr ⟨gb_of (by omega) (by omega), ?_⟩
              refine ok_nm2 (fun v1_170472 ev1_170472 => ?_)
              refine ok_some.mpr ?_
              exact trivial
            · have l_5 : (5 : Int32).toInt = 5 := by decide
              have g28 : p1.toInt ≠ (5 : Int32).toInt := fun z => h_25 (Int32.toInt_inj.mp z)
              refine ok_ite.mpr ⟨fun h_29 => ?_, fun h_29 => ?_⟩
              · have l_6 : (6 : Int32).toInt = 6 := by decide
                have g30 : p1.toInt = (6 : Int32).toInt := by rw [h_29]
                refine ok_bd.mpr ((o_fX10_dropped hIσ ).mono (fun r9 ho_32 => ?_))
                refine ok_some.mpr ?_
                exact trivial
              · have l_6 : (6 : Int32).toInt = 6 := by decide
                have g33 : p1.toInt ≠ (6 : Int32).toInt := fun z => h_29 (Int32.toInt_inj.mp z)
                refine ok_ite.mpr ⟨fun h_34 => ?_, fun h_34 => ?_⟩
                · have l_7 : (7 : Int32).toInt = 7 := by decide
                  have g35 : p1.toInt = (7 : Int32).toInt := by rw [h_34]
                  refine ok_some.mpr ?_
                  exact trivial
                · have l_7 : (7 : Int32).toInt = 7 := by decide
                  have g36 : p1.toInt ≠ (7 : Int32).toInt := fun z => h_34 (Int32.toInt_inj.mp z)
                  refine ok_ite.mpr ⟨fun h_37 => ?_, fun h_37 => ?_⟩
                  · have l_8 : (8 : Int32).toInt = 8 := by decide
                    have g38 : p1.toInt = (8 : Int32).toInt := by rw [h_37]
                    refine ok_bd.mpr ((o_fX10_controls hIσ ).mono (fun r13 ho_40 => ?_))
                    refine ok_some.mpr ?_
                    exact trivial
                  · have l_8 : (8 : Int32).toInt = 8 := by decide
                    have g41 : p1.toInt ≠ (8 : Int32).toInt := fun z => h_37 (Int32.toInt_inj.mp z)
                    refine ok_some.mpr ?_
                    exact trivial
set_option maxRecDepth 20000 in
set_option maxHeartbeats 2000000 in
theorem o_fX10_rowsOf {σ : gS} (hIσ : IM σ) {p1 : Int32} {p2 : Int32} (h0p1 : -1 ≤ p1.toInt) (h1p1 : p1.toInt ≤ 11) (h0p2 : -1 ≤ p2.toInt) (h1p2 : p2.toInt ≤ 19) : Ok (fX10_rowsOf σ p1 p2) (fun _ => True) := by
  unfold fX10_rowsOf
  have hfσ : Fr fr_fX10_rowsOf σ σ := Fr_r
  refine ok_nm2 (fun x1 ex1 => ?_)
  have l_0 : (0 : Int32).toInt = 0 := by decide
  have qx1 : x1.toInt = 0 := by rw [ex1]; decide
  refine ok_nm2 (fun x2 ex2 => ?_)
  have qx2 : x2.toInt = 0 := by rw [ex2]; decide
  refine ok_lpc (I := fun n s => n = (60 + 1 - s.2.toInt).toNat ∧ 0 ≤ s.2.toInt ∧ s.2.toInt ≤ 60) (fun rec5_170487r n_170487 s_170487 hs_170487 hrec_170487 => ?_) K9 _ _ ⟨rfl, (by (try dsimp only); omega), (by (try dsimp only); omega)⟩ (by unfold K9; (try dsimp only); omega)
  obtain ⟨a3_170487, a4_170487⟩ := s_170487
  obtain ⟨hn_170487, b0a4_170487, b1a4_170487⟩ := hs_170487
  dsimp only at hn_170487 b0a4_170487 b1a4_170487
  unfold bX10_rowsOf_5
  try dsimp only
  refine ok_bd.mpr ?_
  try unfold fX10_rows
  have l_9 : (9 : Int32).toInt = 9 := by decide
  refine ok_gd.mpr ⟨gb_of (by omega) (by omega), ?_⟩
  refine ok_nm2 (fun v1_170567 ev1_170567 => ?_)
  have f1 : 0 ≤ (σ.1 15 (9 : Int32).toNatClampNeg).toInt ∧ (σ.1 15 (9 : Int32).toNatClampNeg).toInt ≤ 60 := hIσ 15 _
  have qv1_170567 : v1_170567.toInt = (σ.1 15 (9 : Int32).toNatClampNeg).toInt := by rw [ev1_170567]
  refine ok_some.mpr ?_
  refine ok_ite.mpr ⟨fun h_2 => ?_, fun h_2 => ?_⟩
  · have g3 : v1_170567.toInt ≤ a4_170487.toInt := Int32.le_iff_toInt_le.mp h_2
    refine ok_some.mpr ?_
    exact trivial
  · have g4 : ¬ v1_170567.toInt ≤ a4_170487.toInt := fun z => h_2 (Int32.le_iff_toInt_le.mpr z)
    refine ok_gd.mpr ⟨gb_of (by omega) (by omega), ?_⟩
    refine ok_nm2 (fun v6_170564_170568 ev6_170564_170568 => ?_)
    have f5 : 0 ≤ (σ.1 26 a4_170487.toNatClampNeg).toInt ∧ (σ.1 26 a4_170487.toNatClampNeg).toInt ≤ 1 := hIσ 26 _
    have qv6_170564_170568 : v6_170564_170568.toInt = (σ.1 26 a4_170487.toNatClampNeg).toInt := by rw [ev6_170564_170568]
    refine ok_ite.mpr ⟨fun h_6 => ?_, fun h_6 => ?_⟩
    · have g7 : v6_170564_170568.toInt = (0 : Int32).toInt := by rw [h_6]
      refine ok_ite.mpr ⟨fun h_8 => ?_, fun h_8 => ?_⟩
      · have l_m1 : (-1 : Int32).toInt = -1 := by decide
        have g9 : p1.toInt = (-1 : Int32).toInt := by rw [h_8]
        try unfold jX10_rowsOf_39
        refine ok_ite.mpr ⟨fun h_10 => ?_, fun h_10 => ?_⟩
        · have g11 : p2.toInt = (-1 : Int32).toInt := by rw [h_10]
          refine ok_nm2 (fun x11_170569 ex11_170569 => ?_)
          have l_1 : (1 : Int32).toInt = 1 := by decide
          refine ok_nm2 (fun x12_170569 ex12_170569 => ?_)
          have f12 : (a4_170487 + (1 : Int32)).toInt = a4_170487.toInt + (1 : Int32).toInt := iadd_toInt (by omega) (by omega)
          have qx12_170569 : x12_170569.toInt = (a4_170487 + 1).toInt := by rw [ex12_170569]
          exact hrec_170487 _ (x11_170569, x12_170569) (show (60 + 1 - x12_170569.toInt).toNat < n_170487 by omega) ⟨rfl, (show 0 ≤ x12_170569.toInt by omega), (show x12_170569.toInt ≤ 60 by omega)⟩
        · have g13 : p2.toInt ≠ (-1 : Int32).toInt := fun z => h_10 (Int32.toInt_inj.mp z)
          refine ok_bd.mpr ?_
          try unfold fX10_pointOf
          have l_60 : (60 : Int32).toInt = 60 := by decide
          have f14 : ((60 : Int32) + a4_170487).toInt = (60 : Int32).toInt + a4_170487.toInt := iadd_toInt (by omega) (by omega)
          refine ok_gd.mpr ⟨gb_of (by omega) (by omega), ?_⟩
          refine ok_nm2 (fun v1_170570 ev1_170570 => ?_)
          have f15 : 0 ≤ (σ.1 23 (60 + a4_170487).toNatClampNeg).toInt ∧ (σ.1 23 (60 + a4_170487).toNatClampNeg).toInt ≤ 19 := hIσ 23 _
          have qv1_170570 : v1_170570.toInt = (σ.1 23 (60 + a4_170487).toNatClampNeg).toInt := by rw [ev1_170570]
          refine ok_some.mpr ?_
          refine ok_ite.mpr ⟨fun h_16 => ?_, fun h_16 => ?_⟩
          · have g17 : v1_170570.toInt = p2.toInt := by rw [h_16]
            refine ok_nm2 (fun x17_170569_170571 ex17_170569_170571 => ?_)
            have l_1 : (1 : Int32).toInt = 1 := by decide
            refine ok_nm2 (fun x18_170569_170571 ex18_170569_170571 => ?_)
            have f18 : (a4_170487 + (1 : Int32)).toInt = a4_170487.toInt + (1 : Int32).toInt := iadd_toInt (by omega) (by omega)
            have qx18_170569_170571 : x18_170569_170571.toInt = (a4_170487 + 1).toInt := by rw [ex18_170569_170571]
            exact hrec_170487 _ (x17_170569_170571, x18_170569_170571) (show (60 + 1 - x18_170569_170571.toInt).toNat < n_170487 by omega) ⟨rfl, (show 0 ≤ x18_170569_170571.toInt by omega), (show x18_170569_170571.toInt ≤ 60 by omega)⟩
          · have g19 : v1_170570.toInt ≠ p2.toInt := fun z => h_16 (Int32.toInt_inj.mp z)
            refine ok_nm2 (fun x16_170569_170571 ex16_170569_170571 => ?_)
            have l_1 : (1 : Int32).toInt = 1 := by decide
            have f20 : (a4_170487 + (1 : Int32)).toInt = a4_170487.toInt + (1 : Int32).toInt := iadd_toInt (by omega) (by omega)
            have qx16_170569_170571 : x16_170569_170571.toInt = (a4_170487 + 1).toInt := by rw [ex16_170569_170571]
            exact hrec_170487 _ (a3_170487, x16_170569_170571) (show (60 + 1 - x16_170569_170571.toInt).toNat < n_170487 by omega) ⟨rfl, (show 0 ≤ x16_170569_170571.toInt by omega), (show x16_170569_170571.toInt ≤ 60 by omega)⟩
      · have l_m1 : (-1 : Int32).toInt = -1 := by decide
        have g21 : p1.toInt ≠ (-1 : Int32).toInt := fun z => h_8 (Int32.toInt_inj.mp z)
        refine ok_bd.mpr ?_
        try unfold fX10_pictureOf
        have l_60 : (60 : Int32).toInt = 60 := by decide
        have f22 : ((60 : Int32) + a4_170487).toInt = (60 : Int32).toInt + a4_170487.toInt := iadd_toInt (by omega) (by omega)
        refine ok_gd.mpr ⟨gb_of (by omega) (by omega), ?_⟩
        refine ok_nm2 (fun v1_170572 ev1_170572 => ?_)
        have f23 : 0 ≤ (σ.1 22 (60 + a4_170487).toNatClampNeg).toInt ∧ (σ.1 22 (60 + a4_170487).toNatClampNeg).toInt ≤ 11 := hIσ 22 _
        have qv1_170572 : v1_170572.toInt = (σ.1 22 (60 + a4_170487).toNatClampNeg).toInt := by rw [ev1_170572]
        refine ok_some.mpr ?_
        refine ok_ite.mpr ⟨fun h_24 => ?_, fun h_24 => ?_⟩
        · have g25 : v1_170572.toInt = p1.toInt := by rw [h_24]
          try unfold jX10_rowsOf_39
          refine ok_ite.mpr ⟨fun h_26 => ?_, fun h_26 => ?_⟩
          · have g27 : p2.toInt = (-1 : Int32).toInt := by rw [h_26]
            refine ok_nm2 (fun x11_170574 ex11_170574 => ?_)
            have l_1 : (1 : Int32).toInt = 1 := by decide
            refine ok_nm2 (fun x12_170574 ex12_170574 => ?_)
            have f28 : (a4_170487 + (1 : Int32)).toInt = a4_170487.toInt + (1 : Int32).toInt := iadd_toInt (by omega) (by omega)
            have qx12_170574 : x12_170574.toInt = (a4_170487 + 1).toInt := by rw [ex12_170574]
            exact hrec_170487 _ (x11_170574, x12_170574) (show (60 + 1 - x12_170574.toInt).toNat < n_170487 by omega) ⟨rfl, (show 0 ≤ x12_170574.toInt by omega), (show x12_170574.toInt ≤ 60 by omega)⟩
          · have g29 : p2.toInt ≠ (-1 : Int32).toInt := fun z => h_26 (Int32.toInt_inj.mp z)
            refine ok_bd.mpr ?_
            try unfold fX10_pointOf
            refine ok_gd.mpr ⟨gb_of (by omega) (by omega), ?_⟩
            refine ok_nm2 (fun v1_170575 ev1_170575 => ?_)
            have f30 : 0 ≤ (σ.1 23 (60 + a4_170487).toNatClampNeg).toInt ∧ (σ.1 23 (60 + a4_170487).toNatClampNeg).toInt ≤ 19 := hIσ 23 _
            have qv1_170575 : v1_170575.toInt = (σ.1 23 (60 + a4_170487).toNatClampNeg).toInt := by rw [ev1_170575]
            refine ok_some.mpr ?_
            refine ok_ite.mpr ⟨fun h_31 => ?_, fun h_31 => ?_⟩
            · have g32 : v1_170575.toInt = p2.toInt := by rw [h_31]
              refine ok_nm2 (fun x17_170574_170576 ex17_170574_170576 => ?_)
              have l_1 : (1 : Int32).toInt = 1 := by decide
              refine ok_nm2 (fun x18_170574_170576 ex18_170574_170576 => ?_)
              have f33 : (a4_170487 + (1 : Int32)).toInt = a4_170487.toInt + (1 : Int32).toInt := iadd_toInt (by omega) (by omega)
              have qx18_170574_170576 : x18_170574_170576.toInt = (a4_170487 + 1).toInt := by rw [ex18_170574_170576]
              exact hrec_170487 _ (x17_170574_170576, x18_170574_170576) (show (60 + 1 - x18_170574_170576.toInt).toNat < n_170487 by omega) ⟨rfl, (show 0 ≤ x18_170574_170576.toInt by omega), (show x18_170574_170576.toInt ≤ 60 by omega)⟩
            · have g34 : v1_170575.toInt ≠ p2.toInt := fun z => h_31 (Int32.toInt_inj.mp z)
              refine ok_nm2 (fun x16_170574_170576 ex16_170574_170576 => ?_)
              have l_1 : (1 : Int32).toInt = 1 := by decide
              have f35 : (a4_170487 + (1 : Int32)).toInt = a4_170487.toInt + (1 : Int32).toInt := iadd_toInt (by omega) (by omega)
              have qx16_170574_170576 : x16_170574_170576.toInt = (a4_170487 + 1).toInt := by rw [ex16_170574_170576]
              exact hrec_170487 _ (a3_170487, x16_170574_170576) (show (60 + 1 - x16_170574_170576.toInt).toNat < n_170487 by omega) ⟨rfl, (show 0 ≤ x16_170574_170576.toInt by omega), (show x16_170574_170576.toInt ≤ 60 by omega)⟩
        · have g36 : v1_170572.toInt ≠ p1.toInt := fun z => h_24 (Int32.toInt_inj.mp z)
          refine ok_nm2 (fun x22_170564_170568_170573 ex22_170564_170568_170573 => ?_)
          have l_1 : (1 : Int32).toInt = 1 := by decide
          have f37 : (a4_170487 + (1 : Int32)).toInt = a4_170487.toInt + (1 : Int32).toInt := iadd_toInt (by omega) (by omega)
          have qx22_170564_170568_170573 : x22_170564_170568_170573.toInt = (a4_170487 + 1).toInt := by rw [ex22_170564_170568_170573]
          exact hrec_170487 _ (a3_170487, x22_170564_170568_170573) (show (60 + 1 - x22_170564_170568_170573.toInt).toNat < n_170487 by omega) ⟨rfl, (show 0 ≤ x22_170564_170568_170573.toInt by omega), (show x22_170564_170568_170573.toInt ≤ 60 by omega)⟩
    · have g38 : v6_170564_170568.toInt ≠ (0 : Int32).toInt := fun z => h_6 (Int32.toInt_inj.mp z)
      refine ok_nm2 (fun x8_170564_170568 ex8_170564_170568 => ?_)
      have l_1 : (1 : Int32).toInt = 1 := by decide
      have f39 : (a4_170487 + (1 : Int32)).toInt = a4_170487.toInt + (1 : Int32).toInt := iadd_toInt (by omega) (by omega)
      have qx8_170564_170568 : x8_170564_170568.toInt = (a4_170487 + 1).toInt := by rw [ex8_170564_170568]
      exact hrec_170487 _ (a3_170487, x8_170564_170568) (show (60 + 1 - x8_170564_170568.toInt).toNat < n_170487 by omega) ⟨rfl, (show 0 ≤ x8_170564_170568.toInt by omega), (show x8_170564_170568.toInt ≤ 60 by omega)⟩
set_option maxRecDepth 20000 in
set_option maxHeartbeats 2000000 in
theorem o_fX10_joins {σ : gS} (hIσ : IM σ) {p1 : Int32} {p2 : Int32} (h0p1 : 0 ≤ p1.toInt) (h1p1 : p1.toInt ≤ 11) (h0p2 : 0 ≤ p2.toInt) (h1p2 : p2.toInt ≤ 31) : Ok (fX10_joins σ p1 p2) (fun out => IM out.2 ∧ Fr fr_fX10_joins σ out.2 ∧ 0 ≤ out.1.toInt ∧ out.1.toInt ≤ 1) := by
  unfold fX10_joins
  have hfσ : Fr fr_fX10_joins σ σ := Fr_r
  refine ok_gd.mpr ⟨gb_of (by omega) (by omega), ?_⟩
  refine ok_nm2 (fun v1 ev1 => ?_)
  have f1 : 0 ≤ (σ.1 32 p1.toNatClampNeg).toInt ∧ (σ.1 32 p1.toNatClampNeg).toInt ≤ 31 := hIσ 32 _
  have qv1 : v1.toInt = (σ.1 32 p1.toNatClampNeg).toInt := by rw [ev1]
  refine ok_nm2 (fun x2 ex2 => ?_)
  have qx2 : x2.toInt = v1.toInt := by rw [ex2]
  refine ok_gd.mpr ⟨gb_of (by omega) (by omega), ?_⟩
  refine ok_nm2 (fun v3 ev3 => ?_)
  have f2 : 0 ≤ (σ.1 32 p2.toNatClampNeg).toInt ∧ (σ.1 32 p2.toNatClampNeg).toInt ≤ 31 := hIσ 32 _
  have qv3 : v3.toInt = (σ.1 32 p2.toNatClampNeg).toInt := by rw [ev3]
  refine ok_nm2 (fun x4 ex4 => ?_)
  have qx4 : x4.toInt = v3.toInt := by rw [ex4]
  refine ok_ite.mpr ⟨fun h_3 => ?_, fun h_3 => ?_⟩
  · have g4 : x2.toInt = x4.toInt := by rw [h_3]
    refine ok_some.mpr ?_
    have l_0 : (0 : Int32).toInt = 0 := by decide
    exact ⟨hIσ, hfσ, (show 0 ≤ (0 : Int32).toInt by omega), (show (0 : Int32).toInt ≤ 1 by omega)⟩
  · have g5 : x2.toInt ≠ x4.toInt := fun z => h_3 (Int32.toInt_inj.mp z)
    refine ok_nm2 (fun x6 ex6 => ?_)
    have l_0 : (0 : Int32).toInt = 0 := by decide
    have qx6 : x6.toInt = 0 := by rw [ex6]; decide
    refine ok_lpc (I := fun n s => n = (32 + 1 - s.1.toInt).toNat ∧ IM s.2 ∧ Fr fr_fX10_joins σ s.2 ∧ 0 ≤ s.1.toInt ∧ s.1.toInt ≤ 32) (fun rec26_170577r n_170577 s_170577 hs_170577 hrec_170577 => ?_) K9 _ _ ⟨rfl, hIσ, hfσ, (by (try dsimp only); omega), (by (try dsimp only); omega)⟩ (by unfold K9; (try dsimp only); omega)
    obtain ⟨a5_170577, σ1_170577⟩ := s_170577
    obtain ⟨hn_170577, hIσ1_170577, hfσ1_170577, b0a5_170577, b1a5_170577⟩ := hs_170577
    dsimp only at hn_170577 hIσ1_170577 hfσ1_170577 b0a5_170577 b1a5_170577
    unfold bX10_joins_26
    try dsimp only
    refine ok_ite.mpr ⟨fun h_6 => ?_, fun h_6 => ?_⟩
    · have l_32 : (32 : Int32).toInt = 32 := by decide
      have g7 : (32 : Int32).toInt ≤ a5_170577.toInt := Int32.le_iff_toInt_le.mp h_6
      refine ok_some.mpr ?_
      have l_1 : (1 : Int32).toInt = 1 := by decide
      exact ⟨hIσ1_170577, hfσ1_170577, (show 0 ≤ (1 : Int32).toInt by omega), (show (1 : Int32).toInt ≤ 1 by omega)⟩
    · have l_32 : (32 : Int32).toInt = 32 := by decide
      have g8 : ¬ (32 : Int32).toInt ≤ a5_170577.toInt := fun z => h_6 (Int32.le_iff_toInt_le.mpr z)
      refine ok_gd.mpr ⟨gb_of (by omega) (by omega), ?_⟩
      refine ok_nm2 (fun v8_170578 ev8_170578 => ?_)
      have f9 : 0 ≤ (σ1_170577.1 32 a5_170577.toNatClampNeg).toInt ∧ (σ1_170577.1 32 a5_170577.toNatClampNeg).toInt ≤ 31 := hIσ1_170577 32 _
      have qv8_170578 : v8_170578.toInt = (σ1_170577.1 32 a5_170577.toNatClampNeg).toInt := by rw [ev8_170578]
      refine ok_ite.mpr ⟨fun h_10 => ?_, fun h_10 => ?_⟩
      · have g11 : v8_170578.toInt = x4.toInt := by rw [h_10]
        refine ok_gd.mpr ⟨gb_of (by omega) (by omega), ?_⟩
        refine ok_nm2 (fun σ11_170578 eσ11_170578 => ?_)
        have hIσ11_170578 : IM σ11_170578 := by rw [eσ11_170578]; exact IM_w hIσ1_170577 (show 0 ≤ _ by omega) (show _ ≤ 31 by omega)
        have hfσ11_170578 : Fr fr_fX10_joins σ σ11_170578 := by rw [eσ11_170578]; exact Fr_w0 hfσ1_170577 (by decide)
        refine ok_nm2 (fun x12_170578 ex12_170578 => ?_)
        have l_1 : (1 : Int32).toInt = 1 := by decide
        have f12 : (a5_170577 + (1 : Int32)).toInt = a5_170577.toInt + (1 : Int32).toInt := iadd_toInt (by omega) (by omega)
        have qx12_170578 : x12_170578.toInt = (a5_170577 + 1).toInt := by rw [ex12_170578]
        exact hrec_170577 _ (x12_170578, σ11_170578) (show (32 + 1 - x12_170578.toInt).toNat < n_170577 by omega) ⟨rfl, hIσ11_170578, hfσ11_170578, (show 0 ≤ x12_170578.toInt by omega), (show x12_170578.toInt ≤ 32 by omega)⟩
      · have g13 : v8_170578.toInt ≠ x4.toInt := fun z => h_10 (Int32.toInt_inj.mp z)
        refine ok_nm2 (fun x10_170578 ex10_170578 => ?_)
        have l_1 : (1 : Int32).toInt = 1 := by decide
        have f14 : (a5_170577 + (1 : Int32)).toInt = a5_170577.toInt + (1 : Int32).toInt := iadd_toInt (by omega) (by omega)
        have qx10_170578 : x10_170578.toInt = (a5_170577 + 1).toInt := by rw [ex10_170578]
        exact hrec_170577 _ (x10_170578, σ1_170577) (show (32 + 1 - x10_170578.toInt).toNat < n_170577 by omega) ⟨rfl, hIσ1_170577, hfσ1_170577, (show 0 ≤ x10_170578.toInt by omega), (show x10_170578.toInt ≤ 32 by omega)⟩
set_option maxRecDepth 20000 in
set_option maxHeartbeats 2000000 in
theorem o_fX10_hangs {σ : gS} (hIσ : IM σ)   : Ok (fX10_hangs σ ) (fun out => IM out ∧ Fr fr_fX10_hangs σ out) := by
  unfold fX10_hangs
  have hfσ : Fr fr_fX10_hangs σ σ := Fr_r
  refine ok_nm2 (fun x1 ex1 => ?_)
  have l_0 : (0 : Int32).toInt = 0 := by decide
  have qx1 : x1.toInt = 0 := by rw [ex1]; decide
  refine ok_lpc (I := fun n s => n = (32 + 1 - s.1.toInt).toNat ∧ IM s.2 ∧ Fr fr_fX10_hangs σ s.2 ∧ 0 ≤ s.1.toInt ∧ s.1.toInt ≤ 32) (fun rec2_170579r n_170579 s_170579 hs_170579 hrec_170579 => ?_) K9 _ _ ⟨rfl, hIσ, hfσ, (by (try dsimp only); omega), (by (try dsimp only); omega)⟩ (by unfold K9; (try dsimp only); omega)
  obtain ⟨a1_170579, σ1_170579⟩ := s_170579
  obtain ⟨hn_170579, hIσ1_170579, hfσ1_170579, b0a1_170579, b1a1_170579⟩ := hs_170579
  dsimp only at hn_170579 hIσ1_170579 hfσ1_170579 b0a1_170579 b1a1_170579
  unfold bX10_hangs_2
  try dsimp only
  refine ok_ite.mpr ⟨fun h_1 => ?_, fun h_1 => ?_⟩
  · have l_32 : (32 : Int32).toInt = 32 := by decide
    have g2 : (32 : Int32).toInt ≤ a1_170579.toInt := Int32.le_iff_toInt_le.mp h_1
    refine ok_nm2 (fun x3_170683 ex3_170683 => ?_)
    have qx3_170683 : x3_170683.toInt = 0 := by rw [ex3_170683]; decide
    refine ok_nm2 (fun x4_170683 ex4_170683 => ?_)
    have qx4_170683 : x4_170683.toInt = 0 := by rw [ex4_170683]; decide
    refine ok_lpc (I := fun n s => n = (60 + 1 - s.1.toInt).toNat ∧ IM s.2 ∧ Fr fr_fX10_hangs σ s.2 ∧ 0 ≤ s.1.toInt ∧ s.1.toInt ≤ 60) (fun rec25_170684r n_170684 s_170684 hs_170684 hrec_170684 => ?_) K9 _ _ ⟨rfl, hIσ1_170579, hfσ1_170579, (by (try dsimp only); omega), (by (try dsimp only); omega)⟩ (by unfold K9; (try dsimp only); omega)
    obtain ⟨a2_170684, σ1_170684⟩ := s_170684
    obtain ⟨hn_170684, hIσ1_170684, hfσ1_170684, b0a2_170684, b1a2_170684⟩ := hs_170684
    dsimp only at hn_170684 hIσ1_170684 hfσ1_170684 b0a2_170684 b1a2_170684
    unfold bX10_hangs_25
    try dsimp only
    refine ok_bd.mpr ?_
    try unfold fX10_rows
    have l_9 : (9 : Int32).toInt = 9 := by decide
    refine ok_gd.mpr ⟨gb_of (by omega) (by omega), ?_⟩
    refine ok_nm2 (fun v1_170789 ev1_170789 => ?_)
    have f3 : 0 ≤ (σ1_170684.1 15 (9 : Int32).toNatClampNeg).toInt ∧ (σ1_170684.1 15 (9 : Int32).toNatClampNeg).toInt ≤ 60 := hIσ1_170684 15 _
    have qv1_170789 : v1_170789.toInt = (σ1_170684.1 15 (9 : Int32).toNatClampNeg).toInt := by rw [ev1_170789]
    refine ok_some.mpr ?_
    refine ok_ite.mpr ⟨fun h_4 => ?_, fun h_4 => ?_⟩
    · have g5 : v1_170789.toInt ≤ a2_170684.toInt := Int32.le_iff_toInt_le.mp h_4
      refine ok_nm2 (fun x8_170788_170790 ex8_170788_170790 => ?_)
      have qx8_170788_170790 : x8_170788_170790.toInt = 0 := by rw [ex8_170788_170790]; decide
      refine ok_lpc (I := fun n s => n = (12 + 1 - s.1.toInt).toNat ∧ IM s.2 ∧ Fr fr_fX10_hangs σ s.2 ∧ 0 ≤ s.1.toInt ∧ s.1.toInt ≤ 12) (fun rec72_170791r n_170791 s_170791 hs_170791 hrec_170791 => ?_) K9 _ _ ⟨rfl, hIσ1_170684, hfσ1_170684, (by (try dsimp only); omega), (by (try dsimp only); omega)⟩ (by unfold K9; (try dsimp only); omega)
      obtain ⟨a2_170791, σ1_170791⟩ := s_170791
      obtain ⟨hn_170791, hIσ1_170791, hfσ1_170791, b0a2_170791, b1a2_170791⟩ := hs_170791
      dsimp only at hn_170791 hIσ1_170791 hfσ1_170791 b0a2_170791 b1a2_170791
      unfold bX10_hangs_72
      try dsimp only
      refine ok_bd.mpr ?_
      try unfold fX10_pictures
      have l_7 : (7 : Int32).toInt = 7 := by decide
      refine ok_gd.mpr ⟨gb_of (by omega) (by omega), ?_⟩
      refine ok_nm2 (fun v1_170868 ev1_170868 => ?_)
      have f6 : 0 ≤ (σ1_170791.1 15 (7 : Int32).toNatClampNeg).toInt ∧ (σ1_170791.1 15 (7 : Int32).toNatClampNeg).toInt ≤ 12 := hIσ1_170791 15 _
      have qv1_170868 : v1_170868.toInt = (σ1_170791.1 15 (7 : Int32).toNatClampNeg).toInt := by rw [ev1_170868]
      refine ok_some.mpr ?_
      refine ok_ite.mpr ⟨fun h_7 => ?_, fun h_7 => ?_⟩
      · have g8 : v1_170868.toInt ≤ a2_170791.toInt := Int32.le_iff_toInt_le.mp h_7
        refine ok_some.mpr ?_
        exact ⟨hIσ1_170791, hfσ1_170791⟩
      · have g9 : ¬ v1_170868.toInt ≤ a2_170791.toInt := fun z => h_7 (Int32.le_iff_toInt_le.mpr z)
        refine ok_nm2 (fun x12_170865_170869 ex12_170865_170869 => ?_)
        have qx12_170865_170869 : x12_170865_170869.toInt = 0 := by rw [ex12_170865_170869]; decide
        refine ok_lpc (I := fun n s => n = (12 + 1 - s.1.toInt).toNat ∧ IM s.2 ∧ Fr fr_fX10_hangs σ s.2 ∧ 0 ≤ s.1.toInt ∧ s.1.toInt ≤ 12) (fun rec82_170870r n_170870 s_170870 hs_170870 hrec_170870 => ?_) K9 _ _ ⟨rfl, hIσ1_170791, hfσ1_170791, (by (try dsimp only); omega), (by (try dsimp only); omega)⟩ (by unfold K9; (try dsimp only); omega)
        obtain ⟨a3_170870, σ1_170870⟩ := s_170870
        obtain ⟨hn_170870, hIσ1_170870, hfσ1_170870, b0a3_170870, b1a3_170870⟩ := hs_170870
        dsimp only at hn_170870 hIσ1_170870 hfσ1_170870 b0a3_170870 b1a3_170870
        unfold bX10_hangs_82
        try dsimp only
        refine ok_ite.mpr ⟨fun h_10 => ?_, fun h_10 => ?_⟩
        · have g11 : a2_170791.toInt ≤ a3_170870.toInt := Int32.le_iff_toInt_le.mp h_10
          refine ok_nm2 (fun x14_170891 ex14_170891 => ?_)
          have l_1 : (1 : Int32).toInt = 1 := by decide
          have f12 : (a2_170791 + (1 : Int32)).toInt = a2_170791.toInt + (1 : Int32).toInt := iadd_toInt (by omega) (by omega)
          have qx14_170891 : x14_170891.toInt = (a2_170791 + 1).toInt := by rw [ex14_170891]
          exact hrec_170791 _ (x14_170891, σ1_170870) (show (12 + 1 - x14_170891.toInt).toNat < n_170791 by omega) ⟨rfl, hIσ1_170870, hfσ1_170870, (show 0 ≤ x14_170891.toInt by omega), (show x14_170891.toInt ≤ 12 by omega)⟩
        · have g13 : ¬ a2_170791.toInt ≤ a3_170870.toInt := fun z => h_10 (Int32.le_iff_toInt_le.mpr z)
          refine ok_bd.mpr ?_
          try unfold fX10_centreOf
          have l_12 : (12 : Int32).toInt = 12 := by decide
          have f14 : ((12 : Int32) + a2_170791).toInt = (12 : Int32).toInt + a2_170791.toInt := iadd_toInt (by omega) (by omega)
          refine ok_gd.mpr ⟨gb_of (by omega) (by omega), ?_⟩
          refine ok_nm2 (fun v1_170892 ev1_170892 => ?_)
          have f15 : 0 ≤ (σ1_170870.1 18 (12 + a2_170791).toNatClampNeg).toInt ∧ (σ1_170870.1 18 (12 + a2_170791).toNatClampNeg).toInt ≤ 9 := hIσ1_170870 18 _
          have qv1_170892 : v1_170892.toInt = (σ1_170870.1 18 (12 + a2_170791).toNatClampNeg).toInt := by rw [ev1_170892]
          refine ok_some.mpr ?_
          refine ok_ite.mpr ⟨fun h_16 => ?_, fun h_16 => ?_⟩
          · have g17 : v1_170892.toInt ≤ (0 : Int32).toInt := Int32.le_iff_toInt_le.mp h_16
            refine ok_nm2 (fun x18_170891_170893 ex18_170891_170893 => ?_)
            have l_1 : (1 : Int32).toInt = 1 := by decide
            have f18 : (a3_170870 + (1 : Int32)).toInt = a3_170870.toInt + (1 : Int32).toInt := iadd_toInt (by omega) (by omega)
            have qx18_170891_170893 : x18_170891_170893.toInt = (a3_170870 + 1).toInt := by rw [ex18_170891_170893]
            exact hrec_170870 _ (x18_170891_170893, σ1_170870) (show (12 + 1 - x18_170891_170893.toInt).toNat < n_170870 by omega) ⟨rfl, hIσ1_170870, hfσ1_170870, (show 0 ≤ x18_170891_170893.toInt by omega), (show x18_170891_170893.toInt ≤ 12 by omega)⟩
          · have g19 : ¬ v1_170892.toInt ≤ (0 : Int32).toInt := fun z => h_16 (Int32.le_iff_toInt_le.mpr z)
            refine ok_bd.mpr ?_
            try unfold fX10_centreOf
            have f20 : ((12 : Int32) + a3_170870).toInt = (12 : Int32).toInt + a3_170870.toInt := iadd_toInt (by omega) (by omega)
            refine ok_gd.mpr ⟨gb_of (by omega) (by omega), ?_⟩
            refine ok_nm2 (fun v1_170894 ev1_170894 => ?_)
            have f21 : 0 ≤ (σ1_170870.1 18 (12 + a3_170870).toNatClampNeg).toInt ∧ (σ1_170870.1 18 (12 + a3_170870).toNatClampNeg).toInt ≤ 9 := hIσ1_170870 18 _
            have qv1_170894 : v1_170894.toInt = (σ1_170870.1 18 (12 + a3_170870).toNatClampNeg).toInt := by rw [ev1_170894]
            refine ok_some.mpr ?_
            refine ok_ite.mpr ⟨fun h_22 => ?_, fun h_22 => ?_⟩
            · have g23 : v1_170894.toInt ≤ (0 : Int32).toInt := Int32.le_iff_toInt_le.mp h_22
              refine ok_nm2 (fun x22_170891_170893_170895 ex22_170891_170893_170895 => ?_)
              have l_1 : (1 : Int32).toInt = 1 := by decide
              have f24 : (a3_170870 + (1 : Int32)).toInt = a3_170870.toInt + (1 : Int32).toInt := iadd_toInt (by omega) (by omega)
              have qx22_170891_170893_170895 : x22_170891_170893_170895.toInt = (a3_170870 + 1).toInt := by rw [ex22_170891_170893_170895]
              exact hrec_170870 _ (x22_170891_170893_170895, σ1_170870) (show (12 + 1 - x22_170891_170893_170895.toInt).toNat < n_170870 by omega) ⟨rfl, hIσ1_170870, hfσ1_170870, (show 0 ≤ x22_170891_170893_170895.toInt by omega), (show x22_170891_170893_170895.toInt ≤ 12 by omega)⟩
            · have g25 : ¬ v1_170894.toInt ≤ (0 : Int32).toInt := fun z => h_22 (Int32.le_iff_toInt_le.mpr z)
              refine ok_bd.mpr ?_
              try unfold fX10_strip
              refine ok_gd.mpr ⟨gb_of (by omega) (by omega), ?_⟩
              refine ok_nm2 (fun v1_170896 ev1_170896 => ?_)
              have f26 : 0 ≤ (σ1_170870.1 16 (12 + a2_170791).toNatClampNeg).toInt ∧ (σ1_170870.1 16 (12 + a2_170791).toNatClampNeg).toInt ≤ 5 := hIσ1_170870 16 _
              have qv1_170896 : v1_170896.toInt = (σ1_170870.1 16 (12 + a2_170791).toNatClampNeg).toInt := by rw [ev1_170896]
              refine ok_some.mpr ?_
              refine ok_bd.mpr ?_
              try unfold fX10_strip
              refine ok_gd.mpr ⟨gb_of (by omega) (by omega), ?_⟩
              refine ok_nm2 (fun v1_170898 ev1_170898 => ?_)
              have f27 : 0 ≤ (σ1_170870.1 16 (12 + a3_170870).toNatClampNeg).toInt ∧ (σ1_170870.1 16 (12 + a3_170870).toNatClampNeg).toInt ≤ 5 := hIσ1_170870 16 _
              have qv1_170898 : v1_170898.toInt = (σ1_170870.1 16 (12 + a3_170870).toNatClampNeg).toInt := by rw [ev1_170898]
              refine ok_some.mpr ?_
              refine ok_ite.mpr ⟨fun h_28 => ?_, fun h_28 => ?_⟩
              · have g29 : v1_170896.toInt = v1_170898.toInt := by rw [h_28]
                refine ok_bd2.mpr ((o_fX10_joins hIσ1_170870 (by omega) (by omega) (by omega) (by omega)).mono (fun o_30 ho_31 => ?_))
                obtain ⟨r30_170891_170893_170895_170897_170899, σ31_170891_170893_170895_170897_170899⟩ := o_30
                obtain ⟨hIσ31_170891_170893_170895_170897_170899, hcσ31_170891_170893_170895_170897_170899, r0r30_170891_170893_170895_170897_170899, r1r30_170891_170893_170895_170897_170899⟩ := ho_31
                dsimp only at hIσ31_170891_170893_170895_170897_170899 hcσ31_170891_170893_170895_170897_170899 r0r30_170891_170893_170895_170897_170899 r1r30_170891_170893_170895_170897_170899 ⊢
                have hfσ31_170891_170893_170895_170897_170899 : Fr fr_fX10_hangs σ σ31_170891_170893_170895_170897_170899 := Fr_c hfσ1_170870 hcσ31_170891_170893_170895_170897_170899 (by decide)
                refine ok_ite.mpr ⟨fun h_32 => ?_, fun h_32 => ?_⟩
                · have g33 : r30_170891_170893_170895_170897_170899.toInt = (0 : Int32).toInt := by rw [h_32]
                  refine ok_nm2 (fun x33_170891_170893_170895_170897_170899 ex33_170891_170893_170895_170897_170899 => ?_)
                  have l_1 : (1 : Int32).toInt = 1 := by decide
                  have f34 : (a3_170870 + (1 : Int32)).toInt = a3_170870.toInt + (1 : Int32).toInt := iadd_toInt (by omega) (by omega)
                  have qx33_170891_170893_170895_170897_170899 : x33_170891_170893_170895_170897_170899.toInt = (a3_170870 + 1).toInt := by rw [ex33_170891_170893_170895_170897_170899]
                  exact hrec_170870 _ (x33_170891_170893_170895_170897_170899, σ31_170891_170893_170895_170897_170899) (show (12 + 1 - x33_170891_170893_170895_170897_170899.toInt).toNat < n_170870 by omega) ⟨rfl, hIσ31_170891_170893_170895_170897_170899, hfσ31_170891_170893_170895_170897_170899, (show 0 ≤ x33_170891_170893_170895_170897_170899.toInt by omega), (show x33_170891_170893_170895_170897_170899.toInt ≤ 12 by omega)⟩
                · have g35 : r30_170891_170893_170895_170897_170899.toInt ≠ (0 : Int32).toInt := fun z => h_32 (Int32.toInt_inj.mp z)
                  refine ok_nm2 (fun x34_170891_170893_170895_170897_170899 ex34_170891_170893_170895_170897_170899 => ?_)
                  have l_1 : (1 : Int32).toInt = 1 := by decide
                  have qx34_170891_170893_170895_170897_170899 : x34_170891_170893_170895_170897_170899.toInt = 1 := by rw [ex34_170891_170893_170895_170897_170899]; decide
                  refine ok_nm2 (fun x35_170891_170893_170895_170897_170899 ex35_170891_170893_170895_170897_170899 => ?_)
                  have f36 : (a3_170870 + (1 : Int32)).toInt = a3_170870.toInt + (1 : Int32).toInt := iadd_toInt (by omega) (by omega)
                  have qx35_170891_170893_170895_170897_170899 : x35_170891_170893_170895_170897_170899.toInt = (a3_170870 + 1).toInt := by rw [ex35_170891_170893_170895_170897_170899]
                  exact hrec_170870 _ (x35_170891_170893_170895_170897_170899, σ31_170891_170893_170895_170897_170899) (show (12 + 1 - x35_170891_170893_170895_170897_170899.toInt).toNat < n_170870 by omega) ⟨rfl, hIσ31_170891_170893_170895_170897_170899, hfσ31_170891_170893_170895_170897_170899, (show 0 ≤ x35_170891_170893_170895_170897_170899.toInt by omega), (show x35_170891_170893_170895_170897_170899.toInt ≤ 12 by omega)⟩
              · have g37 : v1_170896.toInt ≠ v1_170898.toInt := fun z => h_28 (Int32.toInt_inj.mp z)
                refine ok_nm2 (fun x28_170891_170893_170895_170897_170899 ex28_170891_170893_170895_170897_170899 => ?_)
                have l_1 : (1 : Int32).toInt = 1 := by decide
                have f38 : (a3_170870 + (1 : Int32)).toInt = a3_170870.toInt + (1 : Int32).toInt := iadd_toInt (by omega) (by omega)
                have qx28_170891_170893_170895_170897_170899 : x28_170891_170893_170895_170897_170899.toInt = (a3_170870 + 1).toInt := by rw [ex28_170891_170893_170895_170897_170899]
                exact hrec_170870 _ (x28_170891_170893_170895_170897_170899, σ1_170870) (show (12 + 1 - x28_170891_170893_170895_170897_170899.toInt).toNat < n_170870 by omega) ⟨rfl, hIσ1_170870, hfσ1_170870, (show 0 ≤ x28_170891_170893_170895_170897_170899.toInt by omega), (show x28_170891_170893_170895_170897_170899.toInt ≤ 12 by omega)⟩
    · have g39 : ¬ v1_170789.toInt ≤ a2_170684.toInt := fun z => h_4 (Int32.le_iff_toInt_le.mpr z)
      refine ok_gd.mpr ⟨gb_of (by omega) (by omega), ?_⟩
      refine ok_nm2 (fun v36_170788_170790 ev36_170788_170790 => ?_)
      have f40 : 0 ≤ (σ1_170684.1 26 a2_170684.toNatClampNeg).toInt ∧ (σ1_170684.1 26 a2_170684.toNatClampNeg).toInt ≤ 1 := hIσ1_170684 26 _
      have qv36_170788_170790 : v36_170788_170790.toInt = (σ1_170684.1 26 a2_170684.toNatClampNeg).toInt := by rw [ev36_170788_170790]
      refine ok_ite.mpr ⟨fun h_41 => ?_, fun h_41 => ?_⟩
      · have g42 : v36_170788_170790.toInt = (0 : Int32).toInt := by rw [h_41]
        refine ok_bd.mpr ?_
        try unfold fX10_pictureOf
        have l_60 : (60 : Int32).toInt = 60 := by decide
        have f43 : ((60 : Int32) + a2_170684).toInt = (60 : Int32).toInt + a2_170684.toInt := iadd_toInt (by omega) (by omega)
        refine ok_gd.mpr ⟨gb_of (by omega) (by omega), ?_⟩
        refine ok_nm2 (fun v1_170900 ev1_170900 => ?_)
        have f44 : 0 ≤ (σ1_170684.1 22 (60 + a2_170684).toNatClampNeg).toInt ∧ (σ1_170684.1 22 (60 + a2_170684).toNatClampNeg).toInt ≤ 11 := hIσ1_170684 22 _
        have qv1_170900 : v1_170900.toInt = (σ1_170684.1 22 (60 + a2_170684).toNatClampNeg).toInt := by rw [ev1_170900]
        refine ok_some.mpr ?_
        refine ok_bd.mpr ?_
        try unfold fX10_pointOf
        refine ok_gd.mpr ⟨gb_of (by omega) (by omega), ?_⟩
        refine ok_nm2 (fun v1_170902 ev1_170902 => ?_)
        have f45 : 0 ≤ (σ1_170684.1 23 (60 + a2_170684).toNatClampNeg).toInt ∧ (σ1_170684.1 23 (60 + a2_170684).toNatClampNeg).toInt ≤ 19 := hIσ1_170684 23 _
        have qv1_170902 : v1_170902.toInt = (σ1_170684.1 23 (60 + a2_170684).toNatClampNeg).toInt := by rw [ev1_170902]
        refine ok_some.mpr ?_
        have l_12 : (12 : Int32).toInt = 12 := by decide
        have f46 : ((12 : Int32) + v1_170902).toInt = (12 : Int32).toInt + v1_170902.toInt := iadd_toInt (by omega) (by omega)
        refine ok_bd2.mpr ((o_fX10_joins hIσ1_170684 (by omega) (by omega) (by omega) (by omega)).mono (fun o_47 ho_48 => ?_))
        obtain ⟨r44_170788_170790_170901_170903, σ45_170788_170790_170901_170903⟩ := o_47
        obtain ⟨hIσ45_170788_170790_170901_170903, hcσ45_170788_170790_170901_170903, r0r44_170788_170790_170901_170903, r1r44_170788_170790_170901_170903⟩ := ho_48
        dsimp only at hIσ45_170788_170790_170901_170903 hcσ45_170788_170790_170901_170903 r0r44_170788_170790_170901_170903 r1r44_170788_170790_170901_170903 ⊢
        have hfσ45_170788_170790_170901_170903 : Fr fr_fX10_hangs σ σ45_170788_170790_170901_170903 := Fr_c hfσ1_170684 hcσ45_170788_170790_170901_170903 (by decide)
        refine ok_ite.mpr ⟨fun h_49 => ?_, fun h_49 => ?_⟩
        · have g50 : r44_170788_170790_170901_170903.toInt = (0 : Int32).toInt := by rw [h_49]
          refine ok_nm2 (fun x47_170788_170790_170901_170903 ex47_170788_170790_170901_170903 => ?_)
          have l_1 : (1 : Int32).toInt = 1 := by decide
          have f51 : (a2_170684 + (1 : Int32)).toInt = a2_170684.toInt + (1 : Int32).toInt := iadd_toInt (by omega) (by omega)
          have qx47_170788_170790_170901_170903 : x47_170788_170790_170901_170903.toInt = (a2_170684 + 1).toInt := by rw [ex47_170788_170790_170901_170903]
          exact hrec_170684 _ (x47_170788_170790_170901_170903, σ45_170788_170790_170901_170903) (show (60 + 1 - x47_170788_170790_170901_170903.toInt).toNat < n_170684 by omega) ⟨rfl, hIσ45_170788_170790_170901_170903, hfσ45_170788_170790_170901_170903, (show 0 ≤ x47_170788_170790_170901_170903.toInt by omega), (show x47_170788_170790_170901_170903.toInt ≤ 60 by omega)⟩
        · have g52 : r44_170788_170790_170901_170903.toInt ≠ (0 : Int32).toInt := fun z => h_49 (Int32.toInt_inj.mp z)
          refine ok_nm2 (fun x48_170788_170790_170901_170903 ex48_170788_170790_170901_170903 => ?_)
          have l_1 : (1 : Int32).toInt = 1 := by decide
          have qx48_170788_170790_170901_170903 : x48_170788_170790_170901_170903.toInt = 1 := by rw [ex48_170788_170790_170901_170903]; decide
          refine ok_nm2 (fun x49_170788_170790_170901_170903 ex49_170788_170790_170901_170903 => ?_)
          have f53 : (a2_170684 + (1 : Int32)).toInt = a2_170684.toInt + (1 : Int32).toInt := iadd_toInt (by omega) (by omega)
          have qx49_170788_170790_170901_170903 : x49_170788_170790_170901_170903.toInt = (a2_170684 + 1).toInt := by rw [ex49_170788_170790_170901_170903]
          exact hrec_170684 _ (x49_170788_170790_170901_170903, σ45_170788_170790_170901_170903) (show (60 + 1 - x49_170788_170790_170901_170903.toInt).toNat < n_170684 by omega) ⟨rfl, hIσ45_170788_170790_170901_170903, hfσ45_170788_170790_170901_170903, (show 0 ≤ x49_170788_170790_170901_170903.toInt by omega), (show x49_170788_170790_170901_170903.toInt ≤ 60 by omega)⟩
      · have g54 : v36_170788_170790.toInt ≠ (0 : Int32).toInt := fun z => h_41 (Int32.toInt_inj.mp z)
        refine ok_nm2 (fun x38_170788_170790 ex38_170788_170790 => ?_)
        have l_1 : (1 : Int32).toInt = 1 := by decide
        have f55 : (a2_170684 + (1 : Int32)).toInt = a2_170684.toInt + (1 : Int32).toInt := iadd_toInt (by omega) (by omega)
        have qx38_170788_170790 : x38_170788_170790.toInt = (a2_170684 + 1).toInt := by rw [ex38_170788_170790]
        exact hrec_170684 _ (x38_170788_170790, σ1_170684) (show (60 + 1 - x38_170788_170790.toInt).toNat < n_170684 by omega) ⟨rfl, hIσ1_170684, hfσ1_170684, (show 0 ≤ x38_170788_170790.toInt by omega), (show x38_170788_170790.toInt ≤ 60 by omega)⟩
  · have l_32 : (32 : Int32).toInt = 32 := by decide
    have g56 : ¬ (32 : Int32).toInt ≤ a1_170579.toInt := fun z => h_1 (Int32.le_iff_toInt_le.mpr z)
    refine ok_gd.mpr ⟨gb_of (by omega) (by omega), ?_⟩
    refine ok_nm2 (fun σ50_170683 eσ50_170683 => ?_)
    have hIσ50_170683 : IM σ50_170683 := by rw [eσ50_170683]; exact IM_w hIσ1_170579 (show 0 ≤ _ by omega) (show _ ≤ 31 by omega)
    have hfσ50_170683 : Fr fr_fX10_hangs σ σ50_170683 := by rw [eσ50_170683]; exact Fr_w0 hfσ1_170579 (by decide)
    refine ok_nm2 (fun x51_170683 ex51_170683 => ?_)
    have l_1 : (1 : Int32).toInt = 1 := by decide
    have f57 : (a1_170579 + (1 : Int32)).toInt = a1_170579.toInt + (1 : Int32).toInt := iadd_toInt (by omega) (by omega)
    have qx51_170683 : x51_170683.toInt = (a1_170579 + 1).toInt := by rw [ex51_170683]
    exact hrec_170579 _ (x51_170683, σ50_170683) (show (32 + 1 - x51_170683.toInt).toNat < n_170579 by omega) ⟨rfl, hIσ50_170683, hfσ50_170683, (show 0 ≤ x51_170683.toInt by omega), (show x51_170683.toInt ≤ 32 by omega)⟩
set_option maxRecDepth 20000 in
set_option maxHeartbeats 2000000 in
theorem o_fX10_isLoose {σ : gS} (hIσ : IM σ) {p1 : Int32} (h0p1 : 0 ≤ p1.toInt) (h1p1 : p1.toInt ≤ 31) : Ok (fX10_isLoose σ p1) (fun out => 0 ≤ out.toInt ∧ out.toInt ≤ 1) := by
  unfold fX10_isLoose
  have hfσ : Fr fr_fX10_isLoose σ σ := Fr_r
  refine ok_nm2 (fun x1 ex1 => ?_)
  have l_0 : (0 : Int32).toInt = 0 := by decide
  have qx1 : x1.toInt = 0 := by rw [ex1]; decide
  refine ok_lpc (I := fun n s => n = (20 + 1 - s.toInt).toNat ∧ 0 ≤ s.toInt ∧ s.toInt ≤ 20) (fun rec2_170904r n_170904 s_170904 hs_170904 hrec_170904 => ?_) K9 _ _ ⟨rfl, (by (try dsimp only); omega), (by (try dsimp only); omega)⟩ (by unfold K9; (try dsimp only); omega)
  obtain ⟨a2_170904, hq_170904⟩ : ∃ y, y = s_170904 := ⟨_, rfl⟩
  subst hq_170904
  obtain ⟨hn_170904, b0a2_170904, b1a2_170904⟩ := hs_170904
  skip
  unfold bX10_isLoose_2
  try dsimp only
  refine ok_bd.mpr ?_
  try unfold fX10_points
  have l_8 : (8 : Int32).toInt = 8 := by decide
  refine ok_gd.mpr ⟨gb_of (by omega) (by omega), ?_⟩
  refine ok_nm2 (fun v1_170918 ev1_170918 => ?_)
  have f1 : 0 ≤ (σ.1 15 (8 : Int32).toNatClampNeg).toInt ∧ (σ.1 15 (8 : Int32).toNatClampNeg).toInt ≤ 20 := hIσ 15 _
  have qv1_170918 : v1_170918.toInt = (σ.1 15 (8 : Int32).toNatClampNeg).toInt := by rw [ev1_170918]
  refine ok_some.mpr ?_
  refine ok_ite.mpr ⟨fun h_2 => ?_, fun h_2 => ?_⟩
  · have g3 : v1_170918.toInt ≤ a2_170904.toInt := Int32.le_iff_toInt_le.mp h_2
    refine ok_some.mpr ?_
    have l_1 : (1 : Int32).toInt = 1 := by decide
    exact ⟨(show 0 ≤ (1 : Int32).toInt by omega), (show (1 : Int32).toInt ≤ 1 by omega)⟩
  · have g4 : ¬ v1_170918.toInt ≤ a2_170904.toInt := fun z => h_2 (Int32.le_iff_toInt_le.mpr z)
    refine ok_bd.mpr ?_
    try unfold fX10_isControl
    have l_20 : (20 : Int32).toInt = 20 := by decide
    have f5 : ((20 : Int32) + a2_170904).toInt = (20 : Int32).toInt + a2_170904.toInt := iadd_toInt (by omega) (by omega)
    refine ok_gd.mpr ⟨gb_of (by omega) (by omega), ?_⟩
    refine ok_nm2 (fun v1_170920 ev1_170920 => ?_)
    have f6 : 0 ≤ (σ.1 20 (20 + a2_170904).toNatClampNeg).toInt ∧ (σ.1 20 (20 + a2_170904).toNatClampNeg).toInt ≤ 2 := hIσ 20 _
    have qv1_170920 : v1_170920.toInt = (σ.1 20 (20 + a2_170904).toNatClampNeg).toInt := by rw [ev1_170920]
    refine ok_nm2 (fun x2_170920 ex2_170920 => ?_)
    have qx2_170920 : x2_170920.toInt = v1_170920.toInt := by rw [ex2_170920]
    refine ok_ite.mpr ⟨fun h_7 => ?_, fun h_7 => ?_⟩
    · have g8 : x2_170920.toInt = (0 : Int32).toInt := by rw [h_7]
      refine ok_some.mpr ?_
      refine ok_ite.mpr ⟨fun h_9 => ?_, fun h_9 => ?_⟩
      · have g10 : (0 : Int32).toInt = (0 : Int32).toInt := by rw [h_9]
        refine ok_nm2 (fun x8_170917_170919_170921 ex8_170917_170919_170921 => ?_)
        have l_1 : (1 : Int32).toInt = 1 := by decide
        have f11 : (a2_170904 + (1 : Int32)).toInt = a2_170904.toInt + (1 : Int32).toInt := iadd_toInt (by omega) (by omega)
        have qx8_170917_170919_170921 : x8_170917_170919_170921.toInt = (a2_170904 + 1).toInt := by rw [ex8_170917_170919_170921]
        exact hrec_170904 _ x8_170917_170919_170921 (show (20 + 1 - x8_170917_170919_170921.toInt).toNat < n_170904 by omega) ⟨rfl, (show 0 ≤ x8_170917_170919_170921.toInt by omega), (show x8_170917_170919_170921.toInt ≤ 20 by omega)⟩
      · have g12 : (0 : Int32).toInt ≠ (0 : Int32).toInt := fun z => h_9 (Int32.toInt_inj.mp z)
        exfalso; omega
    · have g13 : x2_170920.toInt ≠ (0 : Int32).toInt := fun z => h_7 (Int32.toInt_inj.mp z)
      refine ok_ite.mpr ⟨fun h_14 => ?_, fun h_14 => ?_⟩
      · have l_1 : (1 : Int32).toInt = 1 := by decide
        have g15 : (((σ.1 0 36) >>> ((x2_170920 - 1) &&& 31)) &&& 1).toInt = (1 : Int32).toInt := by rw [h_14]
        refine ok_some.mpr ?_
        refine ok_ite.mpr ⟨fun h_16 => ?_, fun h_16 => ?_⟩
        · have g17 : (1 : Int32).toInt = (0 : Int32).toInt := by rw [h_16]
          exfalso; omega
        · have g18 : (1 : Int32).toInt ≠ (0 : Int32).toInt := fun z => h_16 (Int32.toInt_inj.mp z)
          have l_12 : (12 : Int32).toInt = 12 := by decide
          have f19 : ((12 : Int32) + a2_170904).toInt = (12 : Int32).toInt + a2_170904.toInt := iadd_toInt (by omega) (by omega)
          refine ok_gd.mpr ⟨gb_of (by omega) (by omega), ?_⟩
          refine ok_nm2 (fun v9_170917_170919_170922 ev9_170917_170919_170922 => ?_)
          have f20 : 0 ≤ (σ.1 32 (12 + a2_170904).toNatClampNeg).toInt ∧ (σ.1 32 (12 + a2_170904).toNatClampNeg).toInt ≤ 31 := hIσ 32 _
          have qv9_170917_170919_170922 : v9_170917_170919_170922.toInt = (σ.1 32 (12 + a2_170904).toNatClampNeg).toInt := by rw [ev9_170917_170919_170922]
          refine ok_gd.mpr ⟨gb_of (by omega) (by omega), ?_⟩
          refine ok_nm2 (fun v10_170917_170919_170922 ev10_170917_170919_170922 => ?_)
          have f21 : 0 ≤ (σ.1 32 p1.toNatClampNeg).toInt ∧ (σ.1 32 p1.toNatClampNeg).toInt ≤ 31 := hIσ 32 _
          have qv10_170917_170919_170922 : v10_170917_170919_170922.toInt = (σ.1 32 p1.toNatClampNeg).toInt := by rw [ev10_170917_170919_170922]
          refine ok_ite.mpr ⟨fun h_22 => ?_, fun h_22 => ?_⟩
          · have g23 : v9_170917_170919_170922.toInt = v10_170917_170919_170922.toInt := by rw [h_22]
            refine ok_some.mpr ?_
            exact ⟨(show 0 ≤ (0 : Int32).toInt by omega), (show (0 : Int32).toInt ≤ 1 by omega)⟩
          · have g24 : v9_170917_170919_170922.toInt ≠ v10_170917_170919_170922.toInt := fun z => h_22 (Int32.toInt_inj.mp z)
            refine ok_nm2 (fun x12_170917_170919_170922 ex12_170917_170919_170922 => ?_)
            have f25 : (a2_170904 + (1 : Int32)).toInt = a2_170904.toInt + (1 : Int32).toInt := iadd_toInt (by omega) (by omega)
            have qx12_170917_170919_170922 : x12_170917_170919_170922.toInt = (a2_170904 + 1).toInt := by rw [ex12_170917_170919_170922]
            exact hrec_170904 _ x12_170917_170919_170922 (show (20 + 1 - x12_170917_170919_170922.toInt).toNat < n_170904 by omega) ⟨rfl, (show 0 ≤ x12_170917_170919_170922.toInt by omega), (show x12_170917_170919_170922.toInt ≤ 20 by omega)⟩
      · have l_1 : (1 : Int32).toInt = 1 := by decide
        have g26 : (((σ.1 0 36) >>> ((x2_170920 - 1) &&& 31)) &&& 1).toInt ≠ (1 : Int32).toInt := fun z => h_14 (Int32.toInt_inj.mp z)
        refine ok_some.mpr ?_
        refine ok_ite.mpr ⟨fun h_27 => ?_, fun h_27 => ?_⟩
        · have g28 : (0 : Int32).toInt = (0 : Int32).toInt := by rw [h_27]
          refine ok_nm2 (fun x8_170917_170919_170923 ex8_170917_170919_170923 => ?_)
          have f29 : (a2_170904 + (1 : Int32)).toInt = a2_170904.toInt + (1 : Int32).toInt := iadd_toInt (by omega) (by omega)
          have qx8_170917_170919_170923 : x8_170917_170919_170923.toInt = (a2_170904 + 1).toInt := by rw [ex8_170917_170919_170923]
          exact hrec_170904 _ x8_170917_170919_170923 (show (20 + 1 - x8_170917_170919_170923.toInt).toNat < n_170904 by omega) ⟨rfl, (show 0 ≤ x8_170917_170919_170923.toInt by omega), (show x8_170917_170919_170923.toInt ≤ 20 by omega)⟩
        · have g30 : (0 : Int32).toInt ≠ (0 : Int32).toInt := fun z => h_27 (Int32.toInt_inj.mp z)
          exfalso; omega
set_option maxRecDepth 20000 in
set_option maxHeartbeats 2000000 in
theorem o_fX10_picture {σ : gS} (hIσ : IM σ) {p1 : Int32} {p2 : Int32}  : Ok (fX10_picture σ p1 p2) (fun out => IM out.2 ∧ Fr fr_fX10_picture σ out.2) := by
  unfold fX10_picture
  have hfσ : Fr fr_fX10_picture σ σ := Fr_r
  refine ok_bd.mpr ?_
  try unfold fX10_isPicture
  refine ok_bd.mpr ?_
  try unfold fX10_pictures
  have l_7 : (7 : Int32).toInt = 7 := by decide
  refine ok_gd.mpr ⟨gb_of (by omega) (by omega), ?_⟩
  refine ok_nm2 (fun v1_170925 ev1_170925 => ?_)
  have f1 : 0 ≤ (σ.1 15 (7 : Int32).toNatClampNeg).toInt ∧ (σ.1 15 (7 : Int32).toNatClampNeg).toInt ≤ 12 := hIσ 15 _
  have qv1_170925 : v1_170925.toInt = (σ.1 15 (7 : Int32).toNatClampNeg).toInt := by rw [ev1_170925]
  refine ok_some.mpr ?_
  refine ok_bd.mpr ?_
  try unfold fX10_isIn
  refine ok_ite.mpr ⟨fun h_2 => ?_, fun h_2 => ?_⟩
  · have t3 : p1.toInt64.toInt = p1.toInt := Int32.toInt_toInt64 _
    have t4 : (0 : Int64).toInt = 0 := by decide
    have g5 : p1.toInt64.toInt < (0 : Int64).toInt := Int64.lt_iff_toInt_lt.mp h_2
    refine ok_some.mpr ?_
    refine ok_some.mpr ?_
    refine ok_ite.mpr ⟨fun h_6 => ?_, fun h_6 => ?_⟩
    · have f7 : (vp_nar .boolean 0).toInt = 0 := by decide
      have l_0 : (0 : Int32).toInt = 0 := by decide
      have g8 : (vp_nar .boolean 0).toInt = (0 : Int32).toInt := by rw [h_6]
      refine ok_some.mpr ?_
      exact ⟨hIσ, hfσ⟩
    · have f9 : (vp_nar .boolean 0).toInt = 0 := by decide
      have l_0 : (0 : Int32).toInt = 0 := by decide
      have g10 : (vp_nar .boolean 0).toInt ≠ (0 : Int32).toInt := fun z => h_6 (Int32.toInt_inj.mp z)
      exfalso; omega
  · have t11 : p1.toInt64.toInt = p1.toInt := Int32.toInt_toInt64 _
    have t12 : (0 : Int64).toInt = 0 := by decide
    have g13 : ¬ p1.toInt64.toInt < (0 : Int64).toInt := fun z => h_2 (Int64.lt_iff_toInt_lt.mpr z)
    refine ok_ite.mpr ⟨fun h_14 => ?_, fun h_14 => ?_⟩
    · have l_1 : (1 : Int32).toInt = 1 := by decide
      have f15 : (v1_170925 - (1 : Int32)).toInt = v1_170925.toInt - (1 : Int32).toInt := isub_toInt (by omega) (by omega)
      have t16 : (v1_170925 - 1).toInt64.toInt = (v1_170925 - 1).toInt := Int32.toInt_toInt64 _
      have g17 : (v1_170925 - 1).toInt64.toInt < p1.toInt64.toInt := Int64.lt_iff_toInt_lt.mp h_14
      refine ok_some.mpr ?_
      refine ok_some.mpr ?_
      refine ok_ite.mpr ⟨fun h_18 => ?_, fun h_18 => ?_⟩
      · have f19 : (vp_nar .boolean 0).toInt = 0 := by decide
        have l_0 : (0 : Int32).toInt = 0 := by decide
        have g20 : (vp_nar .boolean 0).toInt = (0 : Int32).toInt := by rw [h_18]
        refine ok_some.mpr ?_
        exact ⟨hIσ, hfσ⟩
      · have f21 : (vp_nar .boolean 0).toInt = 0 := by decide
        have l_0 : (0 : Int32).toInt = 0 := by decide
        have g22 : (vp_nar .boolean 0).toInt ≠ (0 : Int32).toInt := fun z => h_18 (Int32.toInt_inj.mp z)
        exfalso; omega
    · have l_1 : (1 : Int32).toInt = 1 := by decide
      have f23 : (v1_170925 - (1 : Int32)).toInt = v1_170925.toInt - (1 : Int32).toInt := isub_toInt (by omega) (by omega)
      have t24 : (v1_170925 - 1).toInt64.toInt = (v1_170925 - 1).toInt := Int32.toInt_toInt64 _
      have g25 : ¬ (v1_170925 - 1).toInt64.toInt < p1.toInt64.toInt := fun z => h_14 (Int64.lt_iff_toInt_lt.mpr z)
      refine ok_some.mpr ?_
      refine ok_some.mpr ?_
      refine ok_ite.mpr ⟨fun h_26 => ?_, fun h_26 => ?_⟩
      · have f27 : (vp_nar .boolean 1).toInt = 1 := by decide
        have l_0 : (0 : Int32).toInt = 0 := by decide
        have g28 : (vp_nar .boolean 1).toInt = (0 : Int32).toInt := by rw [h_26]
        exfalso; omega
      · have f29 : (vp_nar .boolean 1).toInt = 1 := by decide
        have l_0 : (0 : Int32).toInt = 0 := by decide
        have g30 : (vp_nar .boolean 1).toInt ≠ (0 : Int32).toInt := fun z => h_26 (Int32.toInt_inj.mp z)
        refine ok_ite.mpr ⟨fun h_31 => ?_, fun h_31 => ?_⟩
        · have g32 : p2.toInt = (0 : Int32).toInt := by rw [h_31]
          refine ok_bd.mpr ?_
          try unfold fX10_strip
          have l_12 : (12 : Int32).toInt = 12 := by decide
          have f33 : ((12 : Int32) + p1).toInt = (12 : Int32).toInt + p1.toInt := iadd_toInt (by omega) (by omega)
          refine ok_gd.mpr ⟨gb_of (by omega) (by omega), ?_⟩
          refine ok_nm2 (fun v1_170934 ev1_170934 => ?_)
          have f34 : 0 ≤ (σ.1 16 (12 + p1).toNatClampNeg).toInt ∧ (σ.1 16 (12 + p1).toNatClampNeg).toInt ≤ 5 := hIσ 16 _
          have qv1_170934 : v1_170934.toInt = (σ.1 16 (12 + p1).toNatClampNeg).toInt := by rw [ev1_170934]
          refine ok_some.mpr ?_
          refine ok_some.mpr ?_
          exact ⟨hIσ, hfσ⟩
        · have g35 : p2.toInt ≠ (0 : Int32).toInt := fun z => h_31 (Int32.toInt_inj.mp z)
          refine ok_ite.mpr ⟨fun h_36 => ?_, fun h_36 => ?_⟩
          · have g37 : p2.toInt = (1 : Int32).toInt := by rw [h_36]
            refine ok_gd.mpr ⟨gb_of (by omega) (by omega), ?_⟩
            refine ok_nm2 (fun v7_170926_170932_170933 ev7_170926_170932_170933 => ?_)
            have f38 : 0 ≤ (σ.1 27 p1.toNatClampNeg).toInt ∧ (σ.1 27 p1.toNatClampNeg).toInt ≤ 3 := by
              have hz : p1.toNatClampNeg = p1.toInt.toNat := rfl
              have hb := hIσ 27 p1.toNatClampNeg
              have hj : p1.toNatClampNeg = 0 ∨ p1.toNatClampNeg = 1 ∨ p1.toNatClampNeg = 2 ∨ p1.toNatClampNeg = 3 ∨ p1.toNatClampNeg = 4 ∨ p1.toNatClampNeg = 5 ∨ p1.toNatClampNeg = 6 ∨ p1.toNatClampNeg = 7 ∨ p1.toNatClampNeg = 8 ∨ p1.toNatClampNeg = 9 ∨ p1.toNatClampNeg = 10 ∨ p1.toNatClampNeg = 11 := by omega
              generalize p1.toNatClampNeg = j at hb hj ⊢
              rcases hj with rfl | rfl | rfl | rfl | rfl | rfl | rfl | rfl | rfl | rfl | rfl | rfl <;> exact ⟨Int.le_trans (by decide) hb.1, Int.le_trans hb.2 (by decide)⟩
            have qv7_170926_170932_170933 : v7_170926_170932_170933.toInt = (σ.1 27 p1.toNatClampNeg).toInt := by rw [ev7_170926_170932_170933]
            refine ok_some.mpr ?_
            exact ⟨hIσ, hfσ⟩
          · have g39 : p2.toInt ≠ (1 : Int32).toInt := fun z => h_36 (Int32.toInt_inj.mp z)
            refine ok_ite.mpr ⟨fun h_40 => ?_, fun h_40 => ?_⟩
            · have l_2 : (2 : Int32).toInt = 2 := by decide
              have g41 : p2.toInt = (2 : Int32).toInt := by rw [h_40]
              have l_12 : (12 : Int32).toInt = 12 := by decide
              have f42 : ((12 : Int32) + p1).toInt = (12 : Int32).toInt + p1.toInt := iadd_toInt (by omega) (by omega)
              refine ok_gd.mpr ⟨gb_of (by omega) (by omega), ?_⟩
              refine ok_nm2 (fun v9_170926_170932_170933 ev9_170926_170932_170933 => ?_)
              have f43 : 0 ≤ (σ.1 17 (12 + p1).toNatClampNeg).toInt ∧ (σ.1 17 (12 + p1).toNatClampNeg).toInt ≤ 4 := hIσ 17 _
              have qv9_170926_170932_170933 : v9_170926_170932_170933.toInt = (σ.1 17 (12 + p1).toNatClampNeg).toInt := by rw [ev9_170926_170932_170933]
              refine ok_ite.mpr ⟨fun h_44 => ?_, fun h_44 => ?_⟩
              · have l_4 : (4 : Int32).toInt = 4 := by decide
                have g45 : v9_170926_170932_170933.toInt = (4 : Int32).toInt := by rw [h_44]
                refine ok_some.mpr ?_
                exact ⟨hIσ, hfσ⟩
              · have l_4 : (4 : Int32).toInt = 4 := by decide
                have g46 : v9_170926_170932_170933.toInt ≠ (4 : Int32).toInt := fun z => h_44 (Int32.toInt_inj.mp z)
                refine ok_some.mpr ?_
                exact ⟨hIσ, hfσ⟩
            · have l_2 : (2 : Int32).toInt = 2 := by decide
              have g47 : p2.toInt ≠ (2 : Int32).toInt := fun z => h_40 (Int32.toInt_inj.mp z)
              refine ok_ite.mpr ⟨fun h_48 => ?_, fun h_48 => ?_⟩
              · have l_3 : (3 : Int32).toInt = 3 := by decide
                have g49 : p2.toInt = (3 : Int32).toInt := by rw [h_48]
                refine ok_gd.mpr ⟨gb_of (by omega) (by omega), ?_⟩
                refine ok_nm2 (fun v12_170926_170932_170933 ev12_170926_170932_170933 => ?_)
                refine ok_some.mpr ?_
                exact ⟨hIσ, hfσ⟩
              · have l_3 : (3 : Int32).toInt = 3 := by decide
                have g50 : p2.toInt ≠ (3 : Int32).toInt := fun z => h_48 (Int32.toInt_inj.mp z)
                refine ok_ite.mpr ⟨fun h_51 => ?_, fun h_51 => ?_⟩
                · have l_4 : (4 : Int32).toInt = 4 := by decide
                  have g52 : p2.toInt = (4 : Int32).toInt := by rw [h_51]
                  have l_38 : (38 : Int32).toInt = 38 := by decide
                  have f53 : ((38 : Int32) + p1).toInt = (38 : Int32).toInt + p1.toInt := iadd_toInt (by omega) (by omega)
                  refine ok_gd.mpr ⟨gb_of (by omega) (by omega), ?_⟩
                  refine ok_nm2 (fun v14_170926_170932_170933 ev14_170926_170932_170933 => ?_)
                  refine ok_some.mpr ?_
                  exact ⟨hIσ, hfσ⟩
                · have l_4 : (4 : Int32).toInt = 4 := by decide
                  have g54 : p2.toInt ≠ (4 : Int32).toInt := fun z => h_51 (Int32.toInt_inj.mp z)
                  refine ok_ite.mpr ⟨fun h_55 => ?_, fun h_55 => ?_⟩
                  · have l_5 : (5 : Int32).toInt = 5 := by decide
                    have g56 : p2.toInt = (5 : Int32).toInt := by rw [h_55]
                    have l_m1 : (-1 : Int32).toInt = -1 := by decide
                    refine ok_bd.mpr ((o_fX10_rowsOf hIσ (by omega) (by omega) (by omega) (by omega)).mono (fun r17_170926_170932_170933 ho_58 => ?_))
                    refine ok_some.mpr ?_
                    exact ⟨hIσ, hfσ⟩
                  · have l_5 : (5 : Int32).toInt = 5 := by decide
                    have g59 : p2.toInt ≠ (5 : Int32).toInt := fun z => h_55 (Int32.toInt_inj.mp z)
                    refine ok_ite.mpr ⟨fun h_60 => ?_, fun h_60 => ?_⟩
                    · have l_6 : (6 : Int32).toInt = 6 := by decide
                      have g61 : p2.toInt = (6 : Int32).toInt := by rw [h_60]
                      refine ok_bd.mpr ((o_fX10_hangs hIσ ).mono (fun σ20_170926_170932_170933 ho_63 => ?_))
                      obtain ⟨hIσ20_170926_170932_170933, hcσ20_170926_170932_170933⟩ := ho_63
                      have hfσ20_170926_170932_170933 : Fr fr_fX10_picture σ σ20_170926_170932_170933 := Fr_c hfσ hcσ20_170926_170932_170933 (by decide)
                      refine ok_bd.mpr ((o_fX10_isLoose hIσ20_170926_170932_170933 (by omega) (by omega)).mono (fun r22_170926_170932_170933 ho_65 => ?_))
                      obtain ⟨r0r22_170926_170932_170933, r1r22_170926_170932_170933⟩ := ho_65
                      refine ok_ite.mpr ⟨fun h_66 => ?_, fun h_66 => ?_⟩
                      · have g67 : r22_170926_170932_170933.toInt = (0 : Int32).toInt := by rw [h_66]
                        refine ok_some.mpr ?_
                        exact ⟨hIσ20_170926_170932_170933, hfσ20_170926_170932_170933⟩
                      · have g68 : r22_170926_170932_170933.toInt ≠ (0 : Int32).toInt := fun z => h_66 (Int32.toInt_inj.mp z)
                        refine ok_some.mpr ?_
                        exact ⟨hIσ20_170926_170932_170933, hfσ20_170926_170932_170933⟩
                    · have l_6 : (6 : Int32).toInt = 6 := by decide
                      have g69 : p2.toInt ≠ (6 : Int32).toInt := fun z => h_60 (Int32.toInt_inj.mp z)
                      refine ok_ite.mpr ⟨fun h_70 => ?_, fun h_70 => ?_⟩
                      · have g71 : p2.toInt = (7 : Int32).toInt := by rw [h_70]
                        refine ok_bd.mpr ?_
                        try unfold fX10_centreOf
                        have l_12 : (12 : Int32).toInt = 12 := by decide
                        have f72 : ((12 : Int32) + p1).toInt = (12 : Int32).toInt + p1.toInt := iadd_toInt (by omega) (by omega)
                        refine ok_gd.mpr ⟨gb_of (by omega) (by omega), ?_⟩
                        refine ok_nm2 (fun v1_170936 ev1_170936 => ?_)
                        have f73 : 0 ≤ (σ.1 18 (12 + p1).toNatClampNeg).toInt ∧ (σ.1 18 (12 + p1).toNatClampNeg).toInt ≤ 9 := hIσ 18 _
                        have qv1_170936 : v1_170936.toInt = (σ.1 18 (12 + p1).toNatClampNeg).toInt := by rw [ev1_170936]
                        refine ok_some.mpr ?_
                        refine ok_ite.mpr ⟨fun h_74 => ?_, fun h_74 => ?_⟩
                        · have g75 : v1_170936.toInt ≤ (0 : Int32).toInt := Int32.le_iff_toInt_le.mp h_74
                          refine ok_some.mpr ?_
                          exact ⟨hIσ, hfσ⟩
                        · have g76 : ¬ v1_170936.toInt ≤ (0 : Int32).toInt := fun z => h_74 (Int32.le_iff_toInt_le.mpr z)
                          refine ok_some.mpr ?_
                          exact ⟨hIσ, hfσ⟩
                      · have g77 : p2.toInt ≠ (7 : Int32).toInt := fun z => h_70 (Int32.toInt_inj.mp z)
                        refine ok_some.mpr ?_
                        exact ⟨hIσ, hfσ⟩
set_option maxRecDepth 20000 in
set_option maxHeartbeats 2000000 in
theorem o_fX10_point {σ : gS} (hIσ : IM σ) {p1 : Int32} {p2 : Int32}  : Ok (fX10_point σ p1 p2) (fun out => IM out.2 ∧ Fr fr_fX10_point σ out.2) := by
  unfold fX10_point
  have hfσ : Fr fr_fX10_point σ σ := Fr_r
  refine ok_bd.mpr ?_
  try unfold fX10_isPoint
  refine ok_bd.mpr ?_
  try unfold fX10_points
  have l_8 : (8 : Int32).toInt = 8 := by decide
  refine ok_gd.mpr ⟨gb_of (by omega) (by omega), ?_⟩
  refine ok_nm2 (fun v1_170939 ev1_170939 => ?_)
  have f1 : 0 ≤ (σ.1 15 (8 : Int32).toNatClampNeg).toInt ∧ (σ.1 15 (8 : Int32).toNatClampNeg).toInt ≤ 20 := hIσ 15 _
  have qv1_170939 : v1_170939.toInt = (σ.1 15 (8 : Int32).toNatClampNeg).toInt := by rw [ev1_170939]
  refine ok_some.mpr ?_
  refine ok_bd.mpr ?_
  try unfold fX10_isIn
  refine ok_ite.mpr ⟨fun h_2 => ?_, fun h_2 => ?_⟩
  · have t3 : p1.toInt64.toInt = p1.toInt := Int32.toInt_toInt64 _
    have t4 : (0 : Int64).toInt = 0 := by decide
    have g5 : p1.toInt64.toInt < (0 : Int64).toInt := Int64.lt_iff_toInt_lt.mp h_2
    refine ok_some.mpr ?_
    refine ok_some.mpr ?_
    refine ok_ite.mpr ⟨fun h_6 => ?_, fun h_6 => ?_⟩
    · have f7 : (vp_nar .boolean 0).toInt = 0 := by decide
      have l_0 : (0 : Int32).toInt = 0 := by decide
      have g8 : (vp_nar .boolean 0).toInt = (0 : Int32).toInt := by rw [h_6]
      refine ok_some.mpr ?_
      exact ⟨hIσ, hfσ⟩
    · have f9 : (vp_nar .boolean 0).toInt = 0 := by decide
      have l_0 : (0 : Int32).toInt = 0 := by decide
      have g10 : (vp_nar .boolean 0).toInt ≠ (0 : Int32).toInt := fun z => h_6 (Int32.toInt_inj.mp z)
      exfalso; omega
  · have t11 : p1.toInt64.toInt = p1.toInt := Int32.toInt_toInt64 _
    have t12 : (0 : Int64).toInt = 0 := by decide
    have g13 : ¬ p1.toInt64.toInt < (0 : Int64).toInt := fun z => h_2 (Int64.lt_iff_toInt_lt.mpr z)
    refine ok_ite.mpr ⟨fun h_14 => ?_, fun h_14 => ?_⟩
    · have l_1 : (1 : Int32).toInt = 1 := by decide
      have f15 : (v1_170939 - (1 : Int32)).toInt = v1_170939.toInt - (1 : Int32).toInt := isub_toInt (by omega) (by omega)
      have t16 : (v1_170939 - 1).toInt64.toInt = (v1_170939 - 1).toInt := Int32.toInt_toInt64 _
      have g17 : (v1_170939 - 1).toInt64.toInt < p1.toInt64.toInt := Int64.lt_iff_toInt_lt.mp h_14
      refine ok_some.mpr ?_
      refine ok_some.mpr ?_
      refine ok_ite.mpr ⟨fun h_18 => ?_, fun h_18 => ?_⟩
      · have f19 : (vp_nar .boolean 0).toInt = 0 := by decide
        have l_0 : (0 : Int32).toInt = 0 := by decide
        have g20 : (vp_nar .boolean 0).toInt = (0 : Int32).toInt := by rw [h_18]
        refine ok_some.mpr ?_
        exact ⟨hIσ, hfσ⟩
      · have f21 : (vp_nar .boolean 0).toInt = 0 := by decide
        have l_0 : (0 : Int32).toInt = 0 := by decide
        have g22 : (vp_nar .boolean 0).toInt ≠ (0 : Int32).toInt := fun z => h_18 (Int32.toInt_inj.mp z)
        exfalso; omega
    · have l_1 : (1 : Int32).toInt = 1 := by decide
      have f23 : (v1_170939 - (1 : Int32)).toInt = v1_170939.toInt - (1 : Int32).toInt := isub_toInt (by omega) (by omega)
      have t24 : (v1_170939 - 1).toInt64.toInt = (v1_170939 - 1).toInt := Int32.toInt_toInt64 _
      have g25 : ¬ (v1_170939 - 1).toInt64.toInt < p1.toInt64.toInt := fun z => h_14 (Int64.lt_iff_toInt_lt.mpr z)
      refine ok_some.mpr ?_
      refine ok_some.mpr ?_
      refine ok_ite.mpr ⟨fun h_26 => ?_, fun h_26 => ?_⟩
      · have f27 : (vp_nar .boolean 1).toInt = 1 := by decide
        have l_0 : (0 : Int32).toInt = 0 := by decide
        have g28 : (vp_nar .boolean 1).toInt = (0 : Int32).toInt := by rw [h_26]
        exfalso; omega
      · have f29 : (vp_nar .boolean 1).toInt = 1 := by decide
        have l_0 : (0 : Int32).toInt = 0 := by decide
        have g30 : (vp_nar .boolean 1).toInt ≠ (0 : Int32).toInt := fun z => h_26 (Int32.toInt_inj.mp z)
        refine ok_ite.mpr ⟨fun h_31 => ?_, fun h_31 => ?_⟩
        · have g32 : p2.toInt = (0 : Int32).toInt := by rw [h_31]
          have l_12 : (12 : Int32).toInt = 12 := by decide
          have f33 : ((12 : Int32) + p1).toInt = (12 : Int32).toInt + p1.toInt := iadd_toInt (by omega) (by omega)
          refine ok_gd.mpr ⟨gb_of (by omega) (by omega), ?_⟩
          refine ok_nm2 (fun v4_170940_170946_170947 ev4_170940_170946_170947 => ?_)
          refine ok_some.mpr ?_
          exact ⟨hIσ, hfσ⟩
        · have g34 : p2.toInt ≠ (0 : Int32).toInt := fun z => h_31 (Int32.toInt_inj.mp z)
          refine ok_ite.mpr ⟨fun h_35 => ?_, fun h_35 => ?_⟩
          · have g36 : p2.toInt = (1 : Int32).toInt := by rw [h_35]
            have l_50 : (50 : Int32).toInt = 50 := by decide
            have f37 : ((50 : Int32) + p1).toInt = (50 : Int32).toInt + p1.toInt := iadd_toInt (by omega) (by omega)
            refine ok_gd.mpr ⟨gb_of (by omega) (by omega), ?_⟩
            refine ok_nm2 (fun v6_170940_170946_170947 ev6_170940_170946_170947 => ?_)
            refine ok_some.mpr ?_
            exact ⟨hIσ, hfσ⟩
          · have g38 : p2.toInt ≠ (1 : Int32).toInt := fun z => h_35 (Int32.toInt_inj.mp z)
            refine ok_ite.mpr ⟨fun h_39 => ?_, fun h_39 => ?_⟩
            · have l_2 : (2 : Int32).toInt = 2 := by decide
              have g40 : p2.toInt = (2 : Int32).toInt := by rw [h_39]
              have l_m1 : (-1 : Int32).toInt = -1 := by decide
              refine ok_bd.mpr ((o_fX10_rowsOf hIσ (by omega) (by omega) (by omega) (by omega)).mono (fun r9_170940_170946_170947 ho_42 => ?_))
              refine ok_some.mpr ?_
              exact ⟨hIσ, hfσ⟩
            · have l_2 : (2 : Int32).toInt = 2 := by decide
              have g43 : p2.toInt ≠ (2 : Int32).toInt := fun z => h_39 (Int32.toInt_inj.mp z)
              refine ok_ite.mpr ⟨fun h_44 => ?_, fun h_44 => ?_⟩
              · have l_3 : (3 : Int32).toInt = 3 := by decide
                have g45 : p2.toInt = (3 : Int32).toInt := by rw [h_44]
                have l_20 : (20 : Int32).toInt = 20 := by decide
                have f46 : ((20 : Int32) + p1).toInt = (20 : Int32).toInt + p1.toInt := iadd_toInt (by omega) (by omega)
                refine ok_gd.mpr ⟨gb_of (by omega) (by omega), ?_⟩
                refine ok_nm2 (fun v11_170940_170946_170947 ev11_170940_170946_170947 => ?_)
                have f47 : 0 ≤ (σ.1 20 (20 + p1).toNatClampNeg).toInt ∧ (σ.1 20 (20 + p1).toNatClampNeg).toInt ≤ 2 := hIσ 20 _
                have qv11_170940_170946_170947 : v11_170940_170946_170947.toInt = (σ.1 20 (20 + p1).toNatClampNeg).toInt := by rw [ev11_170940_170946_170947]
                refine ok_ite.mpr ⟨fun h_48 => ?_, fun h_48 => ?_⟩
                · have g49 : v11_170940_170946_170947.toInt = (0 : Int32).toInt := by rw [h_48]
                  refine ok_some.mpr ?_
                  exact ⟨hIσ, hfσ⟩
                · have g50 : v11_170940_170946_170947.toInt ≠ (0 : Int32).toInt := fun z => h_48 (Int32.toInt_inj.mp z)
                  refine ok_some.mpr ?_
                  exact ⟨hIσ, hfσ⟩
              · have l_3 : (3 : Int32).toInt = 3 := by decide
                have g51 : p2.toInt ≠ (3 : Int32).toInt := fun z => h_44 (Int32.toInt_inj.mp z)
                refine ok_ite.mpr ⟨fun h_52 => ?_, fun h_52 => ?_⟩
                · have l_4 : (4 : Int32).toInt = 4 := by decide
                  have g53 : p2.toInt = (4 : Int32).toInt := by rw [h_52]
                  refine ok_bd.mpr ?_
                  try unfold fX10_isControl
                  have l_20 : (20 : Int32).toInt = 20 := by decide
                  have f54 : ((20 : Int32) + p1).toInt = (20 : Int32).toInt + p1.toInt := iadd_toInt (by omega) (by omega)
                  refine ok_gd.mpr ⟨gb_of (by omega) (by omega), ?_⟩
                  refine ok_nm2 (fun v1_170948 ev1_170948 => ?_)
                  have f55 : 0 ≤ (σ.1 20 (20 + p1).toNatClampNeg).toInt ∧ (σ.1 20 (20 + p1).toNatClampNeg).toInt ≤ 2 := hIσ 20 _
                  have qv1_170948 : v1_170948.toInt = (σ.1 20 (20 + p1).toNatClampNeg).toInt := by rw [ev1_170948]
                  refine ok_nm2 (fun x2_170948 ex2_170948 => ?_)
                  have qx2_170948 : x2_170948.toInt = v1_170948.toInt := by rw [ex2_170948]
                  refine ok_ite.mpr ⟨fun h_56 => ?_, fun h_56 => ?_⟩
                  · have g57 : x2_170948.toInt = (0 : Int32).toInt := by rw [h_56]
                    refine ok_some.mpr ?_
                    refine ok_ite.mpr ⟨fun h_58 => ?_, fun h_58 => ?_⟩
                    · have g59 : (0 : Int32).toInt = (0 : Int32).toInt := by rw [h_58]
                      refine ok_some.mpr ?_
                      exact ⟨hIσ, hfσ⟩
                    · have g60 : (0 : Int32).toInt ≠ (0 : Int32).toInt := fun z => h_58 (Int32.toInt_inj.mp z)
                      exfalso; omega
                  · have g61 : x2_170948.toInt ≠ (0 : Int32).toInt := fun z => h_56 (Int32.toInt_inj.mp z)
                    refine ok_ite.mpr ⟨fun h_62 => ?_, fun h_62 => ?_⟩
                    · have g63 : (((σ.1 0 36) >>> ((x2_170948 - 1) &&& 31)) &&& 1).toInt = (1 : Int32).toInt := by rw [h_62]
                      refine ok_some.mpr ?_
                      refine ok_ite.mpr ⟨fun h_64 => ?_, fun h_64 => ?_⟩
                      · have g65 : (1 : Int32).toInt = (0 : Int32).toInt := by rw [h_64]
                        exfalso; omega
                      · have g66 : (1 : Int32).toInt ≠ (0 : Int32).toInt := fun z => h_64 (Int32.toInt_inj.mp z)
                        refine ok_some.mpr ?_
                        exact ⟨hIσ, hfσ⟩
                    · have g67 : (((σ.1 0 36) >>> ((x2_170948 - 1) &&& 31)) &&& 1).toInt ≠ (1 : Int32).toInt := fun z => h_62 (Int32.toInt_inj.mp z)
                      refine ok_some.mpr ?_
                      refine ok_ite.mpr ⟨fun h_68 => ?_, fun h_68 => ?_⟩
                      · have g69 : (0 : Int32).toInt = (0 : Int32).toInt := by rw [h_68]
                        refine ok_some.mpr ?_
                        exact ⟨hIσ, hfσ⟩
                      · have g70 : (0 : Int32).toInt ≠ (0 : Int32).toInt := fun z => h_68 (Int32.toInt_inj.mp z)
                        exfalso; omega
                · have l_4 : (4 : Int32).toInt = 4 := by decide
                  have g71 : p2.toInt ≠ (4 : Int32).toInt := fun z => h_52 (Int32.toInt_inj.mp z)
                  refine ok_ite.mpr ⟨fun h_72 => ?_, fun h_72 => ?_⟩
                  · have l_5 : (5 : Int32).toInt = 5 := by decide
                    have g73 : p2.toInt = (5 : Int32).toInt := by rw [h_72]
                    refine ok_bd.mpr ((o_fX10_hangs hIσ ).mono (fun σ19_170940_170946_170947 ho_75 => ?_))
                    obtain ⟨hIσ19_170940_170946_170947, hcσ19_170940_170946_170947⟩ := ho_75
                    have hfσ19_170940_170946_170947 : Fr fr_fX10_point σ σ19_170940_170946_170947 := Fr_c hfσ hcσ19_170940_170946_170947 (by decide)
                    have l_12 : (12 : Int32).toInt = 12 := by decide
                    have f76 : ((12 : Int32) + p1).toInt = (12 : Int32).toInt + p1.toInt := iadd_toInt (by omega) (by omega)
                    refine ok_bd.mpr ((o_fX10_isLoose hIσ19_170940_170946_170947 (by omega) (by omega)).mono (fun r21_170940_170946_170947 ho_78 => ?_))
                    obtain ⟨r0r21_170940_170946_170947, r1r21_170940_170946_170947⟩ := ho_78
                    refine ok_ite.mpr ⟨fun h_79 => ?_, fun h_79 => ?_⟩
                    · have g80 : r21_170940_170946_170947.toInt = (0 : Int32).toInt := by rw [h_79]
                      refine ok_some.mpr ?_
                      exact ⟨hIσ19_170940_170946_170947, hfσ19_170940_170946_170947⟩
                    · have g81 : r21_170940_170946_170947.toInt ≠ (0 : Int32).toInt := fun z => h_79 (Int32.toInt_inj.mp z)
                      refine ok_some.mpr ?_
                      exact ⟨hIσ19_170940_170946_170947, hfσ19_170940_170946_170947⟩
                  · have l_5 : (5 : Int32).toInt = 5 := by decide
                    have g82 : p2.toInt ≠ (5 : Int32).toInt := fun z => h_72 (Int32.toInt_inj.mp z)
                    refine ok_some.mpr ?_
                    exact ⟨hIσ, hfσ⟩
set_option maxRecDepth 20000 in
set_option maxHeartbeats 2000000 in
theorem o_fX10_canShow {σ : gS} (hIσ : IM σ) {p1 : Int32} (h0p1 : 0 ≤ p1.toInt) (h1p1 : p1.toInt ≤ 59) : Ok (fX10_canShow σ p1) (fun out => IM out.2 ∧ Fr fr_fX10_canShow σ out.2 ∧ 0 ≤ out.1.toInt ∧ out.1.toInt ≤ 1) := by
  unfold fX10_canShow
  have hfσ : Fr fr_fX10_canShow σ σ := Fr_r
  refine ok_gd.mpr ⟨gb_of (by omega) (by omega), ?_⟩
  refine ok_nm2 (fun v1 ev1 => ?_)
  have f1 : 0 ≤ (σ.1 26 p1.toNatClampNeg).toInt ∧ (σ.1 26 p1.toNatClampNeg).toInt ≤ 1 := hIσ 26 _
  have qv1 : v1.toInt = (σ.1 26 p1.toNatClampNeg).toInt := by rw [ev1]
  refine ok_ite.mpr ⟨fun h_2 => ?_, fun h_2 => ?_⟩
  · have l_0 : (0 : Int32).toInt = 0 := by decide
    have g3 : v1.toInt = (0 : Int32).toInt := by rw [h_2]
    refine ok_gd.mpr ⟨gb_of (by omega) (by omega), ?_⟩
    refine ok_nm2 (fun σ3 eσ3 => ?_)
    have f4 : (vp_nar .boolean 1).toInt = 1 := by decide
    have hIσ3 : IM σ3 := by rw [eσ3]; exact IM_w hIσ (show 0 ≤ _ by omega) (show _ ≤ 1 by omega)
    have hfσ3 : Fr fr_fX10_canShow σ σ3 := by rw [eσ3]; exact Fr_w0 hfσ (by decide)
    refine ok_bd.mpr ((o_fX10_hangs hIσ3 ).mono (fun σ5 ho_6 => ?_))
    obtain ⟨hIσ5, hcσ5⟩ := ho_6
    have hfσ5 : Fr fr_fX10_canShow σ σ5 := Fr_c hfσ3 hcσ5 (by decide)
    refine ok_gd.mpr ⟨gb_of (by omega) (by omega), ?_⟩
    refine ok_nm2 (fun σ6 eσ6 => ?_)
    have f7 : (vp_nar .boolean 0).toInt = 0 := by decide
    have hIσ6 : IM σ6 := by rw [eσ6]; exact IM_w hIσ5 (show 0 ≤ _ by omega) (show _ ≤ 1 by omega)
    have hfσ6 : Fr fr_fX10_canShow σ σ6 := by rw [eσ6]; exact Fr_w0 hfσ5 (by decide)
    refine ok_bd.mpr ?_
    try unfold fX10_pictureOf
    have l_60 : (60 : Int32).toInt = 60 := by decide
    have f8 : ((60 : Int32) + p1).toInt = (60 : Int32).toInt + p1.toInt := iadd_toInt (by omega) (by omega)
    refine ok_gd.mpr ⟨gb_of (by omega) (by omega), ?_⟩
    refine ok_nm2 (fun v1_170953 ev1_170953 => ?_)
    have f9 : 0 ≤ (σ6.1 22 (60 + p1).toNatClampNeg).toInt ∧ (σ6.1 22 (60 + p1).toNatClampNeg).toInt ≤ 11 := hIσ6 22 _
    have qv1_170953 : v1_170953.toInt = (σ6.1 22 (60 + p1).toNatClampNeg).toInt := by rw [ev1_170953]
    refine ok_some.mpr ?_
    refine ok_nm2 (fun x9_170954 ex9_170954 => ?_)
    have qx9_170954 : x9_170954.toInt = v1_170953.toInt := by rw [ex9_170954]
    refine ok_bd.mpr ?_
    try unfold fX10_pointOf
    refine ok_gd.mpr ⟨gb_of (by omega) (by omega), ?_⟩
    refine ok_nm2 (fun v1_170955 ev1_170955 => ?_)
    have f10 : 0 ≤ (σ6.1 23 (60 + p1).toNatClampNeg).toInt ∧ (σ6.1 23 (60 + p1).toNatClampNeg).toInt ≤ 19 := hIσ6 23 _
    have qv1_170955 : v1_170955.toInt = (σ6.1 23 (60 + p1).toNatClampNeg).toInt := by rw [ev1_170955]
    refine ok_some.mpr ?_
    refine ok_nm2 (fun x12_170954_170956 ex12_170954_170956 => ?_)
    have l_12 : (12 : Int32).toInt = 12 := by decide
    have f11 : ((12 : Int32) + v1_170955).toInt = (12 : Int32).toInt + v1_170955.toInt := iadd_toInt (by omega) (by omega)
    have qx12_170954_170956 : x12_170954_170956.toInt = (12 + v1_170955).toInt := by rw [ex12_170954_170956]
    refine ok_gd.mpr ⟨gb_of (by omega) (by omega), ?_⟩
    refine ok_nm2 (fun v13_170954_170956 ev13_170954_170956 => ?_)
    have f12 : 0 ≤ (σ6.1 32 x9_170954.toNatClampNeg).toInt ∧ (σ6.1 32 x9_170954.toNatClampNeg).toInt ≤ 31 := hIσ6 32 _
    have qv13_170954_170956 : v13_170954_170956.toInt = (σ6.1 32 x9_170954.toNatClampNeg).toInt := by rw [ev13_170954_170956]
    refine ok_gd.mpr ⟨gb_of (by omega) (by omega), ?_⟩
    refine ok_nm2 (fun v14_170954_170956 ev14_170954_170956 => ?_)
    have f13 : 0 ≤ (σ6.1 32 x12_170954_170956.toNatClampNeg).toInt ∧ (σ6.1 32 x12_170954_170956.toNatClampNeg).toInt ≤ 31 := hIσ6 32 _
    have qv14_170954_170956 : v14_170954_170956.toInt = (σ6.1 32 x12_170954_170956.toNatClampNeg).toInt := by rw [ev14_170954_170956]
    refine ok_ite.mpr ⟨fun h_14 => ?_, fun h_14 => ?_⟩
    · have g15 : v13_170954_170956.toInt = v14_170954_170956.toInt := by rw [h_14]
      refine ok_some.mpr ?_
      have l_1 : (1 : Int32).toInt = 1 := by decide
      exact ⟨hIσ6, hfσ6, (show 0 ≤ (1 : Int32).toInt by omega), (show (1 : Int32).toInt ≤ 1 by omega)⟩
    · have g16 : v13_170954_170956.toInt ≠ v14_170954_170956.toInt := fun z => h_14 (Int32.toInt_inj.mp z)
      refine ok_bd.mpr ((o_fX10_isLoose hIσ6 (by omega) (by omega)).mono (fun r17_170954_170956 ho_18 => ?_))
      obtain ⟨r0r17_170954_170956, r1r17_170954_170956⟩ := ho_18
      refine ok_ite.mpr ⟨fun h_19 => ?_, fun h_19 => ?_⟩
      · have g20 : r17_170954_170956.toInt = (0 : Int32).toInt := by rw [h_19]
        refine ok_bd.mpr ((o_fX10_isLoose hIσ6 (by omega) (by omega)).mono (fun r20_170954_170956 ho_22 => ?_))
        obtain ⟨r0r20_170954_170956, r1r20_170954_170956⟩ := ho_22
        refine ok_ite.mpr ⟨fun h_23 => ?_, fun h_23 => ?_⟩
        · have g24 : r20_170954_170956.toInt = (0 : Int32).toInt := by rw [h_23]
          refine ok_some.mpr ?_
          have l_1 : (1 : Int32).toInt = 1 := by decide
          exact ⟨hIσ6, hfσ6, (show 0 ≤ (1 : Int32).toInt by omega), (show (1 : Int32).toInt ≤ 1 by omega)⟩
        · have g25 : r20_170954_170956.toInt ≠ (0 : Int32).toInt := fun z => h_23 (Int32.toInt_inj.mp z)
          refine ok_some.mpr ?_
          exact ⟨hIσ6, hfσ6, (show 0 ≤ (0 : Int32).toInt by omega), (show (0 : Int32).toInt ≤ 1 by omega)⟩
      · have g26 : r17_170954_170956.toInt ≠ (0 : Int32).toInt := fun z => h_19 (Int32.toInt_inj.mp z)
        refine ok_some.mpr ?_
        exact ⟨hIσ6, hfσ6, (show 0 ≤ (0 : Int32).toInt by omega), (show (0 : Int32).toInt ≤ 1 by omega)⟩
  · have l_0 : (0 : Int32).toInt = 0 := by decide
    have g27 : v1.toInt ≠ (0 : Int32).toInt := fun z => h_2 (Int32.toInt_inj.mp z)
    refine ok_some.mpr ?_
    exact ⟨hIσ, hfσ, (show 0 ≤ (0 : Int32).toInt by omega), (show (0 : Int32).toInt ≤ 1 by omega)⟩
set_option maxRecDepth 20000 in
set_option maxHeartbeats 2000000 in
theorem o_fX10_hasDrift {σ : gS} (hIσ : IM σ) {p1 : Int32} (h0p1 : 0 ≤ p1.toInt) (h1p1 : p1.toInt ≤ 2147483647) : Ok (fX10_hasDrift σ p1) (fun out => 0 ≤ out.toInt ∧ out.toInt ≤ 1) := by
  unfold fX10_hasDrift
  have hfσ : Fr fr_fX10_hasDrift σ σ := Fr_r
  refine ok_nm2 (fun x1 ex1 => ?_)
  have l_0 : (0 : Int32).toInt = 0 := by decide
  have qx1 : x1.toInt = 0 := by rw [ex1]; decide
  refine ok_lpc (I := fun n s => n = (12 + 1 - s.toInt).toNat ∧ 0 ≤ s.toInt ∧ s.toInt ≤ 12) (fun rec2_170976r n_170976 s_170976 hs_170976 hrec_170976 => ?_) K9 _ _ ⟨rfl, (by (try dsimp only); omega), (by (try dsimp only); omega)⟩ (by unfold K9; (try dsimp only); omega)
  obtain ⟨a2_170976, hq_170976⟩ : ∃ y, y = s_170976 := ⟨_, rfl⟩
  subst hq_170976
  obtain ⟨hn_170976, b0a2_170976, b1a2_170976⟩ := hs_170976
  skip
  unfold bX10_hasDrift_2
  try dsimp only
  refine ok_bd.mpr ?_
  try unfold fX10_pictures
  have l_7 : (7 : Int32).toInt = 7 := by decide
  refine ok_gd.mpr ⟨gb_of (by omega) (by omega), ?_⟩
  refine ok_nm2 (fun v1_170993 ev1_170993 => ?_)
  have f1 : 0 ≤ (σ.1 15 (7 : Int32).toNatClampNeg).toInt ∧ (σ.1 15 (7 : Int32).toNatClampNeg).toInt ≤ 12 := hIσ 15 _
  have qv1_170993 : v1_170993.toInt = (σ.1 15 (7 : Int32).toNatClampNeg).toInt := by rw [ev1_170993]
  refine ok_some.mpr ?_
  refine ok_ite.mpr ⟨fun h_2 => ?_, fun h_2 => ?_⟩
  · have g3 : v1_170993.toInt ≤ a2_170976.toInt := Int32.le_iff_toInt_le.mp h_2
    refine ok_some.mpr ?_
    exact ⟨(show 0 ≤ (0 : Int32).toInt by omega), (show (0 : Int32).toInt ≤ 1 by omega)⟩
  · have g4 : ¬ v1_170993.toInt ≤ a2_170976.toInt := fun z => h_2 (Int32.le_iff_toInt_le.mpr z)
    refine ok_bd.mpr ?_
    try unfold fX10_strip
    have l_12 : (12 : Int32).toInt = 12 := by decide
    have f5 : ((12 : Int32) + a2_170976).toInt = (12 : Int32).toInt + a2_170976.toInt := iadd_toInt (by omega) (by omega)
    refine ok_gd.mpr ⟨gb_of (by omega) (by omega), ?_⟩
    refine ok_nm2 (fun v1_170995 ev1_170995 => ?_)
    have f6 : 0 ≤ (σ.1 16 (12 + a2_170976).toNatClampNeg).toInt ∧ (σ.1 16 (12 + a2_170976).toNatClampNeg).toInt ≤ 5 := hIσ 16 _
    have qv1_170995 : v1_170995.toInt = (σ.1 16 (12 + a2_170976).toNatClampNeg).toInt := by rw [ev1_170995]
    refine ok_some.mpr ?_
    refine ok_ite.mpr ⟨fun h_7 => ?_, fun h_7 => ?_⟩
    · have g8 : v1_170995.toInt = p1.toInt := by rw [h_7]
      refine ok_bd.mpr ?_
      try unfold fX10_centreOf
      refine ok_gd.mpr ⟨gb_of (by omega) (by omega), ?_⟩
      refine ok_nm2 (fun v1_170997 ev1_170997 => ?_)
      have f9 : 0 ≤ (σ.1 18 (12 + a2_170976).toNatClampNeg).toInt ∧ (σ.1 18 (12 + a2_170976).toNatClampNeg).toInt ≤ 9 := hIσ 18 _
      have qv1_170997 : v1_170997.toInt = (σ.1 18 (12 + a2_170976).toNatClampNeg).toInt := by rw [ev1_170997]
      refine ok_some.mpr ?_
      refine ok_ite.mpr ⟨fun h_10 => ?_, fun h_10 => ?_⟩
      · have g11 : v1_170997.toInt ≤ (0 : Int32).toInt := Int32.le_iff_toInt_le.mp h_10
        refine ok_nm2 (fun x12_170992_170994_170996_170998 ex12_170992_170994_170996_170998 => ?_)
        have l_1 : (1 : Int32).toInt = 1 := by decide
        have f12 : (a2_170976 + (1 : Int32)).toInt = a2_170976.toInt + (1 : Int32).toInt := iadd_toInt (by omega) (by omega)
        have qx12_170992_170994_170996_170998 : x12_170992_170994_170996_170998.toInt = (a2_170976 + 1).toInt := by rw [ex12_170992_170994_170996_170998]
        exact hrec_170976 _ x12_170992_170994_170996_170998 (show (12 + 1 - x12_170992_170994_170996_170998.toInt).toNat < n_170976 by omega) ⟨rfl, (show 0 ≤ x12_170992_170994_170996_170998.toInt by omega), (show x12_170992_170994_170996_170998.toInt ≤ 12 by omega)⟩
      · have g13 : ¬ v1_170997.toInt ≤ (0 : Int32).toInt := fun z => h_10 (Int32.le_iff_toInt_le.mpr z)
        refine ok_some.mpr ?_
        have l_1 : (1 : Int32).toInt = 1 := by decide
        exact ⟨(show 0 ≤ (1 : Int32).toInt by omega), (show (1 : Int32).toInt ≤ 1 by omega)⟩
    · have g14 : v1_170995.toInt ≠ p1.toInt := fun z => h_7 (Int32.toInt_inj.mp z)
      refine ok_nm2 (fun x8_170992_170994_170996 ex8_170992_170994_170996 => ?_)
      have l_1 : (1 : Int32).toInt = 1 := by decide
      have f15 : (a2_170976 + (1 : Int32)).toInt = a2_170976.toInt + (1 : Int32).toInt := iadd_toInt (by omega) (by omega)
      have qx8_170992_170994_170996 : x8_170992_170994_170996.toInt = (a2_170976 + 1).toInt := by rw [ex8_170992_170994_170996]
      exact hrec_170976 _ x8_170992_170994_170996 (show (12 + 1 - x8_170992_170994_170996.toInt).toNat < n_170976 by omega) ⟨rfl, (show 0 ≤ x8_170992_170994_170996.toInt by omega), (show x8_170992_170994_170996.toInt ≤ 12 by omega)⟩
set_option maxRecDepth 20000 in
set_option maxHeartbeats 2000000 in
theorem o_fX10_drift {σ : gS} (hIσ : IM σ) {p1 : Int32} {p2 : Int32}  : Ok (fX10_drift σ p1 p2) (fun _ => True) := by
  unfold fX10_drift
  have hfσ : Fr fr_fX10_drift σ σ := Fr_r
  have l_6 : (6 : Int32).toInt = 6 := by decide
  refine ok_gd.mpr ⟨gb_of (by omega) (by omega), ?_⟩
  refine ok_nm2 (fun v1 ev1 => ?_)
  have f1 : 0 ≤ (σ.1 15 (6 : Int32).toNatClampNeg).toInt ∧ (σ.1 15 (6 : Int32).toNatClampNeg).toInt ≤ 6 := hIσ 15 _
  have qv1 : v1.toInt = (σ.1 15 (6 : Int32).toNatClampNeg).toInt := by rw [ev1]
  refine ok_bd.mpr ?_
  try unfold fX10_isIn
  refine ok_ite.mpr ⟨fun h_2 => ?_, fun h_2 => ?_⟩
  · have t3 : p1.toInt64.toInt = p1.toInt := Int32.toInt_toInt64 _
    have t4 : (0 : Int64).toInt = 0 := by decide
    have g5 : p1.toInt64.toInt < (0 : Int64).toInt := Int64.lt_iff_toInt_lt.mp h_2
    refine ok_some.mpr ?_
    refine ok_ite.mpr ⟨fun h_6 => ?_, fun h_6 => ?_⟩
    · have l_0 : (0 : Int32).toInt = 0 := by decide
      have g7 : (0 : Int32).toInt = (0 : Int32).toInt := by rw [h_6]
      refine ok_some.mpr ?_
      exact trivial
    · have l_0 : (0 : Int32).toInt = 0 := by decide
      have g8 : (0 : Int32).toInt ≠ (0 : Int32).toInt := fun z => h_6 (Int32.toInt_inj.mp z)
      exfalso; omega
  · have t9 : p1.toInt64.toInt = p1.toInt := Int32.toInt_toInt64 _
    have t10 : (0 : Int64).toInt = 0 := by decide
    have g11 : ¬ p1.toInt64.toInt < (0 : Int64).toInt := fun z => h_2 (Int64.lt_iff_toInt_lt.mpr z)
    refine ok_ite.mpr ⟨fun h_12 => ?_, fun h_12 => ?_⟩
    · have l_1 : (1 : Int32).toInt = 1 := by decide
      have f13 : (v1 - (1 : Int32)).toInt = v1.toInt - (1 : Int32).toInt := isub_toInt (by omega) (by omega)
      have t14 : (v1 - 1).toInt64.toInt = (v1 - 1).toInt := Int32.toInt_toInt64 _
      have g15 : (v1 - 1).toInt64.toInt < p1.toInt64.toInt := Int64.lt_iff_toInt_lt.mp h_12
      refine ok_some.mpr ?_
      refine ok_ite.mpr ⟨fun h_16 => ?_, fun h_16 => ?_⟩
      · have l_0 : (0 : Int32).toInt = 0 := by decide
        have g17 : (0 : Int32).toInt = (0 : Int32).toInt := by rw [h_16]
        refine ok_some.mpr ?_
        exact trivial
      · have l_0 : (0 : Int32).toInt = 0 := by decide
        have g18 : (0 : Int32).toInt ≠ (0 : Int32).toInt := fun z => h_16 (Int32.toInt_inj.mp z)
        exfalso; omega
    · have l_1 : (1 : Int32).toInt = 1 := by decide
      have f19 : (v1 - (1 : Int32)).toInt = v1.toInt - (1 : Int32).toInt := isub_toInt (by omega) (by omega)
      have t20 : (v1 - 1).toInt64.toInt = (v1 - 1).toInt := Int32.toInt_toInt64 _
      have g21 : ¬ (v1 - 1).toInt64.toInt < p1.toInt64.toInt := fun z => h_12 (Int64.lt_iff_toInt_lt.mpr z)
      refine ok_some.mpr ?_
      refine ok_ite.mpr ⟨fun h_22 => ?_, fun h_22 => ?_⟩
      · have l_0 : (0 : Int32).toInt = 0 := by decide
        have g23 : (1 : Int32).toInt = (0 : Int32).toInt := by rw [h_22]
        exfalso; omega
      · have l_0 : (0 : Int32).toInt = 0 := by decide
        have g24 : (1 : Int32).toInt ≠ (0 : Int32).toInt := fun z => h_22 (Int32.toInt_inj.mp z)
        refine ok_bd.mpr ?_
        try unfold fX10_isIn
        refine ok_ite.mpr ⟨fun h_25 => ?_, fun h_25 => ?_⟩
        · have t26 : p2.toInt64.toInt = p2.toInt := Int32.toInt_toInt64 _
          have g27 : p2.toInt64.toInt < (0 : Int64).toInt := Int64.lt_iff_toInt_lt.mp h_25
          refine ok_some.mpr ?_
          refine ok_ite.mpr ⟨fun h_28 => ?_, fun h_28 => ?_⟩
          · have g29 : (0 : Int32).toInt = (0 : Int32).toInt := by rw [h_28]
            refine ok_some.mpr ?_
            exact trivial
          · have g30 : (0 : Int32).toInt ≠ (0 : Int32).toInt := fun z => h_28 (Int32.toInt_inj.mp z)
            exfalso; omega
        · have t31 : p2.toInt64.toInt = p2.toInt := Int32.toInt_toInt64 _
          have g32 : ¬ p2.toInt64.toInt < (0 : Int64).toInt := fun z => h_25 (Int64.lt_iff_toInt_lt.mpr z)
          refine ok_ite.mpr ⟨fun h_33 => ?_, fun h_33 => ?_⟩
          · have t34 : (1 : Int64).toInt = 1 := by decide
            have g35 : (1 : Int64).toInt < p2.toInt64.toInt := Int64.lt_iff_toInt_lt.mp h_33
            refine ok_some.mpr ?_
            refine ok_ite.mpr ⟨fun h_36 => ?_, fun h_36 => ?_⟩
            · have g37 : (0 : Int32).toInt = (0 : Int32).toInt := by rw [h_36]
              refine ok_some.mpr ?_
              exact trivial
            · have g38 : (0 : Int32).toInt ≠ (0 : Int32).toInt := fun z => h_36 (Int32.toInt_inj.mp z)
              exfalso; omega
          · have t39 : (1 : Int64).toInt = 1 := by decide
            have g40 : ¬ (1 : Int64).toInt < p2.toInt64.toInt := fun z => h_33 (Int64.lt_iff_toInt_lt.mpr z)
            refine ok_some.mpr ?_
            refine ok_ite.mpr ⟨fun h_41 => ?_, fun h_41 => ?_⟩
            · have g42 : (1 : Int32).toInt = (0 : Int32).toInt := by rw [h_41]
              exfalso; omega
            · have g43 : (1 : Int32).toInt ≠ (0 : Int32).toInt := fun z => h_41 (Int32.toInt_inj.mp z)
              refine ok_bd.mpr ((o_fX10_hasDrift hIσ (by omega) (by omega)).mono (fun r9_171002_171006 ho_45 => ?_))
              obtain ⟨r0r9_171002_171006, r1r9_171002_171006⟩ := ho_45
              refine ok_ite.mpr ⟨fun h_46 => ?_, fun h_46 => ?_⟩
              · have g47 : r9_171002_171006.toInt = (0 : Int32).toInt := by rw [h_46]
                refine ok_some.mpr ?_
                exact trivial
              · have g48 : r9_171002_171006.toInt ≠ (0 : Int32).toInt := fun z => h_46 (Int32.toInt_inj.mp z)
                have l_38 : (38 : Int32).toInt = 38 := by decide
                have f49 : ((38 : Int32) * p2).toInt = 38 * p2.toInt := imulc l_38 (by omega) (by omega)
                have l_32 : (32 : Int32).toInt = 32 := by decide
                have f50 : ((38 * p2) + (32 : Int32)).toInt = (38 * p2).toInt + (32 : Int32).toInt := iadd_toInt (by omega) (by omega)
                have f51 : (((38 * p2) + 32) + p1).toInt = ((38 * p2) + 32).toInt + p1.toInt := iadd_toInt (by omega) (by omega)
                refine ok_gd.mpr ⟨gb_of (by omega) (by omega), ?_⟩
                refine ok_nm2 (fun v11_171002_171006 ev11_171002_171006 => ?_)
                refine ok_some.mpr ?_
                exact trivial
set_option maxRecDepth 20000 in
set_option maxHeartbeats 2000000 in
theorem o_fX10_noMean {σ : gS} (hIσ : IM σ)   : Ok (fX10_noMean σ ) (fun out => IM out ∧ Fr fr_fX10_noMean σ out) := by
  unfold fX10_noMean
  have hfσ : Fr fr_fX10_noMean σ σ := Fr_r
  refine ok_nm2 (fun σ1 eσ1 => ?_)
  have hIσ1 : IM σ1 := by rw [eσ1]; exact IM_l hIσ
  have hfσ1 : Fr fr_fX10_noMean σ σ1 := by rw [eσ1]; exact Fr_l hfσ (by decide)
  refine ok_nm2 (fun σ2 eσ2 => ?_)
  have l_0 : (0 : Int32).toInt = 0 := by decide
  have hIσ2 : IM σ2 := by rw [eσ2]; exact IM_w hIσ1 (show 0 ≤ _ by omega) (show _ ≤ 100000 by omega)
  have hfσ2 : Fr fr_fX10_noMean σ σ2 := by rw [eσ2]; exact Fr_w hfσ1 (by decide)
  refine ok_some.mpr ?_
  exact ⟨hIσ2, hfσ2⟩
set_option maxRecDepth 20000 in
set_option maxHeartbeats 2000000 in
theorem o_fX10_numberOf {σ : gS} (hIσ : IM σ) {p1 : Int32}  : Ok (fX10_numberOf σ p1) (fun out => -1 ≤ out.toInt ∧ out.toInt ≤ 37) := by
  unfold fX10_numberOf
  have hfσ : Fr fr_fX10_numberOf σ σ := Fr_r
  refine ok_nm2 (fun x1 ex1 => ?_)
  have l_0 : (0 : Int32).toInt = 0 := by decide
  have qx1 : x1.toInt = 0 := by rw [ex1]; decide
  refine ok_lpc (I := fun n s => n = (38 + 1 - s.toInt).toNat ∧ 0 ≤ s.toInt ∧ s.toInt ≤ 38) (fun rec2_171357r n_171357 s_171357 hs_171357 hrec_171357 => ?_) K9 _ _ ⟨rfl, (by (try dsimp only); omega), (by (try dsimp only); omega)⟩ (by unfold K9; (try dsimp only); omega)
  obtain ⟨a2_171357, hq_171357⟩ : ∃ y, y = s_171357 := ⟨_, rfl⟩
  subst hq_171357
  obtain ⟨hn_171357, b0a2_171357, b1a2_171357⟩ := hs_171357
  skip
  unfold bX10_numberOf_2
  try dsimp only
  refine ok_ite.mpr ⟨fun h_1 => ?_, fun h_1 => ?_⟩
  · have f2 : 0 ≤ (σ.1 0 43).toInt ∧ (σ.1 0 43).toInt ≤ 38 := hIσ 0 _
    have g3 : (σ.1 0 43).toInt ≤ a2_171357.toInt := Int32.le_iff_toInt_le.mp h_1
    refine ok_some.mpr ?_
    have l_m1 : (-1 : Int32).toInt = -1 := by decide
    exact ⟨(show -1 ≤ (-1 : Int32).toInt by omega), (show (-1 : Int32).toInt ≤ 37 by omega)⟩
  · have f4 : 0 ≤ (σ.1 0 43).toInt ∧ (σ.1 0 43).toInt ≤ 38 := hIσ 0 _
    have g5 : ¬ (σ.1 0 43).toInt ≤ a2_171357.toInt := fun z => h_1 (Int32.le_iff_toInt_le.mpr z)
    refine ok_gd.mpr ⟨gb_of (by omega) (by omega), ?_⟩
    refine ok_nm2 (fun v3_171358 ev3_171358 => ?_)
    have f6 : 0 ≤ (σ.1 30 a2_171357.toNatClampNeg).toInt ∧ (σ.1 30 a2_171357.toNatClampNeg).toInt ≤ 37 := hIσ 30 _
    have qv3_171358 : v3_171358.toInt = (σ.1 30 a2_171357.toNatClampNeg).toInt := by rw [ev3_171358]
    refine ok_ite.mpr ⟨fun h_7 => ?_, fun h_7 => ?_⟩
    · have g8 : v3_171358.toInt = p1.toInt := by rw [h_7]
      refine ok_some.mpr ?_
      exact ⟨(show -1 ≤ a2_171357.toInt by omega), (show a2_171357.toInt ≤ 37 by omega)⟩
    · have g9 : v3_171358.toInt ≠ p1.toInt := fun z => h_7 (Int32.toInt_inj.mp z)
      refine ok_nm2 (fun x5_171358 ex5_171358 => ?_)
      have l_1 : (1 : Int32).toInt = 1 := by decide
      have f10 : (a2_171357 + (1 : Int32)).toInt = a2_171357.toInt + (1 : Int32).toInt := iadd_toInt (by omega) (by omega)
      have qx5_171358 : x5_171358.toInt = (a2_171357 + 1).toInt := by rw [ex5_171358]
      exact hrec_171357 _ x5_171358 (show (38 + 1 - x5_171358.toInt).toNat < n_171357 by omega) ⟨rfl, (show 0 ≤ x5_171358.toInt by omega), (show x5_171358.toInt ≤ 38 by omega)⟩
set_option maxRecDepth 20000 in
set_option maxHeartbeats 2000000 in
theorem o_fX10_sets {σ : gS} (hIσ : IM σ) {p1 : Int32}  : Ok (fX10_sets σ p1) (fun out => IM out.2 ∧ Fr fr_fX10_sets σ out.2) := by
  unfold fX10_sets
  have hfσ : Fr fr_fX10_sets σ σ := Fr_r
  refine ok_bd.mpr ?_
  try unfold fX10_isIn
  refine ok_ite.mpr ⟨fun h_1 => ?_, fun h_1 => ?_⟩
  · have t2 : p1.toInt64.toInt = p1.toInt := Int32.toInt_toInt64 _
    have t3 : (0 : Int64).toInt = 0 := by decide
    have g4 : p1.toInt64.toInt < (0 : Int64).toInt := Int64.lt_iff_toInt_lt.mp h_1
    refine ok_some.mpr ?_
    refine ok_ite.mpr ⟨fun h_5 => ?_, fun h_5 => ?_⟩
    · have l_0 : (0 : Int32).toInt = 0 := by decide
      have g6 : (0 : Int32).toInt = (0 : Int32).toInt := by rw [h_5]
      refine ok_some.mpr ?_
      exact ⟨hIσ, hfσ⟩
    · have l_0 : (0 : Int32).toInt = 0 := by decide
      have g7 : (0 : Int32).toInt ≠ (0 : Int32).toInt := fun z => h_5 (Int32.toInt_inj.mp z)
      exfalso; omega
  · have t8 : p1.toInt64.toInt = p1.toInt := Int32.toInt_toInt64 _
    have t9 : (0 : Int64).toInt = 0 := by decide
    have g10 : ¬ p1.toInt64.toInt < (0 : Int64).toInt := fun z => h_1 (Int64.lt_iff_toInt_lt.mpr z)
    refine ok_ite.mpr ⟨fun h_11 => ?_, fun h_11 => ?_⟩
    · have t12 : (3 : Int64).toInt = 3 := by decide
      have g13 : (3 : Int64).toInt < p1.toInt64.toInt := Int64.lt_iff_toInt_lt.mp h_11
      refine ok_some.mpr ?_
      refine ok_ite.mpr ⟨fun h_14 => ?_, fun h_14 => ?_⟩
      · have l_0 : (0 : Int32).toInt = 0 := by decide
        have g15 : (0 : Int32).toInt = (0 : Int32).toInt := by rw [h_14]
        refine ok_some.mpr ?_
        exact ⟨hIσ, hfσ⟩
      · have l_0 : (0 : Int32).toInt = 0 := by decide
        have g16 : (0 : Int32).toInt ≠ (0 : Int32).toInt := fun z => h_14 (Int32.toInt_inj.mp z)
        exfalso; omega
    · have t17 : (3 : Int64).toInt = 3 := by decide
      have g18 : ¬ (3 : Int64).toInt < p1.toInt64.toInt := fun z => h_11 (Int64.lt_iff_toInt_lt.mpr z)
      refine ok_some.mpr ?_
      refine ok_ite.mpr ⟨fun h_19 => ?_, fun h_19 => ?_⟩
      · have l_1 : (1 : Int32).toInt = 1 := by decide
        have l_0 : (0 : Int32).toInt = 0 := by decide
        have g20 : (1 : Int32).toInt = (0 : Int32).toInt := by rw [h_19]
        exfalso; omega
      · have l_1 : (1 : Int32).toInt = 1 := by decide
        have l_0 : (0 : Int32).toInt = 0 := by decide
        have g21 : (1 : Int32).toInt ≠ (0 : Int32).toInt := fun z => h_19 (Int32.toInt_inj.mp z)
        refine ok_nm2 (fun σ4_171736 eσ4_171736 => ?_)
        have hIσ4_171736 : IM σ4_171736 := by rw [eσ4_171736]; exact IM_w hIσ (show 0 ≤ _ by omega) (show _ ≤ 3 by omega)
        have hfσ4_171736 : Fr fr_fX10_sets σ σ4_171736 := by rw [eσ4_171736]; exact Fr_w hfσ (by decide)
        refine ok_bd.mpr ((o_fX10_standControls hIσ4_171736 ).mono (fun σ6_171736 ho_23 => ?_))
        obtain ⟨hIσ6_171736, hcσ6_171736⟩ := ho_23
        have hfσ6_171736 : Fr fr_fX10_sets σ σ6_171736 := Fr_c hfσ4_171736 hcσ6_171736 (by decide)
        refine ok_bd.mpr ((o_fX10_controls hIσ6_171736 ).mono (fun r8_171736 ho_25 => ?_))
        refine ok_some.mpr ?_
        exact ⟨hIσ6_171736, hfσ6_171736⟩
set_option maxRecDepth 20000 in
set_option maxHeartbeats 2000000 in
theorem o_fX10_parts {σ : gS} (hIσ : IM σ)   : Ok (fX10_parts σ ) (fun out => IM out.2 ∧ Fr fr_fX10_parts σ out.2) := by
  unfold fX10_parts
  have hfσ : Fr fr_fX10_parts σ σ := Fr_r
  refine ok_bd.mpr ((o_fX10_hangs hIσ ).mono (fun σ2 ho_2 => ?_))
  obtain ⟨hIσ2, hcσ2⟩ := ho_2
  have hfσ2 : Fr fr_fX10_parts σ σ2 := Fr_c hfσ hcσ2 (by decide)
  refine ok_nm2 (fun x3 ex3 => ?_)
  have l_0 : (0 : Int32).toInt = 0 := by decide
  have qx3 : x3.toInt = 0 := by rw [ex3]; decide
  refine ok_nm2 (fun x4 ex4 => ?_)
  have qx4 : x4.toInt = 0 := by rw [ex4]; decide
  refine ok_lpc (I := fun n s => n = (12 + 1 - s.2.toInt).toNat ∧ 0 ≤ s.2.toInt ∧ s.2.toInt ≤ 12) (fun rec8_171737r n_171737 s_171737 hs_171737 hrec_171737 => ?_) K9 _ _ ⟨rfl, (by (try dsimp only); omega), (by (try dsimp only); omega)⟩ (by unfold K9; (try dsimp only); omega)
  obtain ⟨a1_171737, a2_171737⟩ := s_171737
  obtain ⟨hn_171737, b0a2_171737, b1a2_171737⟩ := hs_171737
  dsimp only at hn_171737 b0a2_171737 b1a2_171737
  unfold bX10_parts_8
  try dsimp only
  refine ok_bd.mpr ?_
  try unfold fX10_pictures
  have l_7 : (7 : Int32).toInt = 7 := by decide
  refine ok_gd.mpr ⟨gb_of (by omega) (by omega), ?_⟩
  refine ok_nm2 (fun v1_171760 ev1_171760 => ?_)
  have f3 : 0 ≤ (σ2.1 15 (7 : Int32).toNatClampNeg).toInt ∧ (σ2.1 15 (7 : Int32).toNatClampNeg).toInt ≤ 12 := hIσ2 15 _
  have qv1_171760 : v1_171760.toInt = (σ2.1 15 (7 : Int32).toNatClampNeg).toInt := by rw [ev1_171760]
  refine ok_some.mpr ?_
  refine ok_ite.mpr ⟨fun h_4 => ?_, fun h_4 => ?_⟩
  · have g5 : v1_171760.toInt ≤ a2_171737.toInt := Int32.le_iff_toInt_le.mp h_4
    refine ok_some.mpr ?_
    exact ⟨hIσ2, hfσ2⟩
  · have g6 : ¬ v1_171760.toInt ≤ a2_171737.toInt := fun z => h_4 (Int32.le_iff_toInt_le.mpr z)
    refine ok_nm2 (fun x8_171757_171761 ex8_171757_171761 => ?_)
    have l_1 : (1 : Int32).toInt = 1 := by decide
    have qx8_171757_171761 : x8_171757_171761.toInt = 1 := by rw [ex8_171757_171761]; decide
    refine ok_nm2 (fun x9_171757_171761 ex9_171757_171761 => ?_)
    have qx9_171757_171761 : x9_171757_171761.toInt = 0 := by rw [ex9_171757_171761]; decide
    refine ok_lpc (I := fun n s => n = (12 + 1 - s.2.toInt).toNat ∧ 0 ≤ s.1.toInt ∧ s.1.toInt ≤ 1 ∧ 0 ≤ s.2.toInt ∧ s.2.toInt ≤ 12) (fun rec21_171762r n_171762 s_171762 hs_171762 hrec_171762 => ?_) K9 _ _ ⟨rfl, (by (try dsimp only); omega), (by (try dsimp only); omega), (by (try dsimp only); omega), (by (try dsimp only); omega)⟩ (by unfold K9; (try dsimp only); omega)
    obtain ⟨a3_171762, a4_171762⟩ := s_171762
    obtain ⟨hn_171762, b0a3_171762, b1a3_171762, b0a4_171762, b1a4_171762⟩ := hs_171762
    dsimp only at hn_171762 b0a3_171762 b1a3_171762 b0a4_171762 b1a4_171762
    unfold bX10_parts_21
    try dsimp only
    refine ok_ite.mpr ⟨fun h_7 => ?_, fun h_7 => ?_⟩
    · have g8 : a2_171737.toInt ≤ a4_171762.toInt := Int32.le_iff_toInt_le.mp h_7
      refine ok_ite.mpr ⟨fun h_9 => ?_, fun h_9 => ?_⟩
      · have g10 : a3_171762.toInt = (0 : Int32).toInt := by rw [h_9]
        refine ok_nm2 (fun x12_171763 ex12_171763 => ?_)
        have f11 : (a2_171737 + (1 : Int32)).toInt = a2_171737.toInt + (1 : Int32).toInt := iadd_toInt (by omega) (by omega)
        have qx12_171763 : x12_171763.toInt = (a2_171737 + 1).toInt := by rw [ex12_171763]
        exact hrec_171737 _ (a1_171737, x12_171763) (show (12 + 1 - x12_171763.toInt).toNat < n_171737 by omega) ⟨rfl, (show 0 ≤ x12_171763.toInt by omega), (show x12_171763.toInt ≤ 12 by omega)⟩
      · have g12 : a3_171762.toInt ≠ (0 : Int32).toInt := fun z => h_9 (Int32.toInt_inj.mp z)
        refine ok_nm2 (fun x13_171763 ex13_171763 => ?_)
        refine ok_nm2 (fun x14_171763 ex14_171763 => ?_)
        have f13 : (a2_171737 + (1 : Int32)).toInt = a2_171737.toInt + (1 : Int32).toInt := iadd_toInt (by omega) (by omega)
        have qx14_171763 : x14_171763.toInt = (a2_171737 + 1).toInt := by rw [ex14_171763]
        exact hrec_171737 _ (x13_171763, x14_171763) (show (12 + 1 - x14_171763.toInt).toNat < n_171737 by omega) ⟨rfl, (show 0 ≤ x14_171763.toInt by omega), (show x14_171763.toInt ≤ 12 by omega)⟩
    · have g14 : ¬ a2_171737.toInt ≤ a4_171762.toInt := fun z => h_7 (Int32.le_iff_toInt_le.mpr z)
      refine ok_ite.mpr ⟨fun h_15 => ?_, fun h_15 => ?_⟩
      · have g16 : a3_171762.toInt = (0 : Int32).toInt := by rw [h_15]
        refine ok_nm2 (fun x16_171763 ex16_171763 => ?_)
        have qx16_171763 : x16_171763.toInt = 0 := by rw [ex16_171763]; decide
        refine ok_nm2 (fun x17_171763 ex17_171763 => ?_)
        have f17 : (a4_171762 + (1 : Int32)).toInt = a4_171762.toInt + (1 : Int32).toInt := iadd_toInt (by omega) (by omega)
        have qx17_171763 : x17_171763.toInt = (a4_171762 + 1).toInt := by rw [ex17_171763]
        exact hrec_171762 _ (x16_171763, x17_171763) (show (12 + 1 - x17_171763.toInt).toNat < n_171762 by omega) ⟨rfl, (show 0 ≤ x16_171763.toInt by omega), (show x16_171763.toInt ≤ 1 by omega), (show 0 ≤ x17_171763.toInt by omega), (show x17_171763.toInt ≤ 12 by omega)⟩
      · have g18 : a3_171762.toInt ≠ (0 : Int32).toInt := fun z => h_15 (Int32.toInt_inj.mp z)
        refine ok_gd.mpr ⟨gb_of (by omega) (by omega), ?_⟩
        refine ok_nm2 (fun v18_171763 ev18_171763 => ?_)
        have f19 : 0 ≤ (σ2.1 32 a4_171762.toNatClampNeg).toInt ∧ (σ2.1 32 a4_171762.toNatClampNeg).toInt ≤ 31 := hIσ2 32 _
        have qv18_171763 : v18_171763.toInt = (σ2.1 32 a4_171762.toNatClampNeg).toInt := by rw [ev18_171763]
        refine ok_gd.mpr ⟨gb_of (by omega) (by omega), ?_⟩
        refine ok_nm2 (fun v19_171763 ev19_171763 => ?_)
        have f20 : 0 ≤ (σ2.1 32 a2_171737.toNatClampNeg).toInt ∧ (σ2.1 32 a2_171737.toNatClampNeg).toInt ≤ 31 := hIσ2 32 _
        have qv19_171763 : v19_171763.toInt = (σ2.1 32 a2_171737.toNatClampNeg).toInt := by rw [ev19_171763]
        refine ok_ite.mpr ⟨fun h_21 => ?_, fun h_21 => ?_⟩
        · have g22 : v18_171763.toInt = v19_171763.toInt := by rw [h_21]
          refine ok_nm2 (fun x21_171763 ex21_171763 => ?_)
          have qx21_171763 : x21_171763.toInt = 0 := by rw [ex21_171763]; decide
          refine ok_nm2 (fun x22_171763 ex22_171763 => ?_)
          have f23 : (a4_171762 + (1 : Int32)).toInt = a4_171762.toInt + (1 : Int32).toInt := iadd_toInt (by omega) (by omega)
          have qx22_171763 : x22_171763.toInt = (a4_171762 + 1).toInt := by rw [ex22_171763]
          exact hrec_171762 _ (x21_171763, x22_171763) (show (12 + 1 - x22_171763.toInt).toNat < n_171762 by omega) ⟨rfl, (show 0 ≤ x21_171763.toInt by omega), (show x21_171763.toInt ≤ 1 by omega), (show 0 ≤ x22_171763.toInt by omega), (show x22_171763.toInt ≤ 12 by omega)⟩
        · have g24 : v18_171763.toInt ≠ v19_171763.toInt := fun z => h_21 (Int32.toInt_inj.mp z)
          refine ok_nm2 (fun x23_171763 ex23_171763 => ?_)
          have qx23_171763 : x23_171763.toInt = 1 := by rw [ex23_171763]; decide
          refine ok_nm2 (fun x24_171763 ex24_171763 => ?_)
          have f25 : (a4_171762 + (1 : Int32)).toInt = a4_171762.toInt + (1 : Int32).toInt := iadd_toInt (by omega) (by omega)
          have qx24_171763 : x24_171763.toInt = (a4_171762 + 1).toInt := by rw [ex24_171763]
          exact hrec_171762 _ (x23_171763, x24_171763) (show (12 + 1 - x24_171763.toInt).toNat < n_171762 by omega) ⟨rfl, (show 0 ≤ x23_171763.toInt by omega), (show x23_171763.toInt ≤ 1 by omega), (show 0 ≤ x24_171763.toInt by omega), (show x24_171763.toInt ≤ 12 by omega)⟩
set_option maxRecDepth 20000 in
set_option maxHeartbeats 2000000 in
theorem o_fX10_hang {σ : gS} (hIσ : IM σ) {p1 : Int32} {p2 : Int32}  : Ok (fX10_hang σ p1 p2) (fun out => IM out.2 ∧ Fr fr_fX10_hang σ out.2 ∧ -1 ≤ out.1.toInt ∧ out.1.toInt ≤ 1) := by
  unfold fX10_hang
  have hfσ : Fr fr_fX10_hang σ σ := Fr_r
  refine ok_bd.mpr ?_
  try unfold fX10_isPicture
  refine ok_bd.mpr ?_
  try unfold fX10_pictures
  have l_7 : (7 : Int32).toInt = 7 := by decide
  refine ok_gd.mpr ⟨gb_of (by omega) (by omega), ?_⟩
  refine ok_nm2 (fun v1_171765 ev1_171765 => ?_)
  have f1 : 0 ≤ (σ.1 15 (7 : Int32).toNatClampNeg).toInt ∧ (σ.1 15 (7 : Int32).toNatClampNeg).toInt ≤ 12 := hIσ 15 _
  have qv1_171765 : v1_171765.toInt = (σ.1 15 (7 : Int32).toNatClampNeg).toInt := by rw [ev1_171765]
  refine ok_some.mpr ?_
  refine ok_bd.mpr ?_
  try unfold fX10_isIn
  refine ok_ite.mpr ⟨fun h_2 => ?_, fun h_2 => ?_⟩
  · have t3 : p1.toInt64.toInt = p1.toInt := Int32.toInt_toInt64 _
    have t4 : (0 : Int64).toInt = 0 := by decide
    have g5 : p1.toInt64.toInt < (0 : Int64).toInt := Int64.lt_iff_toInt_lt.mp h_2
    refine ok_some.mpr ?_
    refine ok_some.mpr ?_
    refine ok_ite.mpr ⟨fun h_6 => ?_, fun h_6 => ?_⟩
    · have f7 : (vp_nar .boolean 0).toInt = 0 := by decide
      have l_0 : (0 : Int32).toInt = 0 := by decide
      have g8 : (vp_nar .boolean 0).toInt = (0 : Int32).toInt := by rw [h_6]
      refine ok_some.mpr ?_
      have l_m1 : (-1 : Int32).toInt = -1 := by decide
      exact ⟨hIσ, hfσ, (show -1 ≤ (-1 : Int32).toInt by omega), (show (-1 : Int32).toInt ≤ 1 by omega)⟩
    · have f9 : (vp_nar .boolean 0).toInt = 0 := by decide
      have l_0 : (0 : Int32).toInt = 0 := by decide
      have g10 : (vp_nar .boolean 0).toInt ≠ (0 : Int32).toInt := fun z => h_6 (Int32.toInt_inj.mp z)
      exfalso; omega
  · have t11 : p1.toInt64.toInt = p1.toInt := Int32.toInt_toInt64 _
    have t12 : (0 : Int64).toInt = 0 := by decide
    have g13 : ¬ p1.toInt64.toInt < (0 : Int64).toInt := fun z => h_2 (Int64.lt_iff_toInt_lt.mpr z)
    refine ok_ite.mpr ⟨fun h_14 => ?_, fun h_14 => ?_⟩
    · have l_1 : (1 : Int32).toInt = 1 := by decide
      have f15 : (v1_171765 - (1 : Int32)).toInt = v1_171765.toInt - (1 : Int32).toInt := isub_toInt (by omega) (by omega)
      have t16 : (v1_171765 - 1).toInt64.toInt = (v1_171765 - 1).toInt := Int32.toInt_toInt64 _
      have g17 : (v1_171765 - 1).toInt64.toInt < p1.toInt64.toInt := Int64.lt_iff_toInt_lt.mp h_14
      refine ok_some.mpr ?_
      refine ok_some.mpr ?_
      refine ok_ite.mpr ⟨fun h_18 => ?_, fun h_18 => ?_⟩
      · have f19 : (vp_nar .boolean 0).toInt = 0 := by decide
        have l_0 : (0 : Int32).toInt = 0 := by decide
        have g20 : (vp_nar .boolean 0).toInt = (0 : Int32).toInt := by rw [h_18]
        refine ok_some.mpr ?_
        have l_m1 : (-1 : Int32).toInt = -1 := by decide
        exact ⟨hIσ, hfσ, (show -1 ≤ (-1 : Int32).toInt by omega), (show (-1 : Int32).toInt ≤ 1 by omega)⟩
      · have f21 : (vp_nar .boolean 0).toInt = 0 := by decide
        have l_0 : (0 : Int32).toInt = 0 := by decide
        have g22 : (vp_nar .boolean 0).toInt ≠ (0 : Int32).toInt := fun z => h_18 (Int32.toInt_inj.mp z)
        exfalso; omega
    · have l_1 : (1 : Int32).toInt = 1 := by decide
      have f23 : (v1_171765 - (1 : Int32)).toInt = v1_171765.toInt - (1 : Int32).toInt := isub_toInt (by omega) (by omega)
      have t24 : (v1_171765 - 1).toInt64.toInt = (v1_171765 - 1).toInt := Int32.toInt_toInt64 _
      have g25 : ¬ (v1_171765 - 1).toInt64.toInt < p1.toInt64.toInt := fun z => h_14 (Int64.lt_iff_toInt_lt.mpr z)
      refine ok_some.mpr ?_
      refine ok_some.mpr ?_
      refine ok_ite.mpr ⟨fun h_26 => ?_, fun h_26 => ?_⟩
      · have f27 : (vp_nar .boolean 1).toInt = 1 := by decide
        have l_0 : (0 : Int32).toInt = 0 := by decide
        have g28 : (vp_nar .boolean 1).toInt = (0 : Int32).toInt := by rw [h_26]
        exfalso; omega
      · have f29 : (vp_nar .boolean 1).toInt = 1 := by decide
        have l_0 : (0 : Int32).toInt = 0 := by decide
        have g30 : (vp_nar .boolean 1).toInt ≠ (0 : Int32).toInt := fun z => h_26 (Int32.toInt_inj.mp z)
        refine ok_bd.mpr ?_
        try unfold fX10_isPicture
        refine ok_bd.mpr ?_
        try unfold fX10_pictures
        refine ok_gd.mpr ⟨gb_of (by omega) (by omega), ?_⟩
        refine ok_nm2 (fun v1_171775 ev1_171775 => ?_)
        have qv1_171775 : v1_171775.toInt = (σ.1 15 (7 : Int32).toNatClampNeg).toInt := by rw [ev1_171775]
        refine ok_some.mpr ?_
        refine ok_bd.mpr ?_
        try unfold fX10_isIn
        refine ok_ite.mpr ⟨fun h_31 => ?_, fun h_31 => ?_⟩
        · have t32 : p2.toInt64.toInt = p2.toInt := Int32.toInt_toInt64 _
          have g33 : p2.toInt64.toInt < (0 : Int64).toInt := Int64.lt_iff_toInt_lt.mp h_31
          refine ok_some.mpr ?_
          refine ok_some.mpr ?_
          refine ok_ite.mpr ⟨fun h_34 => ?_, fun h_34 => ?_⟩
          · have f35 : (vp_nar .boolean 0).toInt = 0 := by decide
            have g36 : (vp_nar .boolean 0).toInt = (0 : Int32).toInt := by rw [h_34]
            refine ok_some.mpr ?_
            have l_m1 : (-1 : Int32).toInt = -1 := by decide
            exact ⟨hIσ, hfσ, (show -1 ≤ (-1 : Int32).toInt by omega), (show (-1 : Int32).toInt ≤ 1 by omega)⟩
          · have f37 : (vp_nar .boolean 0).toInt = 0 := by decide
            have g38 : (vp_nar .boolean 0).toInt ≠ (0 : Int32).toInt := fun z => h_34 (Int32.toInt_inj.mp z)
            exfalso; omega
        · have t39 : p2.toInt64.toInt = p2.toInt := Int32.toInt_toInt64 _
          have g40 : ¬ p2.toInt64.toInt < (0 : Int64).toInt := fun z => h_31 (Int64.lt_iff_toInt_lt.mpr z)
          refine ok_ite.mpr ⟨fun h_41 => ?_, fun h_41 => ?_⟩
          · have f42 : (v1_171775 - (1 : Int32)).toInt = v1_171775.toInt - (1 : Int32).toInt := isub_toInt (by omega) (by omega)
            have t43 : (v1_171775 - 1).toInt64.toInt = (v1_171775 - 1).toInt := Int32.toInt_toInt64 _
            have g44 : (v1_171775 - 1).toInt64.toInt < p2.toInt64.toInt := Int64.lt_iff_toInt_lt.mp h_41
            refine ok_some.mpr ?_
            refine ok_some.mpr ?_
            refine ok_ite.mpr ⟨fun h_45 => ?_, fun h_45 => ?_⟩
            · have f46 : (vp_nar .boolean 0).toInt = 0 := by decide
              have g47 : (vp_nar .boolean 0).toInt = (0 : Int32).toInt := by rw [h_45]
              refine ok_some.mpr ?_
              have l_m1 : (-1 : Int32).toInt = -1 := by decide
              exact ⟨hIσ, hfσ, (show -1 ≤ (-1 : Int32).toInt by omega), (show (-1 : Int32).toInt ≤ 1 by omega)⟩
            · have f48 : (vp_nar .boolean 0).toInt = 0 := by decide
              have g49 : (vp_nar .boolean 0).toInt ≠ (0 : Int32).toInt := fun z => h_45 (Int32.toInt_inj.mp z)
              exfalso; omega
          · have f50 : (v1_171775 - (1 : Int32)).toInt = v1_171775.toInt - (1 : Int32).toInt := isub_toInt (by omega) (by omega)
            have t51 : (v1_171775 - 1).toInt64.toInt = (v1_171775 - 1).toInt := Int32.toInt_toInt64 _
            have g52 : ¬ (v1_171775 - 1).toInt64.toInt < p2.toInt64.toInt := fun z => h_41 (Int64.lt_iff_toInt_lt.mpr z)
            refine ok_some.mpr ?_
            refine ok_some.mpr ?_
            refine ok_ite.mpr ⟨fun h_53 => ?_, fun h_53 => ?_⟩
            · have g54 : (vp_nar .boolean 1).toInt = (0 : Int32).toInt := by rw [h_53]
              exfalso; omega
            · have g55 : (vp_nar .boolean 1).toInt ≠ (0 : Int32).toInt := fun z => h_53 (Int32.toInt_inj.mp z)
              refine ok_bd.mpr ((o_fX10_hangs hIσ ).mono (fun σ8_171766_171772_171773_171776_171782_171783 ho_57 => ?_))
              obtain ⟨hIσ8_171766_171772_171773_171776_171782_171783, hcσ8_171766_171772_171773_171776_171782_171783⟩ := ho_57
              have hfσ8_171766_171772_171773_171776_171782_171783 : Fr fr_fX10_hang σ σ8_171766_171772_171773_171776_171782_171783 := Fr_c hfσ hcσ8_171766_171772_171773_171776_171782_171783 (by decide)
              refine ok_gd.mpr ⟨gb_of (by omega) (by omega), ?_⟩
              refine ok_nm2 (fun v9_171766_171772_171773_171776_171782_171783 ev9_171766_171772_171773_171776_171782_171783 => ?_)
              have f58 : 0 ≤ (σ8_171766_171772_171773_171776_171782_171783.1 32 p1.toNatClampNeg).toInt ∧ (σ8_171766_171772_171773_171776_171782_171783.1 32 p1.toNatClampNeg).toInt ≤ 31 := hIσ8_171766_171772_171773_171776_171782_171783 32 _
              have qv9_171766_171772_171773_171776_171782_171783 : v9_171766_171772_171773_171776_171782_171783.toInt = (σ8_171766_171772_171773_171776_171782_171783.1 32 p1.toNatClampNeg).toInt := by rw [ev9_171766_171772_171773_171776_171782_171783]
              refine ok_gd.mpr ⟨gb_of (by omega) (by omega), ?_⟩
              refine ok_nm2 (fun v10_171766_171772_171773_171776_171782_171783 ev10_171766_171772_171773_171776_171782_171783 => ?_)
              have f59 : 0 ≤ (σ8_171766_171772_171773_171776_171782_171783.1 32 p2.toNatClampNeg).toInt ∧ (σ8_171766_171772_171773_171776_171782_171783.1 32 p2.toNatClampNeg).toInt ≤ 31 := hIσ8_171766_171772_171773_171776_171782_171783 32 _
              have qv10_171766_171772_171773_171776_171782_171783 : v10_171766_171772_171773_171776_171782_171783.toInt = (σ8_171766_171772_171773_171776_171782_171783.1 32 p2.toNatClampNeg).toInt := by rw [ev10_171766_171772_171773_171776_171782_171783]
              refine ok_ite.mpr ⟨fun h_60 => ?_, fun h_60 => ?_⟩
              · have g61 : v9_171766_171772_171773_171776_171782_171783.toInt = v10_171766_171772_171773_171776_171782_171783.toInt := by rw [h_60]
                refine ok_some.mpr ?_
                exact ⟨hIσ8_171766_171772_171773_171776_171782_171783, hfσ8_171766_171772_171773_171776_171782_171783, (show -1 ≤ (1 : Int32).toInt by omega), (show (1 : Int32).toInt ≤ 1 by omega)⟩
              · have g62 : v9_171766_171772_171773_171776_171782_171783.toInt ≠ v10_171766_171772_171773_171776_171782_171783.toInt := fun z => h_60 (Int32.toInt_inj.mp z)
                refine ok_some.mpr ?_
                exact ⟨hIσ8_171766_171772_171773_171776_171782_171783, hfσ8_171766_171772_171773_171776_171782_171783, (show -1 ≤ (0 : Int32).toInt by omega), (show (0 : Int32).toInt ≤ 1 by omega)⟩
set_option maxRecDepth 20000 in
set_option maxHeartbeats 2000000 in
theorem o_fX10_blind {σ : gS} (hIσ : IM σ)   : Ok (fX10_blind σ ) (fun out => IM out.2 ∧ Fr fr_fX10_blind σ out.2) := by
  unfold fX10_blind
  have hfσ : Fr fr_fX10_blind σ σ := Fr_r
  refine ok_nm2 (fun x1 ex1 => ?_)
  have l_0 : (0 : Int32).toInt = 0 := by decide
  have qx1 : x1.toInt = 0 := by rw [ex1]; decide
  refine ok_nm2 (fun x2 ex2 => ?_)
  have qx2 : x2.toInt = 0 := by rw [ex2]; decide
  refine ok_lpc (I := fun n s => n = (60 + 1 - s.2.1.toInt).toNat ∧ IM s.2.2 ∧ Fr fr_fX10_blind σ s.2.2 ∧ 0 ≤ s.2.1.toInt ∧ s.2.1.toInt ≤ 60) (fun rec4_171784r n_171784 s_171784 hs_171784 hrec_171784 => ?_) K9 _ _ ⟨rfl, hIσ, hfσ, (by (try dsimp only); omega), (by (try dsimp only); omega)⟩ (by unfold K9; (try dsimp only); omega)
  obtain ⟨a1_171784, a2_171784, σ1_171784⟩ := s_171784
  obtain ⟨hn_171784, hIσ1_171784, hfσ1_171784, b0a2_171784, b1a2_171784⟩ := hs_171784
  dsimp only at hn_171784 hIσ1_171784 hfσ1_171784 b0a2_171784 b1a2_171784
  unfold bX10_blind_4
  try dsimp only
  refine ok_bd.mpr ?_
  try unfold fX10_rows
  have l_9 : (9 : Int32).toInt = 9 := by decide
  refine ok_gd.mpr ⟨gb_of (by omega) (by omega), ?_⟩
  refine ok_nm2 (fun v1_171805 ev1_171805 => ?_)
  have f1 : 0 ≤ (σ1_171784.1 15 (9 : Int32).toNatClampNeg).toInt ∧ (σ1_171784.1 15 (9 : Int32).toNatClampNeg).toInt ≤ 60 := hIσ1_171784 15 _
  have qv1_171805 : v1_171805.toInt = (σ1_171784.1 15 (9 : Int32).toNatClampNeg).toInt := by rw [ev1_171805]
  refine ok_some.mpr ?_
  refine ok_ite.mpr ⟨fun h_2 => ?_, fun h_2 => ?_⟩
  · have g3 : v1_171805.toInt ≤ a2_171784.toInt := Int32.le_iff_toInt_le.mp h_2
    refine ok_some.mpr ?_
    exact ⟨hIσ1_171784, hfσ1_171784⟩
  · have g4 : ¬ v1_171805.toInt ≤ a2_171784.toInt := fun z => h_2 (Int32.le_iff_toInt_le.mpr z)
    refine ok_gd.mpr ⟨gb_of (by omega) (by omega), ?_⟩
    refine ok_nm2 (fun v6_171804_171806 ev6_171804_171806 => ?_)
    have f5 : 0 ≤ (σ1_171784.1 26 a2_171784.toNatClampNeg).toInt ∧ (σ1_171784.1 26 a2_171784.toNatClampNeg).toInt ≤ 1 := hIσ1_171784 26 _
    have qv6_171804_171806 : v6_171804_171806.toInt = (σ1_171784.1 26 a2_171784.toNatClampNeg).toInt := by rw [ev6_171804_171806]
    refine ok_ite.mpr ⟨fun h_6 => ?_, fun h_6 => ?_⟩
    · have g7 : v6_171804_171806.toInt = (0 : Int32).toInt := by rw [h_6]
      refine ok_bd2.mpr ((o_fX10_canShow hIσ1_171784 (by omega) (by omega)).mono (fun o_8 ho_9 => ?_))
      obtain ⟨r10_171804_171806, σ11_171804_171806⟩ := o_8
      obtain ⟨hIσ11_171804_171806, hcσ11_171804_171806, r0r10_171804_171806, r1r10_171804_171806⟩ := ho_9
      dsimp only at hIσ11_171804_171806 hcσ11_171804_171806 r0r10_171804_171806 r1r10_171804_171806 ⊢
      have hfσ11_171804_171806 : Fr fr_fX10_blind σ σ11_171804_171806 := Fr_c hfσ1_171784 hcσ11_171804_171806 (by decide)
      refine ok_ite.mpr ⟨fun h_10 => ?_, fun h_10 => ?_⟩
      · have g11 : r10_171804_171806.toInt = (0 : Int32).toInt := by rw [h_10]
        refine ok_nm2 (fun x14_171804_171806 ex14_171804_171806 => ?_)
        have l_1 : (1 : Int32).toInt = 1 := by decide
        refine ok_nm2 (fun x15_171804_171806 ex15_171804_171806 => ?_)
        have f12 : (a2_171784 + (1 : Int32)).toInt = a2_171784.toInt + (1 : Int32).toInt := iadd_toInt (by omega) (by omega)
        have qx15_171804_171806 : x15_171804_171806.toInt = (a2_171784 + 1).toInt := by rw [ex15_171804_171806]
        exact hrec_171784 _ (x14_171804_171806, x15_171804_171806, σ11_171804_171806) (show (60 + 1 - x15_171804_171806.toInt).toNat < n_171784 by omega) ⟨rfl, hIσ11_171804_171806, hfσ11_171804_171806, (show 0 ≤ x15_171804_171806.toInt by omega), (show x15_171804_171806.toInt ≤ 60 by omega)⟩
      · have g13 : r10_171804_171806.toInt ≠ (0 : Int32).toInt := fun z => h_10 (Int32.toInt_inj.mp z)
        refine ok_nm2 (fun x13_171804_171806 ex13_171804_171806 => ?_)
        have l_1 : (1 : Int32).toInt = 1 := by decide
        have f14 : (a2_171784 + (1 : Int32)).toInt = a2_171784.toInt + (1 : Int32).toInt := iadd_toInt (by omega) (by omega)
        have qx13_171804_171806 : x13_171804_171806.toInt = (a2_171784 + 1).toInt := by rw [ex13_171804_171806]
        exact hrec_171784 _ (a1_171784, x13_171804_171806, σ11_171804_171806) (show (60 + 1 - x13_171804_171806.toInt).toNat < n_171784 by omega) ⟨rfl, hIσ11_171804_171806, hfσ11_171804_171806, (show 0 ≤ x13_171804_171806.toInt by omega), (show x13_171804_171806.toInt ≤ 60 by omega)⟩
    · have g15 : v6_171804_171806.toInt ≠ (0 : Int32).toInt := fun z => h_6 (Int32.toInt_inj.mp z)
      refine ok_nm2 (fun x8_171804_171806 ex8_171804_171806 => ?_)
      have l_1 : (1 : Int32).toInt = 1 := by decide
      have f16 : (a2_171784 + (1 : Int32)).toInt = a2_171784.toInt + (1 : Int32).toInt := iadd_toInt (by omega) (by omega)
      have qx8_171804_171806 : x8_171804_171806.toInt = (a2_171784 + 1).toInt := by rw [ex8_171804_171806]
      exact hrec_171784 _ (a1_171784, x8_171804_171806, σ1_171784) (show (60 + 1 - x8_171804_171806.toInt).toNat < n_171784 by omega) ⟨rfl, hIσ1_171784, hfσ1_171784, (show 0 ≤ x8_171804_171806.toInt by omega), (show x8_171804_171806.toInt ≤ 60 by omega)⟩
set_option maxRecDepth 20000 in
set_option maxHeartbeats 2000000 in
theorem o_fX10_looseMany {σ : gS} (hIσ : IM σ)   : Ok (fX10_looseMany σ ) (fun out => IM out.2 ∧ Fr fr_fX10_looseMany σ out.2) := by
  unfold fX10_looseMany
  have hfσ : Fr fr_fX10_looseMany σ σ := Fr_r
  refine ok_bd.mpr ((o_fX10_hangs hIσ ).mono (fun σ2 ho_2 => ?_))
  obtain ⟨hIσ2, hcσ2⟩ := ho_2
  have hfσ2 : Fr fr_fX10_looseMany σ σ2 := Fr_c hfσ hcσ2 (by decide)
  refine ok_nm2 (fun x3 ex3 => ?_)
  have l_0 : (0 : Int32).toInt = 0 := by decide
  have qx3 : x3.toInt = 0 := by rw [ex3]; decide
  refine ok_nm2 (fun x4 ex4 => ?_)
  have qx4 : x4.toInt = 0 := by rw [ex4]; decide
  refine ok_lpc (I := fun n s => n = (12 + 1 - s.2.toInt).toNat ∧ 0 ≤ s.2.toInt ∧ s.2.toInt ≤ 12) (fun rec8_171807r n_171807 s_171807 hs_171807 hrec_171807 => ?_) K9 _ _ ⟨rfl, (by (try dsimp only); omega), (by (try dsimp only); omega)⟩ (by unfold K9; (try dsimp only); omega)
  obtain ⟨a1_171807, a2_171807⟩ := s_171807
  obtain ⟨hn_171807, b0a2_171807, b1a2_171807⟩ := hs_171807
  dsimp only at hn_171807 b0a2_171807 b1a2_171807
  unfold bX10_looseMany_8
  try dsimp only
  refine ok_bd.mpr ?_
  try unfold fX10_pictures
  have l_7 : (7 : Int32).toInt = 7 := by decide
  refine ok_gd.mpr ⟨gb_of (by omega) (by omega), ?_⟩
  refine ok_nm2 (fun v1_171828 ev1_171828 => ?_)
  have f3 : 0 ≤ (σ2.1 15 (7 : Int32).toNatClampNeg).toInt ∧ (σ2.1 15 (7 : Int32).toNatClampNeg).toInt ≤ 12 := hIσ2 15 _
  have qv1_171828 : v1_171828.toInt = (σ2.1 15 (7 : Int32).toNatClampNeg).toInt := by rw [ev1_171828]
  refine ok_some.mpr ?_
  refine ok_ite.mpr ⟨fun h_4 => ?_, fun h_4 => ?_⟩
  · have g5 : v1_171828.toInt ≤ a2_171807.toInt := Int32.le_iff_toInt_le.mp h_4
    refine ok_some.mpr ?_
    exact ⟨hIσ2, hfσ2⟩
  · have g6 : ¬ v1_171828.toInt ≤ a2_171807.toInt := fun z => h_4 (Int32.le_iff_toInt_le.mpr z)
    refine ok_bd.mpr ((o_fX10_isLoose hIσ2 (by omega) (by omega)).mono (fun r9_171827_171829 ho_8 => ?_))
    obtain ⟨r0r9_171827_171829, r1r9_171827_171829⟩ := ho_8
    refine ok_ite.mpr ⟨fun h_9 => ?_, fun h_9 => ?_⟩
    · have g10 : r9_171827_171829.toInt = (0 : Int32).toInt := by rw [h_9]
      refine ok_nm2 (fun x11_171827_171829 ex11_171827_171829 => ?_)
      have l_1 : (1 : Int32).toInt = 1 := by decide
      have f11 : (a2_171807 + (1 : Int32)).toInt = a2_171807.toInt + (1 : Int32).toInt := iadd_toInt (by omega) (by omega)
      have qx11_171827_171829 : x11_171827_171829.toInt = (a2_171807 + 1).toInt := by rw [ex11_171827_171829]
      exact hrec_171807 _ (a1_171807, x11_171827_171829) (show (12 + 1 - x11_171827_171829.toInt).toNat < n_171807 by omega) ⟨rfl, (show 0 ≤ x11_171827_171829.toInt by omega), (show x11_171827_171829.toInt ≤ 12 by omega)⟩
    · have g12 : r9_171827_171829.toInt ≠ (0 : Int32).toInt := fun z => h_9 (Int32.toInt_inj.mp z)
      refine ok_nm2 (fun x12_171827_171829 ex12_171827_171829 => ?_)
      have l_1 : (1 : Int32).toInt = 1 := by decide
      refine ok_nm2 (fun x13_171827_171829 ex13_171827_171829 => ?_)
      have f13 : (a2_171807 + (1 : Int32)).toInt = a2_171807.toInt + (1 : Int32).toInt := iadd_toInt (by omega) (by omega)
      have qx13_171827_171829 : x13_171827_171829.toInt = (a2_171807 + 1).toInt := by rw [ex13_171827_171829]
      exact hrec_171807 _ (x12_171827_171829, x13_171827_171829) (show (12 + 1 - x13_171827_171829.toInt).toNat < n_171807 by omega) ⟨rfl, (show 0 ≤ x13_171827_171829.toInt by omega), (show x13_171827_171829.toInt ≤ 12 by omega)⟩
set_option maxRecDepth 20000 in
set_option maxHeartbeats 2000000 in
theorem o_fX10_needs {σ : gS} (hIσ : IM σ) {p1 : Int32}  : Ok (fX10_needs σ p1) (fun out => IM out.2 ∧ Fr fr_fX10_needs σ out.2) := by
  unfold fX10_needs
  have hfσ : Fr fr_fX10_needs σ σ := Fr_r
  refine ok_bd.mpr ?_
  try unfold fX10_isRow
  refine ok_bd.mpr ?_
  try unfold fX10_rows
  have l_9 : (9 : Int32).toInt = 9 := by decide
  refine ok_gd.mpr ⟨gb_of (by omega) (by omega), ?_⟩
  refine ok_nm2 (fun v1_171831 ev1_171831 => ?_)
  have f1 : 0 ≤ (σ.1 15 (9 : Int32).toNatClampNeg).toInt ∧ (σ.1 15 (9 : Int32).toNatClampNeg).toInt ≤ 60 := hIσ 15 _
  have qv1_171831 : v1_171831.toInt = (σ.1 15 (9 : Int32).toNatClampNeg).toInt := by rw [ev1_171831]
  refine ok_some.mpr ?_
  refine ok_bd.mpr ?_
  try unfold fX10_isIn
  refine ok_ite.mpr ⟨fun h_2 => ?_, fun h_2 => ?_⟩
  · have t3 : p1.toInt64.toInt = p1.toInt := Int32.toInt_toInt64 _
    have t4 : (0 : Int64).toInt = 0 := by decide
    have g5 : p1.toInt64.toInt < (0 : Int64).toInt := Int64.lt_iff_toInt_lt.mp h_2
    refine ok_some.mpr ?_
    refine ok_some.mpr ?_
    refine ok_ite.mpr ⟨fun h_6 => ?_, fun h_6 => ?_⟩
    · have f7 : (vp_nar .boolean 0).toInt = 0 := by decide
      have l_0 : (0 : Int32).toInt = 0 := by decide
      have g8 : (vp_nar .boolean 0).toInt = (0 : Int32).toInt := by rw [h_6]
      refine ok_some.mpr ?_
      exact ⟨hIσ, hfσ⟩
    · have f9 : (vp_nar .boolean 0).toInt = 0 := by decide
      have l_0 : (0 : Int32).toInt = 0 := by decide
      have g10 : (vp_nar .boolean 0).toInt ≠ (0 : Int32).toInt := fun z => h_6 (Int32.toInt_inj.mp z)
      exfalso; omega
  · have t11 : p1.toInt64.toInt = p1.toInt := Int32.toInt_toInt64 _
    have t12 : (0 : Int64).toInt = 0 := by decide
    have g13 : ¬ p1.toInt64.toInt < (0 : Int64).toInt := fun z => h_2 (Int64.lt_iff_toInt_lt.mpr z)
    refine ok_ite.mpr ⟨fun h_14 => ?_, fun h_14 => ?_⟩
    · have l_1 : (1 : Int32).toInt = 1 := by decide
      have f15 : (v1_171831 - (1 : Int32)).toInt = v1_171831.toInt - (1 : Int32).toInt := isub_toInt (by omega) (by omega)
      have t16 : (v1_171831 - 1).toInt64.toInt = (v1_171831 - 1).toInt := Int32.toInt_toInt64 _
      have g17 : (v1_171831 - 1).toInt64.toInt < p1.toInt64.toInt := Int64.lt_iff_toInt_lt.mp h_14
      refine ok_some.mpr ?_
      refine ok_some.mpr ?_
      refine ok_ite.mpr ⟨fun h_18 => ?_, fun h_18 => ?_⟩
      · have f19 : (vp_nar .boolean 0).toInt = 0 := by decide
        have l_0 : (0 : Int32).toInt = 0 := by decide
        have g20 : (vp_nar .boolean 0).toInt = (0 : Int32).toInt := by rw [h_18]
        refine ok_some.mpr ?_
        exact ⟨hIσ, hfσ⟩
      · have f21 : (vp_nar .boolean 0).toInt = 0 := by decide
        have l_0 : (0 : Int32).toInt = 0 := by decide
        have g22 : (vp_nar .boolean 0).toInt ≠ (0 : Int32).toInt := fun z => h_18 (Int32.toInt_inj.mp z)
        exfalso; omega
    · have l_1 : (1 : Int32).toInt = 1 := by decide
      have f23 : (v1_171831 - (1 : Int32)).toInt = v1_171831.toInt - (1 : Int32).toInt := isub_toInt (by omega) (by omega)
      have t24 : (v1_171831 - 1).toInt64.toInt = (v1_171831 - 1).toInt := Int32.toInt_toInt64 _
      have g25 : ¬ (v1_171831 - 1).toInt64.toInt < p1.toInt64.toInt := fun z => h_14 (Int64.lt_iff_toInt_lt.mpr z)
      refine ok_some.mpr ?_
      refine ok_some.mpr ?_
      refine ok_ite.mpr ⟨fun h_26 => ?_, fun h_26 => ?_⟩
      · have f27 : (vp_nar .boolean 1).toInt = 1 := by decide
        have l_0 : (0 : Int32).toInt = 0 := by decide
        have g28 : (vp_nar .boolean 1).toInt = (0 : Int32).toInt := by rw [h_26]
        exfalso; omega
      · have f29 : (vp_nar .boolean 1).toInt = 1 := by decide
        have l_0 : (0 : Int32).toInt = 0 := by decide
        have g30 : (vp_nar .boolean 1).toInt ≠ (0 : Int32).toInt := fun z => h_26 (Int32.toInt_inj.mp z)
        refine ok_gd.mpr ⟨gb_of (by omega) (by omega), ?_⟩
        refine ok_nm2 (fun v4_171832_171838_171839 ev4_171832_171838_171839 => ?_)
        have f31 : 0 ≤ (σ.1 26 p1.toNatClampNeg).toInt ∧ (σ.1 26 p1.toNatClampNeg).toInt ≤ 1 := hIσ 26 _
        have qv4_171832_171838_171839 : v4_171832_171838_171839.toInt = (σ.1 26 p1.toNatClampNeg).toInt := by rw [ev4_171832_171838_171839]
        refine ok_ite.mpr ⟨fun h_32 => ?_, fun h_32 => ?_⟩
        · have g33 : v4_171832_171838_171839.toInt = (0 : Int32).toInt := by rw [h_32]
          refine ok_bd2.mpr ((o_fX10_looseMany hIσ ).mono (fun o_34 ho_35 => ?_))
          obtain ⟨r7_171832_171838_171839, σ8_171832_171838_171839⟩ := o_34
          obtain ⟨hIσ8_171832_171838_171839, hcσ8_171832_171838_171839⟩ := ho_35
          dsimp only at hIσ8_171832_171838_171839 hcσ8_171832_171838_171839 ⊢
          have hfσ8_171832_171838_171839 : Fr fr_fX10_needs σ σ8_171832_171838_171839 := Fr_c hfσ hcσ8_171832_171838_171839 (by decide)
          refine ok_nm2 (fun x9_171832_171838_171839 ex9_171832_171838_171839 => ?_)
          have qx9_171832_171838_171839 : x9_171832_171838_171839.toInt = r7_171832_171838_171839.toInt := by rw [ex9_171832_171838_171839]
          refine ok_gd.mpr ⟨gb_of (by omega) (by omega), ?_⟩
          refine ok_nm2 (fun σ10_171832_171838_171839 eσ10_171832_171838_171839 => ?_)
          have hIσ10_171832_171838_171839 : IM σ10_171832_171838_171839 := by rw [eσ10_171832_171838_171839]; exact IM_w hIσ8_171832_171838_171839 (show 0 ≤ _ by omega) (show _ ≤ 1 by omega)
          have hfσ10_171832_171838_171839 : Fr fr_fX10_needs σ σ10_171832_171838_171839 := by rw [eσ10_171832_171838_171839]; exact Fr_w0 hfσ8_171832_171838_171839 (by decide)
          refine ok_bd2.mpr ((o_fX10_looseMany hIσ10_171832_171838_171839 ).mono (fun o_36 ho_37 => ?_))
          obtain ⟨r12_171832_171838_171839, σ13_171832_171838_171839⟩ := o_36
          obtain ⟨hIσ13_171832_171838_171839, hcσ13_171832_171838_171839⟩ := ho_37
          dsimp only at hIσ13_171832_171838_171839 hcσ13_171832_171838_171839 ⊢
          have hfσ13_171832_171838_171839 : Fr fr_fX10_needs σ σ13_171832_171838_171839 := Fr_c hfσ10_171832_171838_171839 hcσ13_171832_171838_171839 (by decide)
          refine ok_nm2 (fun x14_171832_171838_171839 ex14_171832_171838_171839 => ?_)
          have qx14_171832_171838_171839 : x14_171832_171838_171839.toInt = r12_171832_171838_171839.toInt := by rw [ex14_171832_171838_171839]
          refine ok_gd.mpr ⟨gb_of (by omega) (by omega), ?_⟩
          refine ok_nm2 (fun σ15_171832_171838_171839 eσ15_171832_171838_171839 => ?_)
          have f38 : (vp_nar .boolean 0).toInt = 0 := by decide
          have hIσ15_171832_171838_171839 : IM σ15_171832_171838_171839 := by rw [eσ15_171832_171838_171839]; exact IM_w hIσ13_171832_171838_171839 (show 0 ≤ _ by omega) (show _ ≤ 1 by omega)
          have hfσ15_171832_171838_171839 : Fr fr_fX10_needs σ σ15_171832_171838_171839 := by rw [eσ15_171832_171838_171839]; exact Fr_w0 hfσ13_171832_171838_171839 (by decide)
          refine ok_some.mpr ?_
          exact ⟨hIσ15_171832_171838_171839, hfσ15_171832_171838_171839⟩
        · have g39 : v4_171832_171838_171839.toInt ≠ (0 : Int32).toInt := fun z => h_32 (Int32.toInt_inj.mp z)
          refine ok_some.mpr ?_
          exact ⟨hIσ, hfσ⟩
set_option maxRecDepth 20000 in
set_option maxHeartbeats 2000000 in
theorem o_fX10_drop {σ : gS} (hIσ : IM σ) {p1 : Int32} {p2 : Int32} (h0p2 : 0 ≤ p2.toInt) (h1p2 : p2.toInt ≤ 1) : Ok (fX10_drop σ p1 p2) (fun out => IM out.2 ∧ Fr fr_fX10_drop σ out.2 ∧ 0 ≤ out.1.toInt ∧ out.1.toInt ≤ 1) := by
  unfold fX10_drop
  have hfσ : Fr fr_fX10_drop σ σ := Fr_r
  refine ok_bd.mpr ?_
  try unfold fX10_isRow
  refine ok_bd.mpr ?_
  try unfold fX10_rows
  have l_9 : (9 : Int32).toInt = 9 := by decide
  refine ok_gd.mpr ⟨gb_of (by omega) (by omega), ?_⟩
  refine ok_nm2 (fun v1_171866 ev1_171866 => ?_)
  have f1 : 0 ≤ (σ.1 15 (9 : Int32).toNatClampNeg).toInt ∧ (σ.1 15 (9 : Int32).toNatClampNeg).toInt ≤ 60 := hIσ 15 _
  have qv1_171866 : v1_171866.toInt = (σ.1 15 (9 : Int32).toNatClampNeg).toInt := by rw [ev1_171866]
  refine ok_some.mpr ?_
  refine ok_bd.mpr ?_
  try unfold fX10_isIn
  refine ok_ite.mpr ⟨fun h_2 => ?_, fun h_2 => ?_⟩
  · have t3 : p1.toInt64.toInt = p1.toInt := Int32.toInt_toInt64 _
    have t4 : (0 : Int64).toInt = 0 := by decide
    have g5 : p1.toInt64.toInt < (0 : Int64).toInt := Int64.lt_iff_toInt_lt.mp h_2
    refine ok_some.mpr ?_
    refine ok_some.mpr ?_
    refine ok_ite.mpr ⟨fun h_6 => ?_, fun h_6 => ?_⟩
    · have f7 : (vp_nar .boolean 0).toInt = 0 := by decide
      have l_0 : (0 : Int32).toInt = 0 := by decide
      have g8 : (vp_nar .boolean 0).toInt = (0 : Int32).toInt := by rw [h_6]
      refine ok_some.mpr ?_
      exact ⟨hIσ, hfσ, (show 0 ≤ (0 : Int32).toInt by omega), (show (0 : Int32).toInt ≤ 1 by omega)⟩
    · have f9 : (vp_nar .boolean 0).toInt = 0 := by decide
      have l_0 : (0 : Int32).toInt = 0 := by decide
      have g10 : (vp_nar .boolean 0).toInt ≠ (0 : Int32).toInt := fun z => h_6 (Int32.toInt_inj.mp z)
      exfalso; omega
  · have t11 : p1.toInt64.toInt = p1.toInt := Int32.toInt_toInt64 _
    have t12 : (0 : Int64).toInt = 0 := by decide
    have g13 : ¬ p1.toInt64.toInt < (0 : Int64).toInt := fun z => h_2 (Int64.lt_iff_toInt_lt.mpr z)
    refine ok_ite.mpr ⟨fun h_14 => ?_, fun h_14 => ?_⟩
    · have l_1 : (1 : Int32).toInt = 1 := by decide
      have f15 : (v1_171866 - (1 : Int32)).toInt = v1_171866.toInt - (1 : Int32).toInt := isub_toInt (by omega) (by omega)
      have t16 : (v1_171866 - 1).toInt64.toInt = (v1_171866 - 1).toInt := Int32.toInt_toInt64 _
      have g17 : (v1_171866 - 1).toInt64.toInt < p1.toInt64.toInt := Int64.lt_iff_toInt_lt.mp h_14
      refine ok_some.mpr ?_
      refine ok_some.mpr ?_
      refine ok_ite.mpr ⟨fun h_18 => ?_, fun h_18 => ?_⟩
      · have f19 : (vp_nar .boolean 0).toInt = 0 := by decide
        have l_0 : (0 : Int32).toInt = 0 := by decide
        have g20 : (vp_nar .boolean 0).toInt = (0 : Int32).toInt := by rw [h_18]
        refine ok_some.mpr ?_
        exact ⟨hIσ, hfσ, (show 0 ≤ (0 : Int32).toInt by omega), (show (0 : Int32).toInt ≤ 1 by omega)⟩
      · have f21 : (vp_nar .boolean 0).toInt = 0 := by decide
        have l_0 : (0 : Int32).toInt = 0 := by decide
        have g22 : (vp_nar .boolean 0).toInt ≠ (0 : Int32).toInt := fun z => h_18 (Int32.toInt_inj.mp z)
        exfalso; omega
    · have l_1 : (1 : Int32).toInt = 1 := by decide
      have f23 : (v1_171866 - (1 : Int32)).toInt = v1_171866.toInt - (1 : Int32).toInt := isub_toInt (by omega) (by omega)
      have t24 : (v1_171866 - 1).toInt64.toInt = (v1_171866 - 1).toInt := Int32.toInt_toInt64 _
      have g25 : ¬ (v1_171866 - 1).toInt64.toInt < p1.toInt64.toInt := fun z => h_14 (Int64.lt_iff_toInt_lt.mpr z)
      refine ok_some.mpr ?_
      refine ok_some.mpr ?_
      refine ok_ite.mpr ⟨fun h_26 => ?_, fun h_26 => ?_⟩
      · have f27 : (vp_nar .boolean 1).toInt = 1 := by decide
        have l_0 : (0 : Int32).toInt = 0 := by decide
        have g28 : (vp_nar .boolean 1).toInt = (0 : Int32).toInt := by rw [h_26]
        exfalso; omega
      · have f29 : (vp_nar .boolean 1).toInt = 1 := by decide
        have l_0 : (0 : Int32).toInt = 0 := by decide
        have g30 : (vp_nar .boolean 1).toInt ≠ (0 : Int32).toInt := fun z => h_26 (Int32.toInt_inj.mp z)
        refine ok_gd.mpr ⟨gb_of (by omega) (by omega), ?_⟩
        refine ok_nm2 (fun v4_171867_171873_171874 ev4_171867_171873_171874 => ?_)
        have f31 : 0 ≤ (σ.1 26 p1.toNatClampNeg).toInt ∧ (σ.1 26 p1.toNatClampNeg).toInt ≤ 1 := hIσ 26 _
        have qv4_171867_171873_171874 : v4_171867_171873_171874.toInt = (σ.1 26 p1.toNatClampNeg).toInt := by rw [ev4_171867_171873_171874]
        refine ok_ite.mpr ⟨fun h_32 => ?_, fun h_32 => ?_⟩
        · have g33 : v4_171867_171873_171874.toInt = p2.toInt := by rw [h_32]
          refine ok_some.mpr ?_
          exact ⟨hIσ, hfσ, (show 0 ≤ (0 : Int32).toInt by omega), (show (0 : Int32).toInt ≤ 1 by omega)⟩
        · have g34 : v4_171867_171873_171874.toInt ≠ p2.toInt := fun z => h_32 (Int32.toInt_inj.mp z)
          refine ok_gd.mpr ⟨gb_of (by omega) (by omega), ?_⟩
          refine ok_nm2 (fun σ6_171867_171873_171874 eσ6_171867_171873_171874 => ?_)
          have f35 : 0 ≤ (vp_nar .boolean p2).toInt ∧ (vp_nar .boolean p2).toInt ≤ 1 := nar_bool _
          have hIσ6_171867_171873_171874 : IM σ6_171867_171873_171874 := by rw [eσ6_171867_171873_171874]; exact IM_w hIσ (show 0 ≤ _ by omega) (show _ ≤ 1 by omega)
          have hfσ6_171867_171873_171874 : Fr fr_fX10_drop σ σ6_171867_171873_171874 := by rw [eσ6_171867_171873_171874]; exact Fr_w0 hfσ (by decide)
          refine ok_some.mpr ?_
          exact ⟨hIσ6_171867_171873_171874, hfσ6_171867_171873_171874, (show 0 ≤ (1 : Int32).toInt by omega), (show (1 : Int32).toInt ≤ 1 by omega)⟩
set_option maxRecDepth 20000 in
set_option maxHeartbeats 2000000 in
theorem o_fX10_tiePoints {σ : gS} (hIσ : IM σ) {p1 : Int32} {p2 : Int32} (h0p1 : 0 ≤ p1.toInt) (h1p1 : p1.toInt ≤ 12) (h0p2 : -1 ≤ p2.toInt) (h1p2 : p2.toInt ≤ 12) : Ok (fX10_tiePoints σ p1 p2) (fun _ => True) := by
  unfold fX10_tiePoints
  have hfσ : Fr fr_fX10_tiePoints σ σ := Fr_r
  refine ok_nm2 (fun x1 ex1 => ?_)
  have l_0 : (0 : Int32).toInt = 0 := by decide
  have qx1 : x1.toInt = 0 := by rw [ex1]; decide
  refine ok_nm2 (fun x2 ex2 => ?_)
  have qx2 : x2.toInt = 0 := by rw [ex2]; decide
  refine ok_lpc (I := fun n s => n = (20 + 1 - s.2.toInt).toNat ∧ 0 ≤ s.2.toInt ∧ s.2.toInt ≤ 20) (fun rec5_171933r n_171933 s_171933 hs_171933 hrec_171933 => ?_) K9 _ _ ⟨rfl, (by (try dsimp only); omega), (by (try dsimp only); omega)⟩ (by unfold K9; (try dsimp only); omega)
  obtain ⟨a3_171933, a4_171933⟩ := s_171933
  obtain ⟨hn_171933, b0a4_171933, b1a4_171933⟩ := hs_171933
  dsimp only at hn_171933 b0a4_171933 b1a4_171933
  unfold bX10_tiePoints_5
  try dsimp only
  refine ok_bd.mpr ?_
  try unfold fX10_points
  have l_8 : (8 : Int32).toInt = 8 := by decide
  refine ok_gd.mpr ⟨gb_of (by omega) (by omega), ?_⟩
  refine ok_nm2 (fun v1_171954 ev1_171954 => ?_)
  have f1 : 0 ≤ (σ.1 15 (8 : Int32).toNatClampNeg).toInt ∧ (σ.1 15 (8 : Int32).toNatClampNeg).toInt ≤ 20 := hIσ 15 _
  have qv1_171954 : v1_171954.toInt = (σ.1 15 (8 : Int32).toNatClampNeg).toInt := by rw [ev1_171954]
  refine ok_some.mpr ?_
  refine ok_ite.mpr ⟨fun h_2 => ?_, fun h_2 => ?_⟩
  · have g3 : v1_171954.toInt ≤ a4_171933.toInt := Int32.le_iff_toInt_le.mp h_2
    refine ok_some.mpr ?_
    exact trivial
  · have g4 : ¬ v1_171954.toInt ≤ a4_171933.toInt := fun z => h_2 (Int32.le_iff_toInt_le.mpr z)
    refine ok_bd.mpr ((o_fX10_rowOf hIσ (by omega) (by omega)).mono (fun r7_171953_171955 ho_6 => ?_))
    obtain ⟨r0r7_171953_171955, r1r7_171953_171955⟩ := ho_6
    refine ok_ite.mpr ⟨fun h_7 => ?_, fun h_7 => ?_⟩
    · have l_m1 : (-1 : Int32).toInt = -1 := by decide
      have g8 : r7_171953_171955.toInt = (-1 : Int32).toInt := by rw [h_7]
      refine ok_nm2 (fun x9_171953_171955 ex9_171953_171955 => ?_)
      have l_1 : (1 : Int32).toInt = 1 := by decide
      have f9 : (a4_171933 + (1 : Int32)).toInt = a4_171933.toInt + (1 : Int32).toInt := iadd_toInt (by omega) (by omega)
      have qx9_171953_171955 : x9_171953_171955.toInt = (a4_171933 + 1).toInt := by rw [ex9_171953_171955]
      exact hrec_171933 _ (a3_171933, x9_171953_171955) (show (20 + 1 - x9_171953_171955.toInt).toNat < n_171933 by omega) ⟨rfl, (show 0 ≤ x9_171953_171955.toInt by omega), (show x9_171953_171955.toInt ≤ 20 by omega)⟩
    · have l_m1 : (-1 : Int32).toInt = -1 := by decide
      have g10 : r7_171953_171955.toInt ≠ (-1 : Int32).toInt := fun z => h_7 (Int32.toInt_inj.mp z)
      refine ok_bd.mpr ((o_fX10_rowOf hIσ (by omega) (by omega)).mono (fun r11_171953_171955 ho_12 => ?_))
      obtain ⟨r0r11_171953_171955, r1r11_171953_171955⟩ := ho_12
      refine ok_ite.mpr ⟨fun h_13 => ?_, fun h_13 => ?_⟩
      · have g14 : r11_171953_171955.toInt = (-1 : Int32).toInt := by rw [h_13]
        refine ok_nm2 (fun x13_171953_171955 ex13_171953_171955 => ?_)
        have l_1 : (1 : Int32).toInt = 1 := by decide
        have f15 : (a4_171933 + (1 : Int32)).toInt = a4_171933.toInt + (1 : Int32).toInt := iadd_toInt (by omega) (by omega)
        have qx13_171953_171955 : x13_171953_171955.toInt = (a4_171933 + 1).toInt := by rw [ex13_171953_171955]
        exact hrec_171933 _ (a3_171933, x13_171953_171955) (show (20 + 1 - x13_171953_171955.toInt).toNat < n_171933 by omega) ⟨rfl, (show 0 ≤ x13_171953_171955.toInt by omega), (show x13_171953_171955.toInt ≤ 20 by omega)⟩
      · have g16 : r11_171953_171955.toInt ≠ (-1 : Int32).toInt := fun z => h_13 (Int32.toInt_inj.mp z)
        refine ok_nm2 (fun x14_171953_171955 ex14_171953_171955 => ?_)
        have l_1 : (1 : Int32).toInt = 1 := by decide
        refine ok_nm2 (fun x15_171953_171955 ex15_171953_171955 => ?_)
        have f17 : (a4_171933 + (1 : Int32)).toInt = a4_171933.toInt + (1 : Int32).toInt := iadd_toInt (by omega) (by omega)
        have qx15_171953_171955 : x15_171953_171955.toInt = (a4_171933 + 1).toInt := by rw [ex15_171953_171955]
        exact hrec_171933 _ (x14_171953_171955, x15_171953_171955) (show (20 + 1 - x15_171953_171955.toInt).toNat < n_171933 by omega) ⟨rfl, (show 0 ≤ x15_171953_171955.toInt by omega), (show x15_171953_171955.toInt ≤ 20 by omega)⟩
set_option maxRecDepth 20000 in
set_option maxHeartbeats 2000000 in
theorem o_fX10_isLoop {σ : gS} (hIσ : IM σ) {p1 : Int32} {p2 : Int32} {p3 : Int32}  : Ok (fX10_isLoop σ p1 p2 p3) (fun out => 0 ≤ out.toInt ∧ out.toInt ≤ 1) := by
  unfold fX10_isLoop
  have hfσ : Fr fr_fX10_isLoop σ σ := Fr_r
  refine ok_bd.mpr ?_
  try unfold fX10_areTwo
  refine ok_bd.mpr ?_
  try unfold fX10_isPicture
  refine ok_bd.mpr ?_
  try unfold fX10_pictures
  have l_7 : (7 : Int32).toInt = 7 := by decide
  refine ok_gd.mpr ⟨gb_of (by omega) (by omega), ?_⟩
  refine ok_nm2 (fun v1_171989 ev1_171989 => ?_)
  have f1 : 0 ≤ (σ.1 15 (7 : Int32).toNatClampNeg).toInt ∧ (σ.1 15 (7 : Int32).toNatClampNeg).toInt ≤ 12 := hIσ 15 _
  have qv1_171989 : v1_171989.toInt = (σ.1 15 (7 : Int32).toNatClampNeg).toInt := by rw [ev1_171989]
  refine ok_some.mpr ?_
  refine ok_bd.mpr ?_
  try unfold fX10_isIn
  refine ok_ite.mpr ⟨fun h_2 => ?_, fun h_2 => ?_⟩
  · have t3 : p1.toInt64.toInt = p1.toInt := Int32.toInt_toInt64 _
    have t4 : (0 : Int64).toInt = 0 := by decide
    have g5 : p1.toInt64.toInt < (0 : Int64).toInt := Int64.lt_iff_toInt_lt.mp h_2
    refine ok_some.mpr ?_
    refine ok_some.mpr ?_
    refine ok_ite.mpr ⟨fun h_6 => ?_, fun h_6 => ?_⟩
    · have f7 : (vp_nar .boolean 0).toInt = 0 := by decide
      have l_0 : (0 : Int32).toInt = 0 := by decide
      have g8 : (vp_nar .boolean 0).toInt = (0 : Int32).toInt := by rw [h_6]
      refine ok_some.mpr ?_
      refine ok_ite.mpr ⟨fun h_9 => ?_, fun h_9 => ?_⟩
      · have g10 : (0 : Int32).toInt = (0 : Int32).toInt := by rw [h_9]
        refine ok_some.mpr ?_
        exact ⟨(show 0 ≤ (0 : Int32).toInt by omega), (show (0 : Int32).toInt ≤ 1 by omega)⟩
      · have g11 : (0 : Int32).toInt ≠ (0 : Int32).toInt := fun z => h_9 (Int32.toInt_inj.mp z)
        exfalso; omega
    · have f12 : (vp_nar .boolean 0).toInt = 0 := by decide
      have l_0 : (0 : Int32).toInt = 0 := by decide
      have g13 : (vp_nar .boolean 0).toInt ≠ (0 : Int32).toInt := fun z => h_6 (Int32.toInt_inj.mp z)
      exfalso; omega
  · have t14 : p1.toInt64.toInt = p1.toInt := Int32.toInt_toInt64 _
    have t15 : (0 : Int64).toInt = 0 := by decide
    have g16 : ¬ p1.toInt64.toInt < (0 : Int64).toInt := fun z => h_2 (Int64.lt_iff_toInt_lt.mpr z)
    refine ok_ite.mpr ⟨fun h_17 => ?_, fun h_17 => ?_⟩
    · have l_1 : (1 : Int32).toInt = 1 := by decide
      have f18 : (v1_171989 - (1 : Int32)).toInt = v1_171989.toInt - (1 : Int32).toInt := isub_toInt (by omega) (by omega)
      have t19 : (v1_171989 - 1).toInt64.toInt = (v1_171989 - 1).toInt := Int32.toInt_toInt64 _
      have g20 : (v1_171989 - 1).toInt64.toInt < p1.toInt64.toInt := Int64.lt_iff_toInt_lt.mp h_17
      refine ok_some.mpr ?_
      refine ok_some.mpr ?_
      refine ok_ite.mpr ⟨fun h_21 => ?_, fun h_21 => ?_⟩
      · have f22 : (vp_nar .boolean 0).toInt = 0 := by decide
        have l_0 : (0 : Int32).toInt = 0 := by decide
        have g23 : (vp_nar .boolean 0).toInt = (0 : Int32).toInt := by rw [h_21]
        refine ok_some.mpr ?_
        refine ok_ite.mpr ⟨fun h_24 => ?_, fun h_24 => ?_⟩
        · have g25 : (0 : Int32).toInt = (0 : Int32).toInt := by rw [h_24]
          refine ok_some.mpr ?_
          exact ⟨(show 0 ≤ (0 : Int32).toInt by omega), (show (0 : Int32).toInt ≤ 1 by omega)⟩
        · have g26 : (0 : Int32).toInt ≠ (0 : Int32).toInt := fun z => h_24 (Int32.toInt_inj.mp z)
          exfalso; omega
      · have f27 : (vp_nar .boolean 0).toInt = 0 := by decide
        have l_0 : (0 : Int32).toInt = 0 := by decide
        have g28 : (vp_nar .boolean 0).toInt ≠ (0 : Int32).toInt := fun z => h_21 (Int32.toInt_inj.mp z)
        exfalso; omega
    · have l_1 : (1 : Int32).toInt = 1 := by decide
      have f29 : (v1_171989 - (1 : Int32)).toInt = v1_171989.toInt - (1 : Int32).toInt := isub_toInt (by omega) (by omega)
      have t30 : (v1_171989 - 1).toInt64.toInt = (v1_171989 - 1).toInt := Int32.toInt_toInt64 _
      have g31 : ¬ (v1_171989 - 1).toInt64.toInt < p1.toInt64.toInt := fun z => h_17 (Int64.lt_iff_toInt_lt.mpr z)
      refine ok_some.mpr ?_
      refine ok_some.mpr ?_
      refine ok_ite.mpr ⟨fun h_32 => ?_, fun h_32 => ?_⟩
      · have f33 : (vp_nar .boolean 1).toInt = 1 := by decide
        have l_0 : (0 : Int32).toInt = 0 := by decide
        have g34 : (vp_nar .boolean 1).toInt = (0 : Int32).toInt := by rw [h_32]
        exfalso; omega
      · have f35 : (vp_nar .boolean 1).toInt = 1 := by decide
        have l_0 : (0 : Int32).toInt = 0 := by decide
        have g36 : (vp_nar .boolean 1).toInt ≠ (0 : Int32).toInt := fun z => h_32 (Int32.toInt_inj.mp z)
        refine ok_bd.mpr ?_
        try unfold fX10_isPicture
        refine ok_bd.mpr ?_
        try unfold fX10_pictures
        refine ok_gd.mpr ⟨gb_of (by omega) (by omega), ?_⟩
        refine ok_nm2 (fun v1_172001 ev1_172001 => ?_)
        have qv1_172001 : v1_172001.toInt = (σ.1 15 (7 : Int32).toNatClampNeg).toInt := by rw [ev1_172001]
        refine ok_some.mpr ?_
        refine ok_bd.mpr ?_
        try unfold fX10_isIn
        refine ok_ite.mpr ⟨fun h_37 => ?_, fun h_37 => ?_⟩
        · have t38 : p2.toInt64.toInt = p2.toInt := Int32.toInt_toInt64 _
          have g39 : p2.toInt64.toInt < (0 : Int64).toInt := Int64.lt_iff_toInt_lt.mp h_37
          refine ok_some.mpr ?_
          refine ok_some.mpr ?_
          refine ok_ite.mpr ⟨fun h_40 => ?_, fun h_40 => ?_⟩
          · have f41 : (vp_nar .boolean 0).toInt = 0 := by decide
            have g42 : (vp_nar .boolean 0).toInt = (0 : Int32).toInt := by rw [h_40]
            refine ok_some.mpr ?_
            refine ok_ite.mpr ⟨fun h_43 => ?_, fun h_43 => ?_⟩
            · have g44 : (0 : Int32).toInt = (0 : Int32).toInt := by rw [h_43]
              refine ok_some.mpr ?_
              exact ⟨(show 0 ≤ (0 : Int32).toInt by omega), (show (0 : Int32).toInt ≤ 1 by omega)⟩
            · have g45 : (0 : Int32).toInt ≠ (0 : Int32).toInt := fun z => h_43 (Int32.toInt_inj.mp z)
              exfalso; omega
          · have f46 : (vp_nar .boolean 0).toInt = 0 := by decide
            have g47 : (vp_nar .boolean 0).toInt ≠ (0 : Int32).toInt := fun z => h_40 (Int32.toInt_inj.mp z)
            exfalso; omega
        · have t48 : p2.toInt64.toInt = p2.toInt := Int32.toInt_toInt64 _
          have g49 : ¬ p2.toInt64.toInt < (0 : Int64).toInt := fun z => h_37 (Int64.lt_iff_toInt_lt.mpr z)
          refine ok_ite.mpr ⟨fun h_50 => ?_, fun h_50 => ?_⟩
          · have f51 : (v1_172001 - (1 : Int32)).toInt = v1_172001.toInt - (1 : Int32).toInt := isub_toInt (by omega) (by omega)
            have t52 : (v1_172001 - 1).toInt64.toInt = (v1_172001 - 1).toInt := Int32.toInt_toInt64 _
            have g53 : (v1_172001 - 1).toInt64.toInt < p2.toInt64.toInt := Int64.lt_iff_toInt_lt.mp h_50
            refine ok_some.mpr ?_
            refine ok_some.mpr ?_
            refine ok_ite.mpr ⟨fun h_54 => ?_, fun h_54 => ?_⟩
            · have f55 : (vp_nar .boolean 0).toInt = 0 := by decide
              have g56 : (vp_nar .boolean 0).toInt = (0 : Int32).toInt := by rw [h_54]
              refine ok_some.mpr ?_
              refine ok_ite.mpr ⟨fun h_57 => ?_, fun h_57 => ?_⟩
              · have g58 : (0 : Int32).toInt = (0 : Int32).toInt := by rw [h_57]
                refine ok_some.mpr ?_
                exact ⟨(show 0 ≤ (0 : Int32).toInt by omega), (show (0 : Int32).toInt ≤ 1 by omega)⟩
              · have g59 : (0 : Int32).toInt ≠ (0 : Int32).toInt := fun z => h_57 (Int32.toInt_inj.mp z)
                exfalso; omega
            · have f60 : (vp_nar .boolean 0).toInt = 0 := by decide
              have g61 : (vp_nar .boolean 0).toInt ≠ (0 : Int32).toInt := fun z => h_54 (Int32.toInt_inj.mp z)
              exfalso; omega
          · have f62 : (v1_172001 - (1 : Int32)).toInt = v1_172001.toInt - (1 : Int32).toInt := isub_toInt (by omega) (by omega)
            have t63 : (v1_172001 - 1).toInt64.toInt = (v1_172001 - 1).toInt := Int32.toInt_toInt64 _
            have g64 : ¬ (v1_172001 - 1).toInt64.toInt < p2.toInt64.toInt := fun z => h_50 (Int64.lt_iff_toInt_lt.mpr z)
            refine ok_some.mpr ?_
            refine ok_some.mpr ?_
            refine ok_ite.mpr ⟨fun h_65 => ?_, fun h_65 => ?_⟩
            · have g66 : (vp_nar .boolean 1).toInt = (0 : Int32).toInt := by rw [h_65]
              exfalso; omega
            · have g67 : (vp_nar .boolean 1).toInt ≠ (0 : Int32).toInt := fun z => h_65 (Int32.toInt_inj.mp z)
              refine ok_ite.mpr ⟨fun h_68 => ?_, fun h_68 => ?_⟩
              · have g69 : p1.toInt = p2.toInt := by rw [h_68]
                refine ok_some.mpr ?_
                refine ok_ite.mpr ⟨fun h_70 => ?_, fun h_70 => ?_⟩
                · have g71 : (0 : Int32).toInt = (0 : Int32).toInt := by rw [h_70]
                  refine ok_some.mpr ?_
                  exact ⟨(show 0 ≤ (0 : Int32).toInt by omega), (show (0 : Int32).toInt ≤ 1 by omega)⟩
                · have g72 : (0 : Int32).toInt ≠ (0 : Int32).toInt := fun z => h_70 (Int32.toInt_inj.mp z)
                  exfalso; omega
              · have g73 : p1.toInt ≠ p2.toInt := fun z => h_68 (Int32.toInt_inj.mp z)
                refine ok_some.mpr ?_
                refine ok_ite.mpr ⟨fun h_74 => ?_, fun h_74 => ?_⟩
                · have g75 : (1 : Int32).toInt = (0 : Int32).toInt := by rw [h_74]
                  exfalso; omega
                · have g76 : (1 : Int32).toInt ≠ (0 : Int32).toInt := fun z => h_74 (Int32.toInt_inj.mp z)
                  refine ok_bd.mpr ?_
                  try unfold fX10_areTwo
                  refine ok_bd.mpr ?_
                  try unfold fX10_isPicture
                  refine ok_bd.mpr ?_
                  try unfold fX10_pictures
                  refine ok_gd.mpr ⟨gb_of (by omega) (by omega), ?_⟩
                  refine ok_nm2 (fun v1_172016 ev1_172016 => ?_)
                  have qv1_172016 : v1_172016.toInt = (σ.1 15 (7 : Int32).toNatClampNeg).toInt := by rw [ev1_172016]
                  refine ok_some.mpr ?_
                  refine ok_bd.mpr ?_
                  try unfold fX10_isIn
                  refine ok_ite.mpr ⟨fun h_77 => ?_, fun h_77 => ?_⟩
                  · have g78 : p2.toInt64.toInt < (0 : Int64).toInt := Int64.lt_iff_toInt_lt.mp h_77
                    exfalso; omega
                  · have g79 : ¬ p2.toInt64.toInt < (0 : Int64).toInt := fun z => h_77 (Int64.lt_iff_toInt_lt.mpr z)
                    refine ok_ite.mpr ⟨fun h_80 => ?_, fun h_80 => ?_⟩
                    · have f81 : (v1_172016 - (1 : Int32)).toInt = v1_172016.toInt - (1 : Int32).toInt := isub_toInt (by omega) (by omega)
                      have t82 : (v1_172016 - 1).toInt64.toInt = (v1_172016 - 1).toInt := Int32.toInt_toInt64 _
                      have g83 : (v1_172016 - 1).toInt64.toInt < p2.toInt64.toInt := Int64.lt_iff_toInt_lt.mp h_80
                      refine ok_some.mpr ?_
                      refine ok_some.mpr ?_
                      refine ok_ite.mpr ⟨fun h_84 => ?_, fun h_84 => ?_⟩
                      · have f85 : (vp_nar .boolean 0).toInt = 0 := by decide
                        have g86 : (vp_nar .boolean 0).toInt = (0 : Int32).toInt := by rw [h_84]
                        refine ok_some.mpr ?_
                        refine ok_ite.mpr ⟨fun h_87 => ?_, fun h_87 => ?_⟩
                        · have g88 : (0 : Int32).toInt = (0 : Int32).toInt := by rw [h_87]
                          refine ok_some.mpr ?_
                          exact ⟨(show 0 ≤ (0 : Int32).toInt by omega), (show (0 : Int32).toInt ≤ 1 by omega)⟩
                        · have g89 : (0 : Int32).toInt ≠ (0 : Int32).toInt := fun z => h_87 (Int32.toInt_inj.mp z)
                          exfalso; omega
                      · have f90 : (vp_nar .boolean 0).toInt = 0 := by decide
                        have g91 : (vp_nar .boolean 0).toInt ≠ (0 : Int32).toInt := fun z => h_84 (Int32.toInt_inj.mp z)
                        exfalso; omega
                    · have f92 : (v1_172016 - (1 : Int32)).toInt = v1_172016.toInt - (1 : Int32).toInt := isub_toInt (by omega) (by omega)
                      have t93 : (v1_172016 - 1).toInt64.toInt = (v1_172016 - 1).toInt := Int32.toInt_toInt64 _
                      have g94 : ¬ (v1_172016 - 1).toInt64.toInt < p2.toInt64.toInt := fun z => h_80 (Int64.lt_iff_toInt_lt.mpr z)
                      refine ok_some.mpr ?_
                      refine ok_some.mpr ?_
                      refine ok_ite.mpr ⟨fun h_95 => ?_, fun h_95 => ?_⟩
                      · have g96 : (vp_nar .boolean 1).toInt = (0 : Int32).toInt := by rw [h_95]
                        exfalso; omega
                      · have g97 : (vp_nar .boolean 1).toInt ≠ (0 : Int32).toInt := fun z => h_95 (Int32.toInt_inj.mp z)
                        refine ok_bd.mpr ?_
                        try unfold fX10_isPicture
                        refine ok_bd.mpr ?_
                        try unfold fX10_pictures
                        refine ok_gd.mpr ⟨gb_of (by omega) (by omega), ?_⟩
                        refine ok_nm2 (fun v1_172025 ev1_172025 => ?_)
                        have qv1_172025 : v1_172025.toInt = (σ.1 15 (7 : Int32).toNatClampNeg).toInt := by rw [ev1_172025]
                        refine ok_some.mpr ?_
                        refine ok_bd.mpr ?_
                        try unfold fX10_isIn
                        refine ok_ite.mpr ⟨fun h_98 => ?_, fun h_98 => ?_⟩
                        · have t99 : p3.toInt64.toInt = p3.toInt := Int32.toInt_toInt64 _
                          have g100 : p3.toInt64.toInt < (0 : Int64).toInt := Int64.lt_iff_toInt_lt.mp h_98
                          refine ok_some.mpr ?_
                          refine ok_some.mpr ?_
                          refine ok_ite.mpr ⟨fun h_101 => ?_, fun h_101 => ?_⟩
                          · have f102 : (vp_nar .boolean 0).toInt = 0 := by decide
                            have g103 : (vp_nar .boolean 0).toInt = (0 : Int32).toInt := by rw [h_101]
                            refine ok_some.mpr ?_
                            refine ok_ite.mpr ⟨fun h_104 => ?_, fun h_104 => ?_⟩
                            · have g105 : (0 : Int32).toInt = (0 : Int32).toInt := by rw [h_104]
                              refine ok_some.mpr ?_
                              exact ⟨(show 0 ≤ (0 : Int32).toInt by omega), (show (0 : Int32).toInt ≤ 1 by omega)⟩
                            · have g106 : (0 : Int32).toInt ≠ (0 : Int32).toInt := fun z => h_104 (Int32.toInt_inj.mp z)
                              exfalso; omega
                          · have f107 : (vp_nar .boolean 0).toInt = 0 := by decide
                            have g108 : (vp_nar .boolean 0).toInt ≠ (0 : Int32).toInt := fun z => h_101 (Int32.toInt_inj.mp z)
                            exfalso; omega
                        · have t109 : p3.toInt64.toInt = p3.toInt := Int32.toInt_toInt64 _
                          have g110 : ¬ p3.toInt64.toInt < (0 : Int64).toInt := fun z => h_98 (Int64.lt_iff_toInt_lt.mpr z)
                          refine ok_ite.mpr ⟨fun h_111 => ?_, fun h_111 => ?_⟩
                          · have f112 : (v1_172025 - (1 : Int32)).toInt = v1_172025.toInt - (1 : Int32).toInt := isub_toInt (by omega) (by omega)
                            have t113 : (v1_172025 - 1).toInt64.toInt = (v1_172025 - 1).toInt := Int32.toInt_toInt64 _
                            have g114 : (v1_172025 - 1).toInt64.toInt < p3.toInt64.toInt := Int64.lt_iff_toInt_lt.mp h_111
                            refine ok_some.mpr ?_
                            refine ok_some.mpr ?_
                            refine ok_ite.mpr ⟨fun h_115 => ?_, fun h_115 => ?_⟩
                            · have f116 : (vp_nar .boolean 0).toInt = 0 := by decide
                              have g117 : (vp_nar .boolean 0).toInt = (0 : Int32).toInt := by rw [h_115]
                              refine ok_some.mpr ?_
                              refine ok_ite.mpr ⟨fun h_118 => ?_, fun h_118 => ?_⟩
                              · have g119 : (0 : Int32).toInt = (0 : Int32).toInt := by rw [h_118]
                                refine ok_some.mpr ?_
                                exact ⟨(show 0 ≤ (0 : Int32).toInt by omega), (show (0 : Int32).toInt ≤ 1 by omega)⟩
                              · have g120 : (0 : Int32).toInt ≠ (0 : Int32).toInt := fun z => h_118 (Int32.toInt_inj.mp z)
                                exfalso; omega
                            · have f121 : (vp_nar .boolean 0).toInt = 0 := by decide
                              have g122 : (vp_nar .boolean 0).toInt ≠ (0 : Int32).toInt := fun z => h_115 (Int32.toInt_inj.mp z)
                              exfalso; omega
                          · have f123 : (v1_172025 - (1 : Int32)).toInt = v1_172025.toInt - (1 : Int32).toInt := isub_toInt (by omega) (by omega)
                            have t124 : (v1_172025 - 1).toInt64.toInt = (v1_172025 - 1).toInt := Int32.toInt_toInt64 _
                            have g125 : ¬ (v1_172025 - 1).toInt64.toInt < p3.toInt64.toInt := fun z => h_111 (Int64.lt_iff_toInt_lt.mpr z)
                            refine ok_some.mpr ?_
                            refine ok_some.mpr ?_
                            refine ok_ite.mpr ⟨fun h_126 => ?_, fun h_126 => ?_⟩
                            · have g127 : (vp_nar .boolean 1).toInt = (0 : Int32).toInt := by rw [h_126]
                              exfalso; omega
                            · have g128 : (vp_nar .boolean 1).toInt ≠ (0 : Int32).toInt := fun z => h_126 (Int32.toInt_inj.mp z)
                              refine ok_ite.mpr ⟨fun h_129 => ?_, fun h_129 => ?_⟩
                              · have g130 : p2.toInt = p3.toInt := by rw [h_129]
                                refine ok_some.mpr ?_
                                refine ok_ite.mpr ⟨fun h_131 => ?_, fun h_131 => ?_⟩
                                · have g132 : (0 : Int32).toInt = (0 : Int32).toInt := by rw [h_131]
                                  refine ok_some.mpr ?_
                                  exact ⟨(show 0 ≤ (0 : Int32).toInt by omega), (show (0 : Int32).toInt ≤ 1 by omega)⟩
                                · have g133 : (0 : Int32).toInt ≠ (0 : Int32).toInt := fun z => h_131 (Int32.toInt_inj.mp z)
                                  exfalso; omega
                              · have g134 : p2.toInt ≠ p3.toInt := fun z => h_129 (Int32.toInt_inj.mp z)
                                refine ok_some.mpr ?_
                                refine ok_ite.mpr ⟨fun h_135 => ?_, fun h_135 => ?_⟩
                                · have g136 : (1 : Int32).toInt = (0 : Int32).toInt := by rw [h_135]
                                  exfalso; omega
                                · have g137 : (1 : Int32).toInt ≠ (0 : Int32).toInt := fun z => h_135 (Int32.toInt_inj.mp z)
                                  refine ok_bd.mpr ?_
                                  try unfold fX10_areTwo
                                  refine ok_bd.mpr ?_
                                  try unfold fX10_isPicture
                                  refine ok_bd.mpr ?_
                                  try unfold fX10_pictures
                                  refine ok_gd.mpr ⟨gb_of (by omega) (by omega), ?_⟩
                                  refine ok_nm2 (fun v1_172040 ev1_172040 => ?_)
                                  have qv1_172040 : v1_172040.toInt = (σ.1 15 (7 : Int32).toNatClampNeg).toInt := by rw [ev1_172040]
                                  refine ok_some.mpr ?_
                                  refine ok_bd.mpr ?_
                                  try unfold fX10_isIn
                                  refine ok_ite.mpr ⟨fun h_138 => ?_, fun h_138 => ?_⟩
                                  · have g139 : p3.toInt64.toInt < (0 : Int64).toInt := Int64.lt_iff_toInt_lt.mp h_138
                                    exfalso; omega
                                  · have g140 : ¬ p3.toInt64.toInt < (0 : Int64).toInt := fun z => h_138 (Int64.lt_iff_toInt_lt.mpr z)
                                    refine ok_ite.mpr ⟨fun h_141 => ?_, fun h_141 => ?_⟩
                                    · have f142 : (v1_172040 - (1 : Int32)).toInt = v1_172040.toInt - (1 : Int32).toInt := isub_toInt (by omega) (by omega)
                                      have t143 : (v1_172040 - 1).toInt64.toInt = (v1_172040 - 1).toInt := Int32.toInt_toInt64 _
                                      have g144 : (v1_172040 - 1).toInt64.toInt < p3.toInt64.toInt := Int64.lt_iff_toInt_lt.mp h_141
                                      refine ok_some.mpr ?_
                                      refine ok_some.mpr ?_
                                      refine ok_ite.mpr ⟨fun h_145 => ?_, fun h_145 => ?_⟩
                                      · have f146 : (vp_nar .boolean 0).toInt = 0 := by decide
                                        have g147 : (vp_nar .boolean 0).toInt = (0 : Int32).toInt := by rw [h_145]
                                        refine ok_some.mpr ?_
                                        refine ok_ite.mpr ⟨fun h_148 => ?_, fun h_148 => ?_⟩
                                        · have g149 : (0 : Int32).toInt = (0 : Int32).toInt := by rw [h_148]
                                          refine ok_some.mpr ?_
                                          exact ⟨(show 0 ≤ (0 : Int32).toInt by omega), (show (0 : Int32).toInt ≤ 1 by omega)⟩
                                        · have g150 : (0 : Int32).toInt ≠ (0 : Int32).toInt := fun z => h_148 (Int32.toInt_inj.mp z)
                                          exfalso; omega
                                      · have f151 : (vp_nar .boolean 0).toInt = 0 := by decide
                                        have g152 : (vp_nar .boolean 0).toInt ≠ (0 : Int32).toInt := fun z => h_145 (Int32.toInt_inj.mp z)
                                        exfalso; omega
                                    · have f153 : (v1_172040 - (1 : Int32)).toInt = v1_172040.toInt - (1 : Int32).toInt := isub_toInt (by omega) (by omega)
                                      have t154 : (v1_172040 - 1).toInt64.toInt = (v1_172040 - 1).toInt := Int32.toInt_toInt64 _
                                      have g155 : ¬ (v1_172040 - 1).toInt64.toInt < p3.toInt64.toInt := fun z => h_141 (Int64.lt_iff_toInt_lt.mpr z)
                                      refine ok_some.mpr ?_
                                      refine ok_some.mpr ?_
                                      refine ok_ite.mpr ⟨fun h_156 => ?_, fun h_156 => ?_⟩
                                      · have g157 : (vp_nar .boolean 1).toInt = (0 : Int32).toInt := by rw [h_156]
                                        exfalso; omega
                                      · have g158 : (vp_nar .boolean 1).toInt ≠ (0 : Int32).toInt := fun z => h_156 (Int32.toInt_inj.mp z)
                                        refine ok_bd.mpr ?_
                                        try unfold fX10_isPicture
                                        refine ok_bd.mpr ?_
                                        try unfold fX10_pictures
                                        refine ok_gd.mpr ⟨gb_of (by omega) (by omega), ?_⟩
                                        refine ok_nm2 (fun v1_172049 ev1_172049 => ?_)
                                        have qv1_172049 : v1_172049.toInt = (σ.1 15 (7 : Int32).toNatClampNeg).toInt := by rw [ev1_172049]
                                        refine ok_some.mpr ?_
                                        refine ok_bd.mpr ?_
                                        try unfold fX10_isIn
                                        refine ok_ite.mpr ⟨fun h_159 => ?_, fun h_159 => ?_⟩
                                        · have g160 : p1.toInt64.toInt < (0 : Int64).toInt := Int64.lt_iff_toInt_lt.mp h_159
                                          exfalso; omega
                                        · have g161 : ¬ p1.toInt64.toInt < (0 : Int64).toInt := fun z => h_159 (Int64.lt_iff_toInt_lt.mpr z)
                                          refine ok_ite.mpr ⟨fun h_162 => ?_, fun h_162 => ?_⟩
                                          · have f163 : (v1_172049 - (1 : Int32)).toInt = v1_172049.toInt - (1 : Int32).toInt := isub_toInt (by omega) (by omega)
                                            have t164 : (v1_172049 - 1).toInt64.toInt = (v1_172049 - 1).toInt := Int32.toInt_toInt64 _
                                            have g165 : (v1_172049 - 1).toInt64.toInt < p1.toInt64.toInt := Int64.lt_iff_toInt_lt.mp h_162
                                            refine ok_some.mpr ?_
                                            refine ok_some.mpr ?_
                                            refine ok_ite.mpr ⟨fun h_166 => ?_, fun h_166 => ?_⟩
                                            · have f167 : (vp_nar .boolean 0).toInt = 0 := by decide
                                              have g168 : (vp_nar .boolean 0).toInt = (0 : Int32).toInt := by rw [h_166]
                                              refine ok_some.mpr ?_
                                              refine ok_ite.mpr ⟨fun h_169 => ?_, fun h_169 => ?_⟩
                                              · have g170 : (0 : Int32).toInt = (0 : Int32).toInt := by rw [h_169]
                                                refine ok_some.mpr ?_
                                                exact ⟨(show 0 ≤ (0 : Int32).toInt by omega), (show (0 : Int32).toInt ≤ 1 by omega)⟩
                                              · have g171 : (0 : Int32).toInt ≠ (0 : Int32).toInt := fun z => h_169 (Int32.toInt_inj.mp z)
                                                exfalso; omega
                                            · have f172 : (vp_nar .boolean 0).toInt = 0 := by decide
                                              have g173 : (vp_nar .boolean 0).toInt ≠ (0 : Int32).toInt := fun z => h_166 (Int32.toInt_inj.mp z)
                                              exfalso; omega
                                          · have f174 : (v1_172049 - (1 : Int32)).toInt = v1_172049.toInt - (1 : Int32).toInt := isub_toInt (by omega) (by omega)
                                            have t175 : (v1_172049 - 1).toInt64.toInt = (v1_172049 - 1).toInt := Int32.toInt_toInt64 _
                                            have g176 : ¬ (v1_172049 - 1).toInt64.toInt < p1.toInt64.toInt := fun z => h_162 (Int64.lt_iff_toInt_lt.mpr z)
                                            refine ok_some.mpr ?_
                                            refine ok_some.mpr ?_
                                            refine ok_ite.mpr ⟨fun h_177 => ?_, fun h_177 => ?_⟩
                                            · have g178 : (vp_nar .boolean 1).toInt = (0 : Int32).toInt := by rw [h_177]
                                              exfalso; omega
                                            · have g179 : (vp_nar .boolean 1).toInt ≠ (0 : Int32).toInt := fun z => h_177 (Int32.toInt_inj.mp z)
                                              refine ok_ite.mpr ⟨fun h_180 => ?_, fun h_180 => ?_⟩
                                              · have g181 : p3.toInt = p1.toInt := by rw [h_180]
                                                refine ok_some.mpr ?_
                                                refine ok_ite.mpr ⟨fun h_182 => ?_, fun h_182 => ?_⟩
                                                · have g183 : (0 : Int32).toInt = (0 : Int32).toInt := by rw [h_182]
                                                  refine ok_some.mpr ?_
                                                  exact ⟨(show 0 ≤ (0 : Int32).toInt by omega), (show (0 : Int32).toInt ≤ 1 by omega)⟩
                                                · have g184 : (0 : Int32).toInt ≠ (0 : Int32).toInt := fun z => h_182 (Int32.toInt_inj.mp z)
                                                  exfalso; omega
                                              · have g185 : p3.toInt ≠ p1.toInt := fun z => h_180 (Int32.toInt_inj.mp z)
                                                refine ok_some.mpr ?_
                                                refine ok_ite.mpr ⟨fun h_186 => ?_, fun h_186 => ?_⟩
                                                · have g187 : (1 : Int32).toInt = (0 : Int32).toInt := by rw [h_186]
                                                  exfalso; omega
                                                · have g188 : (1 : Int32).toInt ≠ (0 : Int32).toInt := fun z => h_186 (Int32.toInt_inj.mp z)
                                                  refine ok_bd.mpr ((o_fX10_tiePoints hIσ (by omega) (by omega) (by omega) (by omega)).mono (fun r11_171990_171998_171999_172002_172010_172011_172013_172017_172022_172023_172026_172034_172035_172037_172041_172046_172047_172050_172055_172056_172058 ho_190 => ?_))
                                                  refine ok_ite.mpr ⟨fun h_191 => ?_, fun h_191 => ?_⟩
                                                  · have g192 : r11_171990_171998_171999_172002_172010_172011_172013_172017_172022_172023_172026_172034_172035_172037_172041_172046_172047_172050_172055_172056_172058.toInt ≤ (0 : Int32).toInt := Int32.le_iff_toInt_le.mp h_191
                                                    refine ok_some.mpr ?_
                                                    exact ⟨(show 0 ≤ (0 : Int32).toInt by omega), (show (0 : Int32).toInt ≤ 1 by omega)⟩
                                                  · have g193 : ¬ r11_171990_171998_171999_172002_172010_172011_172013_172017_172022_172023_172026_172034_172035_172037_172041_172046_172047_172050_172055_172056_172058.toInt ≤ (0 : Int32).toInt := fun z => h_191 (Int32.le_iff_toInt_le.mpr z)
                                                    refine ok_bd.mpr ((o_fX10_tiePoints hIσ (by omega) (by omega) (by omega) (by omega)).mono (fun r14_171990_171998_171999_172002_172010_172011_172013_172017_172022_172023_172026_172034_172035_172037_172041_172046_172047_172050_172055_172056_172058 ho_195 => ?_))
                                                    refine ok_ite.mpr ⟨fun h_196 => ?_, fun h_196 => ?_⟩
                                                    · have g197 : r14_171990_171998_171999_172002_172010_172011_172013_172017_172022_172023_172026_172034_172035_172037_172041_172046_172047_172050_172055_172056_172058.toInt ≤ (0 : Int32).toInt := Int32.le_iff_toInt_le.mp h_196
                                                      refine ok_some.mpr ?_
                                                      exact ⟨(show 0 ≤ (0 : Int32).toInt by omega), (show (0 : Int32).toInt ≤ 1 by omega)⟩
                                                    · have g198 : ¬ r14_171990_171998_171999_172002_172010_172011_172013_172017_172022_172023_172026_172034_172035_172037_172041_172046_172047_172050_172055_172056_172058.toInt ≤ (0 : Int32).toInt := fun z => h_196 (Int32.le_iff_toInt_le.mpr z)
                                                      refine ok_bd.mpr ((o_fX10_tiePoints hIσ (by omega) (by omega) (by omega) (by omega)).mono (fun r17_171990_171998_171999_172002_172010_172011_172013_172017_172022_172023_172026_172034_172035_172037_172041_172046_172047_172050_172055_172056_172058 ho_200 => ?_))
                                                      refine ok_ite.mpr ⟨fun h_201 => ?_, fun h_201 => ?_⟩
                                                      · have g202 : r17_171990_171998_171999_172002_172010_172011_172013_172017_172022_172023_172026_172034_172035_172037_172041_172046_172047_172050_172055_172056_172058.toInt ≤ (0 : Int32).toInt := Int32.le_iff_toInt_le.mp h_201
                                                        refine ok_some.mpr ?_
                                                        exact ⟨(show 0 ≤ (0 : Int32).toInt by omega), (show (0 : Int32).toInt ≤ 1 by omega)⟩
                                                      · have g203 : ¬ r17_171990_171998_171999_172002_172010_172011_172013_172017_172022_172023_172026_172034_172035_172037_172041_172046_172047_172050_172055_172056_172058.toInt ≤ (0 : Int32).toInt := fun z => h_201 (Int32.le_iff_toInt_le.mpr z)
                                                        refine ok_some.mpr ?_
                                                        exact ⟨(show 0 ≤ (1 : Int32).toInt by omega), (show (1 : Int32).toInt ≤ 1 by omega)⟩
set_option maxRecDepth 20000 in
set_option maxHeartbeats 2000000 in
theorem o_fX10_octet {σ : gS} (hIσ : IM σ) {p1 : Int32}  : Ok (fX10_octet σ p1) (fun out => -1 ≤ out.toInt ∧ out.toInt ≤ 255) := by
  unfold fX10_octet
  have hfσ : Fr fr_fX10_octet σ σ := Fr_r
  refine ok_ite.mpr ⟨fun h_1 => ?_, fun h_1 => ?_⟩
  · have l_0 : (0 : Int32).toInt = 0 := by decide
    have g2 : p1.toInt < (0 : Int32).toInt := Int32.lt_iff_toInt_lt.mp h_1
    refine ok_some.mpr ?_
    have l_m1 : (-1 : Int32).toInt = -1 := by decide
    exact ⟨(show -1 ≤ (-1 : Int32).toInt by omega), (show (-1 : Int32).toInt ≤ 255 by omega)⟩
  · have l_0 : (0 : Int32).toInt = 0 := by decide
    have g3 : ¬ p1.toInt < (0 : Int32).toInt := fun z => h_1 (Int32.lt_iff_toInt_lt.mpr z)
    refine ok_ite.mpr ⟨fun h_4 => ?_, fun h_4 => ?_⟩
    · have f5 : 0 ≤ (σ.1 0 56).toInt ∧ (σ.1 0 56).toInt ≤ 378 := hIσ 0 _
      have g6 : (σ.1 0 56).toInt ≤ p1.toInt := Int32.le_iff_toInt_le.mp h_4
      refine ok_some.mpr ?_
      have l_m1 : (-1 : Int32).toInt = -1 := by decide
      exact ⟨(show -1 ≤ (-1 : Int32).toInt by omega), (show (-1 : Int32).toInt ≤ 255 by omega)⟩
    · have f7 : 0 ≤ (σ.1 0 56).toInt ∧ (σ.1 0 56).toInt ≤ 378 := hIσ 0 _
      have g8 : ¬ (σ.1 0 56).toInt ≤ p1.toInt := fun z => h_4 (Int32.le_iff_toInt_le.mpr z)
      refine ok_gd.mpr ⟨gb_of (by omega) (by omega), ?_⟩
      refine ok_nm2 (fun v3 ev3 => ?_)
      have f9 : 0 ≤ (σ.1 40 p1.toNatClampNeg).toInt ∧ (σ.1 40 p1.toNatClampNeg).toInt ≤ 255 := hIσ 40 _
      have qv3 : v3.toInt = (σ.1 40 p1.toNatClampNeg).toInt := by rw [ev3]
      refine ok_some.mpr ?_
      exact ⟨(show -1 ≤ v3.toInt by omega), (show v3.toInt ≤ 255 by omega)⟩
