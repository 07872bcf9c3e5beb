section GS
variable {M : gM} {Q : State → Prop} {G : gG} {Z : gZ} {cc : ByteArray} {own : String} {nL : Nat} {ws : List Cond} {rm : Room} {ret : Option FieldType} {σ : gS} {pc : Nat} {lv : List (Nat × Value)} {st : List Value} {α : Type} {out : α}
/-- the rounds that a loop may make: far above what any makes -/
noncomputable def K9 : Nat := 1048576
theorem K9_is : K9 = 1048576 := rfl
noncomputable def gsz (sh : List gC) (kd t k : Nat) : Nat := match sh[k]? with
  | some q => if q.1 = kd ∧ q.2.1 = t then q.2.2.1 else 0
  | none => 0
noncomputable def gis (sh : List gC) (kd t k : Nat) : Bool := decide (0 < gsz sh kd t k)
theorem gsz_at {sh : List gC} {kd t k : Nat} (h : 0 < gsz sh kd t k) : ∃ r, sh[k]? = some (kd, t, gsz sh kd t k, r) := by
  unfold gsz at h ⊢
  cases hq : sh[k]? with
  | none => rw [hq] at h; cases h
  | some q =>
    rw [hq] at h
    obtain ⟨a, b, n, r⟩ := q
    by_cases hc : a = kd ∧ b = t
    · obtain ⟨rfl, rfl⟩ := hc
      exact ⟨r, by simp⟩
    · simp [hc] at h
theorem gb_lt {i : Int32} {n : Nat} (h : gb i n = true) : i.toNatClampNeg < n := Nat.not_le.mp fun q => gb_in h (Or.inr q)
theorem gb_pos {i : Int32} {n : Nat} (h : gb i n = true) : 0 < n := Nat.lt_of_le_of_lt (Nat.zero_le _) (gb_lt h)
theorem fst_of {β γ : Type} {a : β} {b : γ} {o : β × γ} (h : some (a, b) = some o) : a = o.1 := by cases h; rfl
theorem snd_of {β γ : Type} {a : β} {b : γ} {o : β × γ} (h : some (a, b) = some o) : b = o.2 := by cases h; rfl
theorem sw_out {x : Int32} (lo hi : Int) (h : ∀ i : Int, lo ≤ i → i ≤ hi → ¬ x.toInt = i) : x.toInt < lo ∨ hi < x.toInt := by
  by_cases h1 : x.toInt < lo
  · exact Or.inl h1
  · by_cases h2 : hi < x.toInt
    · exact Or.inr h2
    · exact absurd rfl (h x.toInt (by omega) (by omega))
theorem ww_ldcw (X : gX M G Z cc own nL ws rm ret) {index : Nat} {v : Int32} (hc : Jvm.Cond.constant own index v ∈ ws) (hd : decode cc pc = .ok (.ldc_w index, 3)) (kk : WW M Q G Z nL σ (pc + 3) lv (.int v :: st)) : WW M Q G Z nL σ pc lv st := fun H locs ls hP hS h => lv_ldcw X.1 X.2.1 X.2.2.2.1 (X.2.2.2.2.1 _ hc) hd (kk H locs ls hP hS h)
theorem ww_caldS (X : gX M G Z cc own nL ws rm ret) {i : Int32} {k t : Nat} {E : Int32 → Option α} (hd : decode cc pc = .ok (.caload, 1)) (hy : Z.2.1[t]? = some .char) (hF : gd (gb i (gsz Z.1 0 t k)) (nm (σ.1 k i.toNatClampNeg) E) = some out) (kk : ∀ v : Int32, v = σ.1 k i.toNatClampNeg → gb i (gsz Z.1 0 t k) = true → E v = some out → WW M Q G Z nL σ (pc + 1) lv (.int v :: st)) : WW M Q G Z nL σ pc lv (.int i :: .ref (G.2.1 k) :: st) := by
  obtain ⟨r, hs⟩ := gsz_at (gb_pos (gd_some hF).1)
  exact ww_cald X hd hs hy hF kk
theorem ww_ialdS (X : gX M G Z cc own nL ws rm ret) {i : Int32} {k t : Nat} {E : Int32 → Option α} (hd : decode cc pc = .ok (.iaload, 1)) (hy : Z.2.1[t]? = some .int) (hF : gd (gb i (gsz Z.1 0 t k)) (nm (σ.1 k i.toNatClampNeg) E) = some out) (kk : ∀ v : Int32, v = σ.1 k i.toNatClampNeg → gb i (gsz Z.1 0 t k) = true → E v = some out → WW M Q G Z nL σ (pc + 1) lv (.int v :: st)) : WW M Q G Z nL σ pc lv (.int i :: .ref (G.2.1 k) :: st) := by
  obtain ⟨r, hs⟩ := gsz_at (gb_pos (gd_some hF).1)
  exact ww_iald X hd hs hy hF kk
theorem ww_iastS (X : gX M G Z cc own nL ws rm ret) {i x : Int32} {k t : Nat} {E : gS → Option α} (hd : decode cc pc = .ok (.iastore, 1)) (hy : Z.2.1[t]? = some .int) (hF : gd (gb i (gsz Z.1 0 t k)) (nm (gsI σ k i.toNatClampNeg x) E) = some out) (kk : ∀ σ1 : gS, σ1 = gsI σ k i.toNatClampNeg x → gb i (gsz Z.1 0 t k) = true → E σ1 = some out → WW M Q G Z nL σ1 (pc + 1) lv st) : WW M Q G Z nL σ pc lv (.int x :: .int i :: .ref (G.2.1 k) :: st) := by
  obtain ⟨r, hs⟩ := gsz_at (gb_pos (gd_some hF).1)
  exact ww_iast X hd hs hy hF kk
theorem ww_lastS (X : gX M G Z cc own nL ws rm ret) {i : Int32} {x : Int64} {k t : Nat} {E : gS → Option α} (hd : decode cc pc = .ok (.lastore, 1)) (hy : Z.2.1[t]? = some .long) (hF : gd (gb i (gsz Z.1 1 t k)) (nm (gsL σ k i.toNatClampNeg x) E) = some out) (kk : ∀ σ1 : gS, σ1 = gsL σ k i.toNatClampNeg x → gb i (gsz Z.1 1 t k) = true → E σ1 = some out → WW M Q G Z nL σ1 (pc + 1) lv st) : WW M Q G Z nL σ pc lv (.long x :: .int i :: .ref (G.2.1 k) :: st) := by
  obtain ⟨r, hs⟩ := gsz_at (gb_pos (gd_some hF).1)
  exact ww_last X hd hs hy hF kk
theorem ww_alenS (X : gX M G Z cc own nL ws rm ret) {kd k t : Nat} {ty : FieldType} {E : Option α} (hkd : kd < 3) (hd : decode cc pc = .ok (.arraylength, 1)) (hy : Z.2.1[t]? = some ty) (hF : gd (gis Z.1 kd t k) E = some out) (kk : gis Z.1 kd t k = true → E = some out → WW M Q G Z nL σ (pc + 1) lv (.int (Int32.ofNat (gsz Z.1 kd t k)) :: st)) : WW M Q G Z nL σ pc lv (.ref (G.2.1 k) :: st) := by
  obtain ⟨hb, hE⟩ := gd_some hF
  obtain ⟨r, hs⟩ := gsz_at (of_decide_eq_true hb)
  exact ww_alen X hkd hd hs hy rfl (kk hb hE)
end GS
/-! the shape of the world zM -/
noncomputable def zM : gZ := ([(3, 10, 0, [3, 0, 0, 0, 0, 0, 0, 0, 0, 4, 5, 6, 7, 8, 9, 10, 11, 12, 13, 14, 15, 0, 16, 17, 18, 19, 20, 21, 22, 23, 24, 25, 26, 27, 0, 28, 0, 29, 30, 31, 1, 0, 32, 0, 33, 34, 35, 36, 37, 38, 39, 40, 0, 41, 1, 42, 0]), (0, 0, 1600, []), (0, 1, 5, []), (0, 1, 7, []), (0, 1, 2, []), (0, 1, 4, []), (0, 1, 3, []), (0, 1, 5, []), (0, 1, 3, []), (0, 1, 2, []), (0, 1, 6, []), (0, 1, 7, []), (0, 1, 3, []), (0, 1, 6, []), (1, 2, 120, []), (0, 0, 12, []), (0, 0, 24, []), (0, 0, 24, []), (0, 0, 24, []), (0, 0, 48, []), (0, 0, 40, []), (0, 0, 80, []), (0, 0, 120, []), (0, 0, 120, []), (0, 0, 240, []), (0, 0, 120, []), (0, 3, 60, []), (0, 0, 12, []), (0, 0, 76, []), (0, 3, 12, []), (0, 0, 38, []), (1, 2, 1520, []), (0, 0, 32, []), (0, 3, 60, []), (0, 0, 12, []), (0, 0, 12, []), (0, 3, 60, []), (0, 0, 76, []), (0, 0, 12, []), (0, 0, 24, []), (0, 0, 400, [])], [.int, .char, .long, .boolean], vwCl)
theorem shzM_0 : zM.1[0]? = some (3, 10, 0, [3, 0, 0, 0, 0, 0, 0, 0, 0, 4, 5, 6, 7, 8, 9, 10, 11, 12, 13, 14, 15, 0, 16, 17, 18, 19, 20, 21, 22, 23, 24, 25, 26, 27, 0, 28, 0, 29, 30, 31, 1, 0, 32, 0, 33, 34, 35, 36, 37, 38, 39, 40, 0, 41, 1, 42, 0]) := rfl
theorem shzM_1 : zM.1[1]? = some (0, 0, 1600, []) := rfl
theorem shzM_2 : zM.1[2]? = some (0, 1, 5, []) := rfl
theorem shzM_3 : zM.1[3]? = some (0, 1, 7, []) := rfl
theorem shzM_4 : zM.1[4]? = some (0, 1, 2, []) := rfl
theorem shzM_5 : zM.1[5]? = some (0, 1, 4, []) := rfl
theorem shzM_6 : zM.1[6]? = some (0, 1, 3, []) := rfl
theorem shzM_7 : zM.1[7]? = some (0, 1, 5, []) := rfl
theorem shzM_8 : zM.1[8]? = some (0, 1, 3, []) := rfl
theorem shzM_9 : zM.1[9]? = some (0, 1, 2, []) := rfl
theorem shzM_10 : zM.1[10]? = some (0, 1, 6, []) := rfl
theorem shzM_11 : zM.1[11]? = some (0, 1, 7, []) := rfl
theorem shzM_12 : zM.1[12]? = some (0, 1, 3, []) := rfl
theorem shzM_13 : zM.1[13]? = some (0, 1, 6, []) := rfl
theorem shzM_14 : zM.1[14]? = some (1, 2, 120, []) := rfl
theorem shzM_15 : zM.1[15]? = some (0, 0, 12, []) := rfl
theorem shzM_16 : zM.1[16]? = some (0, 0, 24, []) := rfl
theorem shzM_17 : zM.1[17]? = some (0, 0, 24, []) := rfl
theorem shzM_18 : zM.1[18]? = some (0, 0, 24, []) := rfl
theorem shzM_19 : zM.1[19]? = some (0, 0, 48, []) := rfl
theorem shzM_20 : zM.1[20]? = some (0, 0, 40, []) := rfl
theorem shzM_21 : zM.1[21]? = some (0, 0, 80, []) := rfl
theorem shzM_22 : zM.1[22]? = some (0, 0, 120, []) := rfl
theorem shzM_23 : zM.1[23]? = some (0, 0, 120, []) := rfl
theorem shzM_24 : zM.1[24]? = some (0, 0, 240, []) := rfl
theorem shzM_25 : zM.1[25]? = some (0, 0, 120, []) := rfl
theorem shzM_26 : zM.1[26]? = some (0, 3, 60, []) := rfl
theorem shzM_27 : zM.1[27]? = some (0, 0, 12, []) := rfl
theorem shzM_28 : zM.1[28]? = some (0, 0, 76, []) := rfl
theorem shzM_29 : zM.1[29]? = some (0, 3, 12, []) := rfl
theorem shzM_30 : zM.1[30]? = some (0, 0, 38, []) := rfl
theorem shzM_31 : zM.1[31]? = some (1, 2, 1520, []) := rfl
theorem shzM_32 : zM.1[32]? = some (0, 0, 32, []) := rfl
theorem shzM_33 : zM.1[33]? = some (0, 3, 60, []) := rfl
theorem shzM_34 : zM.1[34]? = some (0, 0, 12, []) := rfl
theorem shzM_35 : zM.1[35]? = some (0, 0, 12, []) := rfl
theorem shzM_36 : zM.1[36]? = some (0, 3, 60, []) := rfl
theorem shzM_37 : zM.1[37]? = some (0, 0, 76, []) := rfl
theorem shzM_38 : zM.1[38]? = some (0, 0, 12, []) := rfl
theorem shzM_39 : zM.1[39]? = some (0, 0, 24, []) := rfl
theorem shzM_40 : zM.1[40]? = some (0, 0, 400, []) := rfl
theorem clzM_0 : zM.2.2[0]? = some (RX0, TX0, 4) := rfl
theorem clzM_1 : zM.2.2[1]? = some (RX1, TX1, 5) := rfl
theorem clzM_2 : zM.2.2[2]? = some (RX2, TX2, 4) := rfl
theorem clzM_3 : zM.2.2[3]? = some (RX3, TX3, 14) := rfl
theorem clzM_4 : zM.2.2[4]? = some (RX4, TX4, 5) := rfl
theorem clzM_5 : zM.2.2[5]? = some (RX5, TX5, 7) := rfl
theorem clzM_6 : zM.2.2[6]? = some (RX6, TX6, 6) := rfl
theorem clzM_7 : zM.2.2[7]? = some (RX7, TX7, 13) := rfl
theorem clzM_8 : zM.2.2[8]? = some (RX8, TX8, 12) := rfl
theorem clzM_9 : zM.2.2[9]? = some (RX9, TX9, 17) := rfl
theorem clzM_10 : zM.2.2[10]? = some (RX10, TX10, 57) := rfl
theorem inX10_adds_RX10 : ∀ w ∈ u_ws RX10 TX10 57, w ∈ wsX10_adds := fun w h => List.mem_cons_of_mem _ (List.mem_append_right _ h)
theorem inX10_alters_RX10 : ∀ w ∈ u_ws RX10 TX10 57, w ∈ wsX10_alters := fun w h => List.mem_cons_of_mem _ (List.mem_append_right _ h)
theorem inX10_asks_RX10 : ∀ w ∈ u_ws RX10 TX10 57, w ∈ wsX10_asks := fun w h => List.mem_cons_of_mem _ (List.mem_append_right _ h)
theorem inX10_asksSign_RX10 : ∀ w ∈ u_ws RX10 TX10 57, w ∈ wsX10_asksSign := fun w h => List.mem_cons_of_mem _ (List.mem_append_right _ h)
theorem inX10_becomes_RX10 : ∀ w ∈ u_ws RX10 TX10 57, w ∈ wsX10_becomes := fun w h => List.mem_cons_of_mem _ (List.mem_append_right _ h)
theorem inX10_blind_RX10 : ∀ w ∈ u_ws RX10 TX10 57, w ∈ wsX10_blind := fun w h => List.mem_cons_of_mem _ (List.mem_append_right _ h)
theorem inX10_block_RX10 : ∀ w ∈ u_ws RX10 TX10 57, w ∈ wsX10_block := fun w h => List.mem_cons_of_mem _ (List.mem_append_right _ h)
theorem inX10_blockTold_RX10 : ∀ w ∈ u_ws RX10 TX10 57, w ∈ wsX10_blockTold := fun w h => List.mem_cons_of_mem _ (List.mem_append_right _ h)
theorem inX10_canShow_RX10 : ∀ w ∈ u_ws RX10 TX10 57, w ∈ wsX10_canShow := fun w h => List.mem_cons_of_mem _ (List.mem_append_right _ h)
theorem inX10_centreOf_RX10 : ∀ w ∈ u_ws RX10 TX10 57, w ∈ wsX10_centreOf := fun w h => List.mem_cons_of_mem _ (List.mem_append_right _ h)
theorem inX10_centreTold_RX10 : ∀ w ∈ u_ws RX10 TX10 57, w ∈ wsX10_centreTold := fun w h => List.mem_cons_of_mem _ (List.mem_append_right _ h)
theorem inX10_clean_RX10 : ∀ w ∈ u_ws RX10 TX10 57, w ∈ wsX10_clean := fun w h => List.mem_cons_of_mem _ (List.mem_append_right _ h)
theorem inX10_controlTold_RX10 : ∀ w ∈ u_ws RX10 TX10 57, w ∈ wsX10_controlTold := fun w h => List.mem_cons_of_mem _ (List.mem_append_right _ h)
theorem inX10_drawOf_RX10 : ∀ w ∈ u_ws RX10 TX10 57, w ∈ wsX10_drawOf := fun w h => List.mem_cons_of_mem _ (List.mem_append_right _ h)
theorem inX10_drift_RX10 : ∀ w ∈ u_ws RX10 TX10 57, w ∈ wsX10_drift := fun w h => List.mem_cons_of_mem _ (List.mem_append_right _ h)
theorem inX10_drop_RX10 : ∀ w ∈ u_ws RX10 TX10 57, w ∈ wsX10_drop := fun w h => List.mem_cons_of_mem _ (List.mem_append_right _ h)
theorem inX10_dropped_RX10 : ∀ w ∈ u_ws RX10 TX10 57, w ∈ wsX10_dropped := fun w h => List.mem_cons_of_mem _ (List.mem_append_right _ h)
theorem inX10_end_RX10 : ∀ w ∈ u_ws RX10 TX10 57, w ∈ wsX10_end := fun w h => List.mem_cons_of_mem _ (List.mem_append_right _ h)
theorem inX10_equations_RX10 : ∀ w ∈ u_ws RX10 TX10 57, w ∈ wsX10_equations := fun w h => List.mem_cons_of_mem _ (List.mem_append_right _ h)
theorem inX10_fail_RX10 : ∀ w ∈ u_ws RX10 TX10 57, w ∈ wsX10_fail := fun w h => List.mem_cons_of_mem _ (List.mem_append_right _ h)
theorem inX10_fault_RX10 : ∀ w ∈ u_ws RX10 TX10 57, w ∈ wsX10_fault := fun w h => List.mem_cons_of_mem _ (List.mem_append_right _ h)
theorem inX10_feed_RX10 : ∀ w ∈ u_ws RX10 TX10 57, w ∈ wsX10_feed := fun w h => List.mem_cons_of_mem _ (List.mem_append_right _ h)
theorem inX10_firstNotStarted_RX10 : ∀ w ∈ u_ws RX10 TX10 57, w ∈ wsX10_firstNotStarted := fun w h => List.mem_cons_of_mem _ (List.mem_append_right _ h)
theorem inX10_fourAt_RX10 : ∀ w ∈ u_ws RX10 TX10 57, w ∈ wsX10_fourAt := fun w h => List.mem_cons_of_mem _ (List.mem_append_right _ h)
theorem inX10_hang_RX10 : ∀ w ∈ u_ws RX10 TX10 57, w ∈ wsX10_hang := fun w h => List.mem_cons_of_mem _ (List.mem_append_right _ h)
theorem inX10_hangs_RX10 : ∀ w ∈ u_ws RX10 TX10 57, w ∈ wsX10_hangs := fun w h => List.mem_cons_of_mem _ (List.mem_append_right _ h)
theorem inX10_has_RX10 : ∀ w ∈ u_ws RX10 TX10 57, w ∈ wsX10_has := fun w h => List.mem_cons_of_mem _ (List.mem_append_right _ h)
theorem inX10_image_RX10 : ∀ w ∈ u_ws RX10 TX10 57, w ∈ wsX10_image := fun w h => List.mem_cons_of_mem _ (List.mem_append_right _ h)
theorem inX10_isControl_RX10 : ∀ w ∈ u_ws RX10 TX10 57, w ∈ wsX10_isControl := fun w h => List.mem_cons_of_mem _ (List.mem_append_right _ h)
theorem inX10_isDriftAltered_RX10 : ∀ w ∈ u_ws RX10 TX10 57, w ∈ wsX10_isDriftAltered := fun w h => List.mem_cons_of_mem _ (List.mem_append_right _ h)
theorem inX10_isFull_RX10 : ∀ w ∈ u_ws RX10 TX10 57, w ∈ wsX10_isFull := fun w h => List.mem_cons_of_mem _ (List.mem_append_right _ h)
theorem inX10_isHere_RX10 : ∀ w ∈ u_ws RX10 TX10 57, w ∈ wsX10_isHere := fun w h => List.mem_cons_of_mem _ (List.mem_append_right _ h)
theorem inX10_isLoose_RX10 : ∀ w ∈ u_ws RX10 TX10 57, w ∈ wsX10_isLoose := fun w h => List.mem_cons_of_mem _ (List.mem_append_right _ h)
theorem inX10_isOwnHere_RX10 : ∀ w ∈ u_ws RX10 TX10 57, w ∈ wsX10_isOwnHere := fun w h => List.mem_cons_of_mem _ (List.mem_append_right _ h)
theorem inX10_isPictureAltered_RX10 : ∀ w ∈ u_ws RX10 TX10 57, w ∈ wsX10_isPictureAltered := fun w h => List.mem_cons_of_mem _ (List.mem_append_right _ h)
theorem inX10_isPointAltered_RX10 : ∀ w ∈ u_ws RX10 TX10 57, w ∈ wsX10_isPointAltered := fun w h => List.mem_cons_of_mem _ (List.mem_append_right _ h)
theorem inX10_isRound_RX10 : ∀ w ∈ u_ws RX10 TX10 57, w ∈ wsX10_isRound := fun w h => List.mem_cons_of_mem _ (List.mem_append_right _ h)
theorem inX10_isSolved_RX10 : ∀ w ∈ u_ws RX10 TX10 57, w ∈ wsX10_isSolved := fun w h => List.mem_cons_of_mem _ (List.mem_append_right _ h)
theorem inX10_isTold_RX10 : ∀ w ∈ u_ws RX10 TX10 57, w ∈ wsX10_isTold := fun w h => List.mem_cons_of_mem _ (List.mem_append_right _ h)
theorem inX10_isUsed_RX10 : ∀ w ∈ u_ws RX10 TX10 57, w ∈ wsX10_isUsed := fun w h => List.mem_cons_of_mem _ (List.mem_append_right _ h)
theorem inX10_joins_RX10 : ∀ w ∈ u_ws RX10 TX10 57, w ∈ wsX10_joins := fun w h => List.mem_cons_of_mem _ (List.mem_append_right _ h)
theorem inX10_letter_RX10 : ∀ w ∈ u_ws RX10 TX10 57, w ∈ wsX10_letter := fun w h => List.mem_cons_of_mem _ (List.mem_append_right _ h)
theorem inX10_look_RX10 : ∀ w ∈ u_ws RX10 TX10 57, w ∈ wsX10_look := fun w h => List.mem_cons_of_mem _ (List.mem_append_right _ h)
theorem inX10_mean_RX10 : ∀ w ∈ u_ws RX10 TX10 57, w ∈ wsX10_mean := fun w h => List.mem_cons_of_mem _ (List.mem_append_right _ h)
theorem inX10_measures_RX10 : ∀ w ∈ u_ws RX10 TX10 57, w ∈ wsX10_measures := fun w h => List.mem_cons_of_mem _ (List.mem_append_right _ h)
theorem inX10_miss_RX10 : ∀ w ∈ u_ws RX10 TX10 57, w ∈ wsX10_miss := fun w h => List.mem_cons_of_mem _ (List.mem_append_right _ h)
theorem inX10_name_RX10 : ∀ w ∈ u_ws RX10 TX10 57, w ∈ wsX10_name := fun w h => List.mem_cons_of_mem _ (List.mem_append_right _ h)
theorem inX10_nameOf_RX10 : ∀ w ∈ u_ws RX10 TX10 57, w ∈ wsX10_nameOf := fun w h => List.mem_cons_of_mem _ (List.mem_append_right _ h)
theorem inX10_needs_RX10 : ∀ w ∈ u_ws RX10 TX10 57, w ∈ wsX10_needs := fun w h => List.mem_cons_of_mem _ (List.mem_append_right _ h)
theorem inX10_newName_RX10 : ∀ w ∈ u_ws RX10 TX10 57, w ∈ wsX10_newName := fun w h => List.mem_cons_of_mem _ (List.mem_append_right _ h)
theorem inX10_nextStarted_RX10 : ∀ w ∈ u_ws RX10 TX10 57, w ∈ wsX10_nextStarted := fun w h => List.mem_cons_of_mem _ (List.mem_append_right _ h)
theorem inX10_noMean_RX10 : ∀ w ∈ u_ws RX10 TX10 57, w ∈ wsX10_noMean := fun w h => List.mem_cons_of_mem _ (List.mem_append_right _ h)
theorem inX10_number_RX10 : ∀ w ∈ u_ws RX10 TX10 57, w ∈ wsX10_number := fun w h => List.mem_cons_of_mem _ (List.mem_append_right _ h)
theorem inX10_numberOf_RX10 : ∀ w ∈ u_ws RX10 TX10 57, w ∈ wsX10_numberOf := fun w h => List.mem_cons_of_mem _ (List.mem_append_right _ h)
theorem inX10_octet_RX10 : ∀ w ∈ u_ws RX10 TX10 57, w ∈ wsX10_octet := fun w h => List.mem_cons_of_mem _ (List.mem_append_right _ h)
theorem inX10_on_RX10 : ∀ w ∈ u_ws RX10 TX10 57, w ∈ wsX10_on := fun w h => List.mem_cons_of_mem _ (List.mem_append_right _ h)
theorem inX10_oneOf_RX10 : ∀ w ∈ u_ws RX10 TX10 57, w ∈ wsX10_oneOf := fun w h => List.mem_cons_of_mem _ (List.mem_append_right _ h)
theorem inX10_parts_RX10 : ∀ w ∈ u_ws RX10 TX10 57, w ∈ wsX10_parts := fun w h => List.mem_cons_of_mem _ (List.mem_append_right _ h)
theorem inX10_picture_RX10 : ∀ w ∈ u_ws RX10 TX10 57, w ∈ wsX10_picture := fun w h => List.mem_cons_of_mem _ (List.mem_append_right _ h)
theorem inX10_pictureOf_RX10 : ∀ w ∈ u_ws RX10 TX10 57, w ∈ wsX10_pictureOf := fun w h => List.mem_cons_of_mem _ (List.mem_append_right _ h)
theorem inX10_pictureTold_RX10 : ∀ w ∈ u_ws RX10 TX10 57, w ∈ wsX10_pictureTold := fun w h => List.mem_cons_of_mem _ (List.mem_append_right _ h)
theorem inX10_pictures_RX10 : ∀ w ∈ u_ws RX10 TX10 57, w ∈ wsX10_pictures := fun w h => List.mem_cons_of_mem _ (List.mem_append_right _ h)
theorem inX10_placeBy_RX10 : ∀ w ∈ u_ws RX10 TX10 57, w ∈ wsX10_placeBy := fun w h => List.mem_cons_of_mem _ (List.mem_append_right _ h)
theorem inX10_plan_RX10 : ∀ w ∈ u_ws RX10 TX10 57, w ∈ wsX10_plan := fun w h => List.mem_cons_of_mem _ (List.mem_append_right _ h)
theorem inX10_point_RX10 : ∀ w ∈ u_ws RX10 TX10 57, w ∈ wsX10_point := fun w h => List.mem_cons_of_mem _ (List.mem_append_right _ h)
theorem inX10_pointOf_RX10 : ∀ w ∈ u_ws RX10 TX10 57, w ∈ wsX10_pointOf := fun w h => List.mem_cons_of_mem _ (List.mem_append_right _ h)
theorem inX10_pointTold_RX10 : ∀ w ∈ u_ws RX10 TX10 57, w ∈ wsX10_pointTold := fun w h => List.mem_cons_of_mem _ (List.mem_append_right _ h)
theorem inX10_points_RX10 : ∀ w ∈ u_ws RX10 TX10 57, w ∈ wsX10_points := fun w h => List.mem_cons_of_mem _ (List.mem_append_right _ h)
theorem inX10_put_RX10 : ∀ w ∈ u_ws RX10 TX10 57, w ∈ wsX10_put := fun w h => List.mem_cons_of_mem _ (List.mem_append_right _ h)
theorem inX10_putsAside_RX10 : ∀ w ∈ u_ws RX10 TX10 57, w ∈ wsX10_putsAside := fun w h => List.mem_cons_of_mem _ (List.mem_append_right _ h)
theorem inX10_row_RX10 : ∀ w ∈ u_ws RX10 TX10 57, w ∈ wsX10_row := fun w h => List.mem_cons_of_mem _ (List.mem_append_right _ h)
theorem inX10_rowOf_RX10 : ∀ w ∈ u_ws RX10 TX10 57, w ∈ wsX10_rowOf := fun w h => List.mem_cons_of_mem _ (List.mem_append_right _ h)
theorem inX10_rowTold_RX10 : ∀ w ∈ u_ws RX10 TX10 57, w ∈ wsX10_rowTold := fun w h => List.mem_cons_of_mem _ (List.mem_append_right _ h)
theorem inX10_rows_RX10 : ∀ w ∈ u_ws RX10 TX10 57, w ∈ wsX10_rows := fun w h => List.mem_cons_of_mem _ (List.mem_append_right _ h)
theorem inX10_rowsOf_RX10 : ∀ w ∈ u_ws RX10 TX10 57, w ∈ wsX10_rowsOf := fun w h => List.mem_cons_of_mem _ (List.mem_append_right _ h)
theorem inX10_sets_RX10 : ∀ w ∈ u_ws RX10 TX10 57, w ∈ wsX10_sets := fun w h => List.mem_cons_of_mem _ (List.mem_append_right _ h)
theorem inX10_slips_RX10 : ∀ w ∈ u_ws RX10 TX10 57, w ∈ wsX10_slips := fun w h => List.mem_cons_of_mem _ (List.mem_append_right _ h)
theorem inX10_standControls_RX10 : ∀ w ∈ u_ws RX10 TX10 57, w ∈ wsX10_standControls := fun w h => List.mem_cons_of_mem _ (List.mem_append_right _ h)
theorem inX10_stands_RX10 : ∀ w ∈ u_ws RX10 TX10 57, w ∈ wsX10_stands := fun w h => List.mem_cons_of_mem _ (List.mem_append_right _ h)
theorem inX10_startedRow_RX10 : ∀ w ∈ u_ws RX10 TX10 57, w ∈ wsX10_startedRow := fun w h => List.mem_cons_of_mem _ (List.mem_append_right _ h)
theorem inX10_starts_RX10 : ∀ w ∈ u_ws RX10 TX10 57, w ∈ wsX10_starts := fun w h => List.mem_cons_of_mem _ (List.mem_append_right _ h)
theorem inX10_startsBy_RX10 : ∀ w ∈ u_ws RX10 TX10 57, w ∈ wsX10_startsBy := fun w h => List.mem_cons_of_mem _ (List.mem_append_right _ h)
theorem inX10_strip_RX10 : ∀ w ∈ u_ws RX10 TX10 57, w ∈ wsX10_strip := fun w h => List.mem_cons_of_mem _ (List.mem_append_right _ h)
theorem inX10_sum_RX10 : ∀ w ∈ u_ws RX10 TX10 57, w ∈ wsX10_sum := fun w h => List.mem_cons_of_mem _ (List.mem_append_right _ h)
theorem inX10_swaps_RX10 : ∀ w ∈ u_ws RX10 TX10 57, w ∈ wsX10_swaps := fun w h => List.mem_cons_of_mem _ (List.mem_append_right _ h)
theorem inX10_takes_RX10 : ∀ w ∈ u_ws RX10 TX10 57, w ∈ wsX10_takes := fun w h => List.mem_cons_of_mem _ (List.mem_append_right _ h)
theorem inX10_takesBack_RX10 : ∀ w ∈ u_ws RX10 TX10 57, w ∈ wsX10_takesBack := fun w h => List.mem_cons_of_mem _ (List.mem_append_right _ h)
theorem inX10_takesSign_RX10 : ∀ w ∈ u_ws RX10 TX10 57, w ∈ wsX10_takesSign := fun w h => List.mem_cons_of_mem _ (List.mem_append_right _ h)
theorem inX10_tells_RX10 : ∀ w ∈ u_ws RX10 TX10 57, w ∈ wsX10_tells := fun w h => List.mem_cons_of_mem _ (List.mem_append_right _ h)
theorem inX10_tree_RX10 : ∀ w ∈ u_ws RX10 TX10 57, w ∈ wsX10_tree := fun w h => List.mem_cons_of_mem _ (List.mem_append_right _ h)
theorem inX10_treeOf_RX10 : ∀ w ∈ u_ws RX10 TX10 57, w ∈ wsX10_treeOf := fun w h => List.mem_cons_of_mem _ (List.mem_append_right _ h)
theorem inX10_turned_RX10 : ∀ w ∈ u_ws RX10 TX10 57, w ∈ wsX10_turned := fun w h => List.mem_cons_of_mem _ (List.mem_append_right _ h)
theorem inX10_turnedBy_RX10 : ∀ w ∈ u_ws RX10 TX10 57, w ∈ wsX10_turnedBy := fun w h => List.mem_cons_of_mem _ (List.mem_append_right _ h)
theorem inX10_weightOf_RX10 : ∀ w ∈ u_ws RX10 TX10 57, w ∈ wsX10_weightOf := fun w h => List.mem_cons_of_mem _ (List.mem_append_right _ h)
theorem inX10_whole_RX10 : ∀ w ∈ u_ws RX10 TX10 57, w ∈ wsX10_whole := fun w h => List.mem_cons_of_mem _ (List.mem_append_right _ h)
theorem inX10_writes_RX10 : ∀ w ∈ u_ws RX10 TX10 57, w ∈ wsX10_writes := fun w h => List.mem_cons_of_mem _ (List.mem_append_right _ h)
theorem inX10_writesPlace_RX10 : ∀ w ∈ u_ws RX10 TX10 57, w ∈ wsX10_writesPlace := fun w h => List.mem_cons_of_mem _ (List.mem_append_right _ h)
theorem hyX10_adds : yX10_adds.cls = RX10 ∧ yX10_adds.cls ≠ "java/lang/invoke/MethodHandle" ∧ yX10_adds.cls ≠ "java/lang/invoke/VarHandle" ∧ (parseMethodDescriptor yX10_adds.desc).map (fun d => d.parameters.length) = some 3 := by decide +kernel
theorem hyX10_addsTie : yX10_addsTie.cls = RX10 ∧ yX10_addsTie.cls ≠ "java/lang/invoke/MethodHandle" ∧ yX10_addsTie.cls ≠ "java/lang/invoke/VarHandle" ∧ (parseMethodDescriptor yX10_addsTie.desc).map (fun d => d.parameters.length) = some 5 := by decide +kernel
theorem hyX10_apart : yX10_apart.cls ≠ "java/lang/invoke/MethodHandle" ∧ yX10_apart.cls ≠ "java/lang/invoke/VarHandle" ∧ (parseMethodDescriptor yX10_apart.desc).map (fun d => d.parameters.length) = some 2 := by decide +kernel
theorem hyX10_areTwo : yX10_areTwo.cls = RX10 ∧ yX10_areTwo.cls ≠ "java/lang/invoke/MethodHandle" ∧ yX10_areTwo.cls ≠ "java/lang/invoke/VarHandle" ∧ (parseMethodDescriptor yX10_areTwo.desc).map (fun d => d.parameters.length) = some 2 := by decide +kernel
theorem hyX10_asks : yX10_asks.cls = RX10 ∧ yX10_asks.cls ≠ "java/lang/invoke/MethodHandle" ∧ yX10_asks.cls ≠ "java/lang/invoke/VarHandle" ∧ (parseMethodDescriptor yX10_asks.desc).map (fun d => d.parameters.length) = some 1 := by decide +kernel
theorem hyX10_asksSign : yX10_asksSign.cls = RX10 ∧ yX10_asksSign.cls ≠ "java/lang/invoke/MethodHandle" ∧ yX10_asksSign.cls ≠ "java/lang/invoke/VarHandle" ∧ (parseMethodDescriptor yX10_asksSign.desc).map (fun d => d.parameters.length) = some 1 := by decide +kernel
theorem hyX10_becomes : yX10_becomes.cls = RX10 ∧ yX10_becomes.cls ≠ "java/lang/invoke/MethodHandle" ∧ yX10_becomes.cls ≠ "java/lang/invoke/VarHandle" ∧ (parseMethodDescriptor yX10_becomes.desc).map (fun d => d.parameters.length) = some 1 := by decide +kernel
theorem hyX10_blockTold : yX10_blockTold.cls = RX10 ∧ yX10_blockTold.cls ≠ "java/lang/invoke/MethodHandle" ∧ yX10_blockTold.cls ≠ "java/lang/invoke/VarHandle" ∧ (parseMethodDescriptor yX10_blockTold.desc).map (fun d => d.parameters.length) = some 0 := by decide +kernel
theorem hyX10_canBe : yX10_canBe.cls = RX10 ∧ yX10_canBe.cls ≠ "java/lang/invoke/MethodHandle" ∧ yX10_canBe.cls ≠ "java/lang/invoke/VarHandle" ∧ (parseMethodDescriptor yX10_canBe.desc).map (fun d => d.parameters.length) = some 4 := by decide +kernel
theorem hyX10_canMeasure : yX10_canMeasure.cls = RX10 ∧ yX10_canMeasure.cls ≠ "java/lang/invoke/MethodHandle" ∧ yX10_canMeasure.cls ≠ "java/lang/invoke/VarHandle" ∧ (parseMethodDescriptor yX10_canMeasure.desc).map (fun d => d.parameters.length) = some 3 := by decide +kernel
theorem hyX10_canShow : yX10_canShow.cls = RX10 ∧ yX10_canShow.cls ≠ "java/lang/invoke/MethodHandle" ∧ yX10_canShow.cls ≠ "java/lang/invoke/VarHandle" ∧ (parseMethodDescriptor yX10_canShow.desc).map (fun d => d.parameters.length) = some 1 := by decide +kernel
theorem hyX10_centreOf : yX10_centreOf.cls = RX10 ∧ yX10_centreOf.cls ≠ "java/lang/invoke/MethodHandle" ∧ yX10_centreOf.cls ≠ "java/lang/invoke/VarHandle" ∧ (parseMethodDescriptor yX10_centreOf.desc).map (fun d => d.parameters.length) = some 1 := by decide +kernel
theorem hyX10_centreTold : yX10_centreTold.cls = RX10 ∧ yX10_centreTold.cls ≠ "java/lang/invoke/MethodHandle" ∧ yX10_centreTold.cls ≠ "java/lang/invoke/VarHandle" ∧ (parseMethodDescriptor yX10_centreTold.desc).map (fun d => d.parameters.length) = some 0 := by decide +kernel
theorem hyX10_checked : yX10_checked.cls ≠ "java/lang/invoke/MethodHandle" ∧ yX10_checked.cls ≠ "java/lang/invoke/VarHandle" ∧ (parseMethodDescriptor yX10_checked.desc).map (fun d => d.parameters.length) = some 2 := by decide +kernel
theorem hyX10_controlTold : yX10_controlTold.cls = RX10 ∧ yX10_controlTold.cls ≠ "java/lang/invoke/MethodHandle" ∧ yX10_controlTold.cls ≠ "java/lang/invoke/VarHandle" ∧ (parseMethodDescriptor yX10_controlTold.desc).map (fun d => d.parameters.length) = some 1 := by decide +kernel
theorem hyX10_controls : yX10_controls.cls = RX10 ∧ yX10_controls.cls ≠ "java/lang/invoke/MethodHandle" ∧ yX10_controls.cls ≠ "java/lang/invoke/VarHandle" ∧ (parseMethodDescriptor yX10_controls.desc).map (fun d => d.parameters.length) = some 0 := by decide +kernel
theorem hyX10_doubtOf : yX10_doubtOf.cls = RX10 ∧ yX10_doubtOf.cls ≠ "java/lang/invoke/MethodHandle" ∧ yX10_doubtOf.cls ≠ "java/lang/invoke/VarHandle" ∧ (parseMethodDescriptor yX10_doubtOf.desc).map (fun d => d.parameters.length) = some 1 := by decide +kernel
theorem hyX10_drawOf : yX10_drawOf.cls = RX10 ∧ yX10_drawOf.cls ≠ "java/lang/invoke/MethodHandle" ∧ yX10_drawOf.cls ≠ "java/lang/invoke/VarHandle" ∧ (parseMethodDescriptor yX10_drawOf.desc).map (fun d => d.parameters.length) = some 1 := by decide +kernel
theorem hyX10_dropped : yX10_dropped.cls = RX10 ∧ yX10_dropped.cls ≠ "java/lang/invoke/MethodHandle" ∧ yX10_dropped.cls ≠ "java/lang/invoke/VarHandle" ∧ (parseMethodDescriptor yX10_dropped.desc).map (fun d => d.parameters.length) = some 0 := by decide +kernel
theorem hyX10_equations : yX10_equations.cls = RX10 ∧ yX10_equations.cls ≠ "java/lang/invoke/MethodHandle" ∧ yX10_equations.cls ≠ "java/lang/invoke/VarHandle" ∧ (parseMethodDescriptor yX10_equations.desc).map (fun d => d.parameters.length) = some 0 := by decide +kernel
theorem hyX10_fail : yX10_fail.cls = RX10 ∧ yX10_fail.cls ≠ "java/lang/invoke/MethodHandle" ∧ yX10_fail.cls ≠ "java/lang/invoke/VarHandle" ∧ (parseMethodDescriptor yX10_fail.desc).map (fun d => d.parameters.length) = some 2 := by decide +kernel
theorem hyX10_firstNotStarted : yX10_firstNotStarted.cls = RX10 ∧ yX10_firstNotStarted.cls ≠ "java/lang/invoke/MethodHandle" ∧ yX10_firstNotStarted.cls ≠ "java/lang/invoke/VarHandle" ∧ (parseMethodDescriptor yX10_firstNotStarted.desc).map (fun d => d.parameters.length) = some 0 := by decide +kernel
theorem hyX10_fourAt : yX10_fourAt.cls = RX10 ∧ yX10_fourAt.cls ≠ "java/lang/invoke/MethodHandle" ∧ yX10_fourAt.cls ≠ "java/lang/invoke/VarHandle" ∧ (parseMethodDescriptor yX10_fourAt.desc).map (fun d => d.parameters.length) = some 1 := by decide +kernel
theorem hyX10_hangs : yX10_hangs.cls = RX10 ∧ yX10_hangs.cls ≠ "java/lang/invoke/MethodHandle" ∧ yX10_hangs.cls ≠ "java/lang/invoke/VarHandle" ∧ (parseMethodDescriptor yX10_hangs.desc).map (fun d => d.parameters.length) = some 0 := by decide +kernel
theorem hyX10_hasDrift : yX10_hasDrift.cls = RX10 ∧ yX10_hasDrift.cls ≠ "java/lang/invoke/MethodHandle" ∧ yX10_hasDrift.cls ≠ "java/lang/invoke/VarHandle" ∧ (parseMethodDescriptor yX10_hasDrift.desc).map (fun d => d.parameters.length) = some 1 := by decide +kernel
theorem hyX10_inverse : yX10_inverse.cls ≠ "java/lang/invoke/MethodHandle" ∧ yX10_inverse.cls ≠ "java/lang/invoke/VarHandle" ∧ (parseMethodDescriptor yX10_inverse.desc).map (fun d => d.parameters.length) = some 1 := by decide +kernel
theorem hyX10_isControl : yX10_isControl.cls = RX10 ∧ yX10_isControl.cls ≠ "java/lang/invoke/MethodHandle" ∧ yX10_isControl.cls ≠ "java/lang/invoke/VarHandle" ∧ (parseMethodDescriptor yX10_isControl.desc).map (fun d => d.parameters.length) = some 1 := by decide +kernel
theorem hyX10_isDigit : yX10_isDigit.cls ≠ "java/lang/invoke/MethodHandle" ∧ yX10_isDigit.cls ≠ "java/lang/invoke/VarHandle" ∧ (parseMethodDescriptor yX10_isDigit.desc).map (fun d => d.parameters.length) = some 1 := by decide +kernel
theorem hyX10_isDriftAltered : yX10_isDriftAltered.cls = RX10 ∧ yX10_isDriftAltered.cls ≠ "java/lang/invoke/MethodHandle" ∧ yX10_isDriftAltered.cls ≠ "java/lang/invoke/VarHandle" ∧ (parseMethodDescriptor yX10_isDriftAltered.desc).map (fun d => d.parameters.length) = some 2 := by decide +kernel
theorem hyX10_isFull : yX10_isFull.cls = RX10 ∧ yX10_isFull.cls ≠ "java/lang/invoke/MethodHandle" ∧ yX10_isFull.cls ≠ "java/lang/invoke/VarHandle" ∧ (parseMethodDescriptor yX10_isFull.desc).map (fun d => d.parameters.length) = some 3 := by decide +kernel
theorem hyX10_isHere : yX10_isHere.cls = RX10 ∧ yX10_isHere.cls ≠ "java/lang/invoke/MethodHandle" ∧ yX10_isHere.cls ≠ "java/lang/invoke/VarHandle" ∧ (parseMethodDescriptor yX10_isHere.desc).map (fun d => d.parameters.length) = some 1 := by decide +kernel
theorem hyX10_isIn : yX10_isIn.cls ≠ "java/lang/invoke/MethodHandle" ∧ yX10_isIn.cls ≠ "java/lang/invoke/VarHandle" ∧ (parseMethodDescriptor yX10_isIn.desc).map (fun d => d.parameters.length) = some 3 := by decide +kernel
theorem hyX10_isLetter : yX10_isLetter.cls ≠ "java/lang/invoke/MethodHandle" ∧ yX10_isLetter.cls ≠ "java/lang/invoke/VarHandle" ∧ (parseMethodDescriptor yX10_isLetter.desc).map (fun d => d.parameters.length) = some 1 := by decide +kernel
theorem hyX10_isLoop : yX10_isLoop.cls = RX10 ∧ yX10_isLoop.cls ≠ "java/lang/invoke/MethodHandle" ∧ yX10_isLoop.cls ≠ "java/lang/invoke/VarHandle" ∧ (parseMethodDescriptor yX10_isLoop.desc).map (fun d => d.parameters.length) = some 3 := by decide +kernel
theorem hyX10_isLoose : yX10_isLoose.cls = RX10 ∧ yX10_isLoose.cls ≠ "java/lang/invoke/MethodHandle" ∧ yX10_isLoose.cls ≠ "java/lang/invoke/VarHandle" ∧ (parseMethodDescriptor yX10_isLoose.desc).map (fun d => d.parameters.length) = some 1 := by decide +kernel
theorem hyX10_isOwnHere : yX10_isOwnHere.cls = RX10 ∧ yX10_isOwnHere.cls ≠ "java/lang/invoke/MethodHandle" ∧ yX10_isOwnHere.cls ≠ "java/lang/invoke/VarHandle" ∧ (parseMethodDescriptor yX10_isOwnHere.desc).map (fun d => d.parameters.length) = some 0 := by decide +kernel
theorem hyX10_isPicture : yX10_isPicture.cls = RX10 ∧ yX10_isPicture.cls ≠ "java/lang/invoke/MethodHandle" ∧ yX10_isPicture.cls ≠ "java/lang/invoke/VarHandle" ∧ (parseMethodDescriptor yX10_isPicture.desc).map (fun d => d.parameters.length) = some 1 := by decide +kernel
theorem hyX10_isPictureAltered : yX10_isPictureAltered.cls = RX10 ∧ yX10_isPictureAltered.cls ≠ "java/lang/invoke/MethodHandle" ∧ yX10_isPictureAltered.cls ≠ "java/lang/invoke/VarHandle" ∧ (parseMethodDescriptor yX10_isPictureAltered.desc).map (fun d => d.parameters.length) = some 2 := by decide +kernel
theorem hyX10_isPoint : yX10_isPoint.cls = RX10 ∧ yX10_isPoint.cls ≠ "java/lang/invoke/MethodHandle" ∧ yX10_isPoint.cls ≠ "java/lang/invoke/VarHandle" ∧ (parseMethodDescriptor yX10_isPoint.desc).map (fun d => d.parameters.length) = some 1 := by decide +kernel
theorem hyX10_isPointAltered : yX10_isPointAltered.cls = RX10 ∧ yX10_isPointAltered.cls ≠ "java/lang/invoke/MethodHandle" ∧ yX10_isPointAltered.cls ≠ "java/lang/invoke/VarHandle" ∧ (parseMethodDescriptor yX10_isPointAltered.desc).map (fun d => d.parameters.length) = some 2 := by decide +kernel
theorem hyX10_isRound : yX10_isRound.cls = RX10 ∧ yX10_isRound.cls ≠ "java/lang/invoke/MethodHandle" ∧ yX10_isRound.cls ≠ "java/lang/invoke/VarHandle" ∧ (parseMethodDescriptor yX10_isRound.desc).map (fun d => d.parameters.length) = some 0 := by decide +kernel
theorem hyX10_isRow : yX10_isRow.cls = RX10 ∧ yX10_isRow.cls ≠ "java/lang/invoke/MethodHandle" ∧ yX10_isRow.cls ≠ "java/lang/invoke/VarHandle" ∧ (parseMethodDescriptor yX10_isRow.desc).map (fun d => d.parameters.length) = some 1 := by decide +kernel
theorem hyX10_isSolved : yX10_isSolved.cls = RX10 ∧ yX10_isSolved.cls ≠ "java/lang/invoke/MethodHandle" ∧ yX10_isSolved.cls ≠ "java/lang/invoke/VarHandle" ∧ (parseMethodDescriptor yX10_isSolved.desc).map (fun d => d.parameters.length) = some 0 := by decide +kernel
theorem hyX10_isTold : yX10_isTold.cls = RX10 ∧ yX10_isTold.cls ≠ "java/lang/invoke/MethodHandle" ∧ yX10_isTold.cls ≠ "java/lang/invoke/VarHandle" ∧ (parseMethodDescriptor yX10_isTold.desc).map (fun d => d.parameters.length) = some 1 := by decide +kernel
theorem hyX10_isUsed : yX10_isUsed.cls = RX10 ∧ yX10_isUsed.cls ≠ "java/lang/invoke/MethodHandle" ∧ yX10_isUsed.cls ≠ "java/lang/invoke/VarHandle" ∧ (parseMethodDescriptor yX10_isUsed.desc).map (fun d => d.parameters.length) = some 1 := by decide +kernel
theorem hyX10_joins : yX10_joins.cls = RX10 ∧ yX10_joins.cls ≠ "java/lang/invoke/MethodHandle" ∧ yX10_joins.cls ≠ "java/lang/invoke/VarHandle" ∧ (parseMethodDescriptor yX10_joins.desc).map (fun d => d.parameters.length) = some 2 := by decide +kernel
theorem hyX10_look : yX10_look.cls = RX10 ∧ yX10_look.cls ≠ "java/lang/invoke/MethodHandle" ∧ yX10_look.cls ≠ "java/lang/invoke/VarHandle" ∧ (parseMethodDescriptor yX10_look.desc).map (fun d => d.parameters.length) = some 0 := by decide +kernel
theorem hyX10_loopOf : yX10_loopOf.cls = RX10 ∧ yX10_loopOf.cls ≠ "java/lang/invoke/MethodHandle" ∧ yX10_loopOf.cls ≠ "java/lang/invoke/VarHandle" ∧ (parseMethodDescriptor yX10_loopOf.desc).map (fun d => d.parameters.length) = some 4 := by decide +kernel
theorem hyX10_looseMany : yX10_looseMany.cls = RX10 ∧ yX10_looseMany.cls ≠ "java/lang/invoke/MethodHandle" ∧ yX10_looseMany.cls ≠ "java/lang/invoke/VarHandle" ∧ (parseMethodDescriptor yX10_looseMany.desc).map (fun d => d.parameters.length) = some 0 := by decide +kernel
theorem hyX10_mean : yX10_mean.cls = RX10 ∧ yX10_mean.cls ≠ "java/lang/invoke/MethodHandle" ∧ yX10_mean.cls ≠ "java/lang/invoke/VarHandle" ∧ (parseMethodDescriptor yX10_mean.desc).map (fun d => d.parameters.length) = some 2 := by decide +kernel
theorem hyX10_measures : yX10_measures.cls = RX10 ∧ yX10_measures.cls ≠ "java/lang/invoke/MethodHandle" ∧ yX10_measures.cls ≠ "java/lang/invoke/VarHandle" ∧ (parseMethodDescriptor yX10_measures.desc).map (fun d => d.parameters.length) = some 3 := by decide +kernel
theorem hyX10_miss : yX10_miss.cls = RX10 ∧ yX10_miss.cls ≠ "java/lang/invoke/MethodHandle" ∧ yX10_miss.cls ≠ "java/lang/invoke/VarHandle" ∧ (parseMethodDescriptor yX10_miss.desc).map (fun d => d.parameters.length) = some 2 := by decide +kernel
theorem hyX10_modulo : yX10_modulo.cls ≠ "java/lang/invoke/MethodHandle" ∧ yX10_modulo.cls ≠ "java/lang/invoke/VarHandle" ∧ (parseMethodDescriptor yX10_modulo.desc).map (fun d => d.parameters.length) = some 1 := by decide +kernel
theorem hyX10_name : yX10_name.cls = RX10 ∧ yX10_name.cls ≠ "java/lang/invoke/MethodHandle" ∧ yX10_name.cls ≠ "java/lang/invoke/VarHandle" ∧ (parseMethodDescriptor yX10_name.desc).map (fun d => d.parameters.length) = some 0 := by decide +kernel
theorem hyX10_nameOf : yX10_nameOf.cls = RX10 ∧ yX10_nameOf.cls ≠ "java/lang/invoke/MethodHandle" ∧ yX10_nameOf.cls ≠ "java/lang/invoke/VarHandle" ∧ (parseMethodDescriptor yX10_nameOf.desc).map (fun d => d.parameters.length) = some 2 := by decide +kernel
theorem hyX10_newName : yX10_newName.cls = RX10 ∧ yX10_newName.cls ≠ "java/lang/invoke/MethodHandle" ∧ yX10_newName.cls ≠ "java/lang/invoke/VarHandle" ∧ (parseMethodDescriptor yX10_newName.desc).map (fun d => d.parameters.length) = some 1 := by decide +kernel
theorem hyX10_nextStarted : yX10_nextStarted.cls = RX10 ∧ yX10_nextStarted.cls ≠ "java/lang/invoke/MethodHandle" ∧ yX10_nextStarted.cls ≠ "java/lang/invoke/VarHandle" ∧ (parseMethodDescriptor yX10_nextStarted.desc).map (fun d => d.parameters.length) = some 0 := by decide +kernel
theorem hyX10_noMean : yX10_noMean.cls = RX10 ∧ yX10_noMean.cls ≠ "java/lang/invoke/MethodHandle" ∧ yX10_noMean.cls ≠ "java/lang/invoke/VarHandle" ∧ (parseMethodDescriptor yX10_noMean.desc).map (fun d => d.parameters.length) = some 0 := by decide +kernel
theorem hyX10_number : yX10_number.cls = RX10 ∧ yX10_number.cls ≠ "java/lang/invoke/MethodHandle" ∧ yX10_number.cls ≠ "java/lang/invoke/VarHandle" ∧ (parseMethodDescriptor yX10_number.desc).map (fun d => d.parameters.length) = some 2 := by decide +kernel
theorem hyX10_numberOf : yX10_numberOf.cls = RX10 ∧ yX10_numberOf.cls ≠ "java/lang/invoke/MethodHandle" ∧ yX10_numberOf.cls ≠ "java/lang/invoke/VarHandle" ∧ (parseMethodDescriptor yX10_numberOf.desc).map (fun d => d.parameters.length) = some 1 := by decide +kernel
theorem hyX10_oneOf : yX10_oneOf.cls = RX10 ∧ yX10_oneOf.cls ≠ "java/lang/invoke/MethodHandle" ∧ yX10_oneOf.cls ≠ "java/lang/invoke/VarHandle" ∧ (parseMethodDescriptor yX10_oneOf.desc).map (fun d => d.parameters.length) = some 1 := by decide +kernel
theorem hyX10_pictureOf : yX10_pictureOf.cls = RX10 ∧ yX10_pictureOf.cls ≠ "java/lang/invoke/MethodHandle" ∧ yX10_pictureOf.cls ≠ "java/lang/invoke/VarHandle" ∧ (parseMethodDescriptor yX10_pictureOf.desc).map (fun d => d.parameters.length) = some 1 := by decide +kernel
theorem hyX10_pictureTold : yX10_pictureTold.cls = RX10 ∧ yX10_pictureTold.cls ≠ "java/lang/invoke/MethodHandle" ∧ yX10_pictureTold.cls ≠ "java/lang/invoke/VarHandle" ∧ (parseMethodDescriptor yX10_pictureTold.desc).map (fun d => d.parameters.length) = some 1 := by decide +kernel
theorem hyX10_pictures : yX10_pictures.cls = RX10 ∧ yX10_pictures.cls ≠ "java/lang/invoke/MethodHandle" ∧ yX10_pictures.cls ≠ "java/lang/invoke/VarHandle" ∧ (parseMethodDescriptor yX10_pictures.desc).map (fun d => d.parameters.length) = some 0 := by decide +kernel
theorem hyX10_placeBy : yX10_placeBy.cls = RX10 ∧ yX10_placeBy.cls ≠ "java/lang/invoke/MethodHandle" ∧ yX10_placeBy.cls ≠ "java/lang/invoke/VarHandle" ∧ (parseMethodDescriptor yX10_placeBy.desc).map (fun d => d.parameters.length) = some 3 := by decide +kernel
theorem hyX10_pointOf : yX10_pointOf.cls = RX10 ∧ yX10_pointOf.cls ≠ "java/lang/invoke/MethodHandle" ∧ yX10_pointOf.cls ≠ "java/lang/invoke/VarHandle" ∧ (parseMethodDescriptor yX10_pointOf.desc).map (fun d => d.parameters.length) = some 1 := by decide +kernel
theorem hyX10_pointTold : yX10_pointTold.cls = RX10 ∧ yX10_pointTold.cls ≠ "java/lang/invoke/MethodHandle" ∧ yX10_pointTold.cls ≠ "java/lang/invoke/VarHandle" ∧ (parseMethodDescriptor yX10_pointTold.desc).map (fun d => d.parameters.length) = some 1 := by decide +kernel
theorem hyX10_points : yX10_points.cls = RX10 ∧ yX10_points.cls ≠ "java/lang/invoke/MethodHandle" ∧ yX10_points.cls ≠ "java/lang/invoke/VarHandle" ∧ (parseMethodDescriptor yX10_points.desc).map (fun d => d.parameters.length) = some 0 := by decide +kernel
theorem hyX10_put : yX10_put.cls = RX10 ∧ yX10_put.cls ≠ "java/lang/invoke/MethodHandle" ∧ yX10_put.cls ≠ "java/lang/invoke/VarHandle" ∧ (parseMethodDescriptor yX10_put.desc).map (fun d => d.parameters.length) = some 2 := by decide +kernel
theorem hyX10_putsAside : yX10_putsAside.cls = RX10 ∧ yX10_putsAside.cls ≠ "java/lang/invoke/MethodHandle" ∧ yX10_putsAside.cls ≠ "java/lang/invoke/VarHandle" ∧ (parseMethodDescriptor yX10_putsAside.desc).map (fun d => d.parameters.length) = some 0 := by decide +kernel
theorem hyX10_rests : yX10_rests.cls = RX10 ∧ yX10_rests.cls ≠ "java/lang/invoke/MethodHandle" ∧ yX10_rests.cls ≠ "java/lang/invoke/VarHandle" ∧ (parseMethodDescriptor yX10_rests.desc).map (fun d => d.parameters.length) = some 1 := by decide +kernel
theorem hyX10_rowOf : yX10_rowOf.cls = RX10 ∧ yX10_rowOf.cls ≠ "java/lang/invoke/MethodHandle" ∧ yX10_rowOf.cls ≠ "java/lang/invoke/VarHandle" ∧ (parseMethodDescriptor yX10_rowOf.desc).map (fun d => d.parameters.length) = some 2 := by decide +kernel
theorem hyX10_rowTold : yX10_rowTold.cls = RX10 ∧ yX10_rowTold.cls ≠ "java/lang/invoke/MethodHandle" ∧ yX10_rowTold.cls ≠ "java/lang/invoke/VarHandle" ∧ (parseMethodDescriptor yX10_rowTold.desc).map (fun d => d.parameters.length) = some 1 := by decide +kernel
theorem hyX10_rows : yX10_rows.cls = RX10 ∧ yX10_rows.cls ≠ "java/lang/invoke/MethodHandle" ∧ yX10_rows.cls ≠ "java/lang/invoke/VarHandle" ∧ (parseMethodDescriptor yX10_rows.desc).map (fun d => d.parameters.length) = some 0 := by decide +kernel
theorem hyX10_rowsOf : yX10_rowsOf.cls = RX10 ∧ yX10_rowsOf.cls ≠ "java/lang/invoke/MethodHandle" ∧ yX10_rowsOf.cls ≠ "java/lang/invoke/VarHandle" ∧ (parseMethodDescriptor yX10_rowsOf.desc).map (fun d => d.parameters.length) = some 2 := by decide +kernel
theorem hyX10_sharedMany : yX10_sharedMany.cls = RX10 ∧ yX10_sharedMany.cls ≠ "java/lang/invoke/MethodHandle" ∧ yX10_sharedMany.cls ≠ "java/lang/invoke/VarHandle" ∧ (parseMethodDescriptor yX10_sharedMany.desc).map (fun d => d.parameters.length) = some 1 := by decide +kernel
theorem hyX10_standControls : yX10_standControls.cls = RX10 ∧ yX10_standControls.cls ≠ "java/lang/invoke/MethodHandle" ∧ yX10_standControls.cls ≠ "java/lang/invoke/VarHandle" ∧ (parseMethodDescriptor yX10_standControls.desc).map (fun d => d.parameters.length) = some 0 := by decide +kernel
theorem hyX10_stands : yX10_stands.cls = RX10 ∧ yX10_stands.cls ≠ "java/lang/invoke/MethodHandle" ∧ yX10_stands.cls ≠ "java/lang/invoke/VarHandle" ∧ (parseMethodDescriptor yX10_stands.desc).map (fun d => d.parameters.length) = some 0 := by decide +kernel
theorem hyX10_startedRow : yX10_startedRow.cls = RX10 ∧ yX10_startedRow.cls ≠ "java/lang/invoke/MethodHandle" ∧ yX10_startedRow.cls ≠ "java/lang/invoke/VarHandle" ∧ (parseMethodDescriptor yX10_startedRow.desc).map (fun d => d.parameters.length) = some 1 := by decide +kernel
theorem hyX10_starts : yX10_starts.cls = RX10 ∧ yX10_starts.cls ≠ "java/lang/invoke/MethodHandle" ∧ yX10_starts.cls ≠ "java/lang/invoke/VarHandle" ∧ (parseMethodDescriptor yX10_starts.desc).map (fun d => d.parameters.length) = some 0 := by decide +kernel
theorem hyX10_startsBy : yX10_startsBy.cls = RX10 ∧ yX10_startsBy.cls ≠ "java/lang/invoke/MethodHandle" ∧ yX10_startsBy.cls ≠ "java/lang/invoke/VarHandle" ∧ (parseMethodDescriptor yX10_startsBy.desc).map (fun d => d.parameters.length) = some 1 := by decide +kernel
theorem hyX10_step : yX10_step.cls = RX10 ∧ yX10_step.cls ≠ "java/lang/invoke/MethodHandle" ∧ yX10_step.cls ≠ "java/lang/invoke/VarHandle" ∧ (parseMethodDescriptor yX10_step.desc).map (fun d => d.parameters.length) = some 3 := by decide +kernel
theorem hyX10_strip : yX10_strip.cls = RX10 ∧ yX10_strip.cls ≠ "java/lang/invoke/MethodHandle" ∧ yX10_strip.cls ≠ "java/lang/invoke/VarHandle" ∧ (parseMethodDescriptor yX10_strip.desc).map (fun d => d.parameters.length) = some 1 := by decide +kernel
theorem hyX10_swaps : yX10_swaps.cls = RX10 ∧ yX10_swaps.cls ≠ "java/lang/invoke/MethodHandle" ∧ yX10_swaps.cls ≠ "java/lang/invoke/VarHandle" ∧ (parseMethodDescriptor yX10_swaps.desc).map (fun d => d.parameters.length) = some 2 := by decide +kernel
theorem hyX10_takes : yX10_takes.cls = RX10 ∧ yX10_takes.cls ≠ "java/lang/invoke/MethodHandle" ∧ yX10_takes.cls ≠ "java/lang/invoke/VarHandle" ∧ (parseMethodDescriptor yX10_takes.desc).map (fun d => d.parameters.length) = some 1 := by decide +kernel
theorem hyX10_takesBack : yX10_takesBack.cls = RX10 ∧ yX10_takesBack.cls ≠ "java/lang/invoke/MethodHandle" ∧ yX10_takesBack.cls ≠ "java/lang/invoke/VarHandle" ∧ (parseMethodDescriptor yX10_takesBack.desc).map (fun d => d.parameters.length) = some 0 := by decide +kernel
theorem hyX10_takesSign : yX10_takesSign.cls = RX10 ∧ yX10_takesSign.cls ≠ "java/lang/invoke/MethodHandle" ∧ yX10_takesSign.cls ≠ "java/lang/invoke/VarHandle" ∧ (parseMethodDescriptor yX10_takesSign.desc).map (fun d => d.parameters.length) = some 1 := by decide +kernel
theorem hyX10_tells : yX10_tells.cls = RX10 ∧ yX10_tells.cls ≠ "java/lang/invoke/MethodHandle" ∧ yX10_tells.cls ≠ "java/lang/invoke/VarHandle" ∧ (parseMethodDescriptor yX10_tells.desc).map (fun d => d.parameters.length) = some 2 := by decide +kernel
theorem hyX10_tiePoints : yX10_tiePoints.cls = RX10 ∧ yX10_tiePoints.cls ≠ "java/lang/invoke/MethodHandle" ∧ yX10_tiePoints.cls ≠ "java/lang/invoke/VarHandle" ∧ (parseMethodDescriptor yX10_tiePoints.desc).map (fun d => d.parameters.length) = some 2 := by decide +kernel
theorem hyX10_treeOf : yX10_treeOf.cls = RX10 ∧ yX10_treeOf.cls ≠ "java/lang/invoke/MethodHandle" ∧ yX10_treeOf.cls ≠ "java/lang/invoke/VarHandle" ∧ (parseMethodDescriptor yX10_treeOf.desc).map (fun d => d.parameters.length) = some 0 := by decide +kernel
theorem hyX10_turned : yX10_turned.cls = RX10 ∧ yX10_turned.cls ≠ "java/lang/invoke/MethodHandle" ∧ yX10_turned.cls ≠ "java/lang/invoke/VarHandle" ∧ (parseMethodDescriptor yX10_turned.desc).map (fun d => d.parameters.length) = some 2 := by decide +kernel
theorem hyX10_turnedBy : yX10_turnedBy.cls = RX10 ∧ yX10_turnedBy.cls ≠ "java/lang/invoke/MethodHandle" ∧ yX10_turnedBy.cls ≠ "java/lang/invoke/VarHandle" ∧ (parseMethodDescriptor yX10_turnedBy.desc).map (fun d => d.parameters.length) = some 3 := by decide +kernel
theorem hyX10_unlike : yX10_unlike.cls = RX10 ∧ yX10_unlike.cls ≠ "java/lang/invoke/MethodHandle" ∧ yX10_unlike.cls ≠ "java/lang/invoke/VarHandle" ∧ (parseMethodDescriptor yX10_unlike.desc).map (fun d => d.parameters.length) = some 2 := by decide +kernel
theorem hyX10_weightOf : yX10_weightOf.cls = RX10 ∧ yX10_weightOf.cls ≠ "java/lang/invoke/MethodHandle" ∧ yX10_weightOf.cls ≠ "java/lang/invoke/VarHandle" ∧ (parseMethodDescriptor yX10_weightOf.desc).map (fun d => d.parameters.length) = some 1 := by decide +kernel
theorem hyX10_within : yX10_within.cls ≠ "java/lang/invoke/MethodHandle" ∧ yX10_within.cls ≠ "java/lang/invoke/VarHandle" ∧ (parseMethodDescriptor yX10_within.desc).map (fun d => d.parameters.length) = some 1 := by decide +kernel
theorem hyX10_worstNow : yX10_worstNow.cls = RX10 ∧ yX10_worstNow.cls ≠ "java/lang/invoke/MethodHandle" ∧ yX10_worstNow.cls ≠ "java/lang/invoke/VarHandle" ∧ (parseMethodDescriptor yX10_worstNow.desc).map (fun d => d.parameters.length) = some 0 := by decide +kernel
theorem hyX10_writes : yX10_writes.cls = RX10 ∧ yX10_writes.cls ≠ "java/lang/invoke/MethodHandle" ∧ yX10_writes.cls ≠ "java/lang/invoke/VarHandle" ∧ (parseMethodDescriptor yX10_writes.desc).map (fun d => d.parameters.length) = some 1 := by decide +kernel
theorem hyX10_writesFour : yX10_writesFour.cls = RX10 ∧ yX10_writesFour.cls ≠ "java/lang/invoke/MethodHandle" ∧ yX10_writesFour.cls ≠ "java/lang/invoke/VarHandle" ∧ (parseMethodDescriptor yX10_writesFour.desc).map (fun d => d.parameters.length) = some 1 := by decide +kernel
theorem hyX10_writesPlace : yX10_writesPlace.cls = RX10 ∧ yX10_writesPlace.cls ≠ "java/lang/invoke/MethodHandle" ∧ yX10_writesPlace.cls ≠ "java/lang/invoke/VarHandle" ∧ (parseMethodDescriptor yX10_writesPlace.desc).map (fun d => d.parameters.length) = some 1 := by decide +kernel
