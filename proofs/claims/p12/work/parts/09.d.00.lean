noncomputable def kbC : Nat → Nat → Int × Int
  | 0, i => ([(-2147483648, 2147483647), (0, 1600), (-2147483648, 2147483647), (-2147483648, 2147483647), (-2147483648, 2147483647), (-2147483648, 2147483647), (-2147483648, 2147483647), (-2147483648, 2147483647), (-2147483648, 2147483647), (-2147483648, 2147483647), (-2147483648, 2147483647), (-2147483648, 2147483647), (-2147483648, 2147483647), (-2147483648, 2147483647), (-2147483648, 2147483647), (-2147483648, 2147483647), (-2147483648, 2147483647)] : List (Int × Int)).getD i (-2147483648, 2147483647)
  | 3, i => ([(0, 6), (0, 12), (0, 20), (0, 60), (-2147483648, 2147483647), (-2147483648, 2147483647)] : List (Int × Int)).getD i (-2147483648, 2147483647)
  | 8, i => ([(0, 5), (0, 5), (0, 5), (0, 5), (0, 5), (0, 5), (0, 5), (0, 5), (0, 5), (0, 5), (0, 5), (0, 5)] : List (Int × Int)).getD i (-2147483648, 2147483647)
  | 10, _ => (0, 11)
  | 11, _ => (0, 19)
  | 25, i => ([(0, 6), (0, 12), (0, 20), (0, 60), (-2147483648, 2147483647), (-2147483648, 2147483647)] : List (Int × Int)).getD i (-2147483648, 2147483647)
  | 30, i => ([(0, 5), (0, 5), (0, 5), (0, 5), (0, 5), (0, 5), (0, 5), (0, 5), (0, 5), (0, 5), (0, 5), (0, 5)] : List (Int × Int)).getD i (-2147483648, 2147483647)
  | 32, _ => (0, 11)
  | 33, _ => (0, 19)
  | 46, i => ([(-2147483648, 2147483647), (-2147483648, 2147483647), (-2147483648, 2147483647), (-2147483648, 2147483647), (0, 1600), (0, 1600), (0, 1600), (0, 1600), (-2147483648, 2147483647), (-2147483648, 2147483647), (-1, 19), (-2147483648, 2147483647), (-2147483648, 2147483647), (-2147483648, 2147483647)] : List (Int × Int)).getD i (-2147483648, 2147483647)
  | 86, _ => (-1, 59)
  | 96, i => ([(-2147483648, 2147483647), (-2147483648, 2147483647), (-2147483648, 2147483647), (-2147483648, 2147483647), (0, 38)] : List (Int × Int)).getD i (-2147483648, 2147483647)
  | 97, _ => (-1, 37)
  | 138, _ => (0, 31)
  | 140, i => ([(-2147483648, 2147483647), (-2147483648, 2147483647), (-2147483648, 2147483647), (-2147483648, 2147483647), (-2147483648, 2147483647), (-2147483648, 2147483647), (-2147483648, 2147483647), (-2147483648, 2147483647), (-2147483648, 2147483647), (-2147483648, 2147483647), (0, 11), (-2147483648, 2147483647), (-2147483648, 2147483647)] : List (Int × Int)).getD i (-2147483648, 2147483647)
  | 142, _ => (-1, 59)
  | 143, _ => (-1, 59)
  | 144, _ => (-1, 59)
  | 145, _ => (-1, 59)
  | 146, _ => (-1, 59)
  | 147, _ => (-1, 59)
  | 148, _ => (-1, 59)
  | 149, _ => (-1, 59)
  | 150, _ => (-1, 59)
  | 151, _ => (-1, 59)
  | 152, _ => (-1, 59)
  | 153, _ => (-1, 59)
  | 194, i => ([(0, 11), (0, 11), (0, 11), (0, 11), (0, 11), (0, 11), (0, 11), (0, 11), (0, 11), (0, 11), (0, 11), (0, 11)] : List (Int × Int)).getD i (-2147483648, 2147483647)
  | 195, i => ([(0, 11), (0, 11), (0, 11), (0, 11), (0, 11), (0, 11), (0, 11), (0, 11), (0, 11), (0, 11), (0, 11), (0, 11)] : List (Int × Int)).getD i (-2147483648, 2147483647)
  | 197, i => ([(-2147483648, 2147483647), (-2147483648, 2147483647), (0, 378), (0, 1600)] : List (Int × Int)).getD i (-2147483648, 2147483647)
  | _, _ => (-2147483648, 2147483647)
noncomputable def JC (σ : gS) : Prop := ∀ k i, (kbC k i).1 ≤ (σ.1 k i).toInt ∧ (σ.1 k i).toInt ≤ (kbC k i).2
theorem JC_w {σ : gS} {k i : Nat} {x : Int32} (h : JC σ) (h0 : (kbC k i).1 ≤ x.toInt) (h1 : x.toInt ≤ (kbC k i).2) : JC (gsI σ k i x) := fun a j => by
  rw [gsI_1]
  by_cases e : a = k ∧ j = i
  · rw [if_pos e, e.1, e.2]; exact ⟨h0, h1⟩
  · rw [if_neg e]; exact h a j
theorem JC_l {σ : gS} {k i : Nat} {x : Int64} (h : JC σ) : JC (gsL σ k i x) := h
theorem JC_w5 {σ : gS} {k i : Nat} {x : Int32} (h : JC σ) (h0 : 5 ≤ k) (h1 : k ≤ 7) (x0 : -2147483648 ≤ x.toInt) (x1 : x.toInt ≤ 2147483647) : JC (gsI σ k i x) := JC_w h (by (have hj : k = 5 ∨ k = 6 ∨ k = 7 := by omega); rcases hj with rfl | rfl | rfl <;> exact x0) (by (have hj : k = 5 ∨ k = 6 ∨ k = 7 := by omega); rcases hj with rfl | rfl | rfl <;> exact x1)
theorem JC_w13 {σ : gS} {k i : Nat} {x : Int32} (h : JC σ) (h0 : 13 ≤ k) (h1 : k ≤ 14) (x0 : -2147483648 ≤ x.toInt) (x1 : x.toInt ≤ 2147483647) : JC (gsI σ k i x) := JC_w h (by (have hj : k = 13 ∨ k = 14 := by omega); rcases hj with rfl | rfl <;> exact x0) (by (have hj : k = 13 ∨ k = 14 := by omega); rcases hj with rfl | rfl <;> exact x1)
theorem JC_w18 {σ : gS} {k i : Nat} {x : Int32} (h : JC σ) (h0 : 18 ≤ k) (h1 : k ≤ 19) (x0 : -2147483648 ≤ x.toInt) (x1 : x.toInt ≤ 2147483647) : JC (gsI σ k i x) := JC_w h (by (have hj : k = 18 ∨ k = 19 := by omega); rcases hj with rfl | rfl <;> exact x0) (by (have hj : k = 18 ∨ k = 19 := by omega); rcases hj with rfl | rfl <;> exact x1)
theorem JC_w22 {σ : gS} {k i : Nat} {x : Int32} (h : JC σ) (h0 : 22 ≤ k) (h1 : k ≤ 23) (x0 : -2147483648 ≤ x.toInt) (x1 : x.toInt ≤ 2147483647) : JC (gsI σ k i x) := JC_w h (by (have hj : k = 22 ∨ k = 23 := by omega); rcases hj with rfl | rfl <;> exact x0) (by (have hj : k = 22 ∨ k = 23 := by omega); rcases hj with rfl | rfl <;> exact x1)
theorem JC_w27 {σ : gS} {k i : Nat} {x : Int32} (h : JC σ) (h0 : 27 ≤ k) (h1 : k ≤ 29) (x0 : -2147483648 ≤ x.toInt) (x1 : x.toInt ≤ 2147483647) : JC (gsI σ k i x) := JC_w h (by (have hj : k = 27 ∨ k = 28 ∨ k = 29 := by omega); rcases hj with rfl | rfl | rfl <;> exact x0) (by (have hj : k = 27 ∨ k = 28 ∨ k = 29 := by omega); rcases hj with rfl | rfl | rfl <;> exact x1)
theorem JC_w35 {σ : gS} {k i : Nat} {x : Int32} (h : JC σ) (h0 : 35 ≤ k) (h1 : k ≤ 36) (x0 : -2147483648 ≤ x.toInt) (x1 : x.toInt ≤ 2147483647) : JC (gsI σ k i x) := JC_w h (by (have hj : k = 35 ∨ k = 36 := by omega); rcases hj with rfl | rfl <;> exact x0) (by (have hj : k = 35 ∨ k = 36 := by omega); rcases hj with rfl | rfl <;> exact x1)
theorem JC_w40 {σ : gS} {k i : Nat} {x : Int32} (h : JC σ) (h0 : 40 ≤ k) (h1 : k ≤ 41) (x0 : -2147483648 ≤ x.toInt) (x1 : x.toInt ≤ 2147483647) : JC (gsI σ k i x) := JC_w h (by (have hj : k = 40 ∨ k = 41 := by omega); rcases hj with rfl | rfl <;> exact x0) (by (have hj : k = 40 ∨ k = 41 := by omega); rcases hj with rfl | rfl <;> exact x1)
theorem JC_w44 {σ : gS} {k i : Nat} {x : Int32} (h : JC σ) (h0 : 44 ≤ k) (h1 : k ≤ 45) (x0 : -2147483648 ≤ x.toInt) (x1 : x.toInt ≤ 2147483647) : JC (gsI σ k i x) := JC_w h (by (have hj : k = 44 ∨ k = 45 := by omega); rcases hj with rfl | rfl <;> exact x0) (by (have hj : k = 44 ∨ k = 45 := by omega); rcases hj with rfl | rfl <;> exact x1)
theorem JC_w50 {σ : gS} {k i : Nat} {x : Int32} (h : JC σ) (h0 : 50 ≤ k) (h1 : k ≤ 51) (x0 : -2147483648 ≤ x.toInt) (x1 : x.toInt ≤ 2147483647) : JC (gsI σ k i x) := JC_w h (by (have hj : k = 50 ∨ k = 51 := by omega); rcases hj with rfl | rfl <;> exact x0) (by (have hj : k = 50 ∨ k = 51 := by omega); rcases hj with rfl | rfl <;> exact x1)
theorem JC_w53 {σ : gS} {k i : Nat} {x : Int32} (h : JC σ) (h0 : 53 ≤ k) (h1 : k ≤ 54) (x0 : -2147483648 ≤ x.toInt) (x1 : x.toInt ≤ 2147483647) : JC (gsI σ k i x) := JC_w h (by (have hj : k = 53 ∨ k = 54 := by omega); rcases hj with rfl | rfl <;> exact x0) (by (have hj : k = 53 ∨ k = 54 := by omega); rcases hj with rfl | rfl <;> exact x1)
theorem JC_w56 {σ : gS} {k i : Nat} {x : Int32} (h : JC σ) (h0 : 56 ≤ k) (h1 : k ≤ 57) (x0 : -2147483648 ≤ x.toInt) (x1 : x.toInt ≤ 2147483647) : JC (gsI σ k i x) := JC_w h (by (have hj : k = 56 ∨ k = 57 := by omega); rcases hj with rfl | rfl <;> exact x0) (by (have hj : k = 56 ∨ k = 57 := by omega); rcases hj with rfl | rfl <;> exact x1)
theorem JC_w62 {σ : gS} {k i : Nat} {x : Int32} (h : JC σ) (h0 : 62 ≤ k) (h1 : k ≤ 63) (x0 : -2147483648 ≤ x.toInt) (x1 : x.toInt ≤ 2147483647) : JC (gsI σ k i x) := JC_w h (by (have hj : k = 62 ∨ k = 63 := by omega); rcases hj with rfl | rfl <;> exact x0) (by (have hj : k = 62 ∨ k = 63 := by omega); rcases hj with rfl | rfl <;> exact x1)
theorem JC_w65 {σ : gS} {k i : Nat} {x : Int32} (h : JC σ) (h0 : 65 ≤ k) (h1 : k ≤ 66) (x0 : -2147483648 ≤ x.toInt) (x1 : x.toInt ≤ 2147483647) : JC (gsI σ k i x) := JC_w h (by (have hj : k = 65 ∨ k = 66 := by omega); rcases hj with rfl | rfl <;> exact x0) (by (have hj : k = 65 ∨ k = 66 := by omega); rcases hj with rfl | rfl <;> exact x1)
theorem JC_w68 {σ : gS} {k i : Nat} {x : Int32} (h : JC σ) (h0 : 68 ≤ k) (h1 : k ≤ 69) (x0 : -2147483648 ≤ x.toInt) (x1 : x.toInt ≤ 2147483647) : JC (gsI σ k i x) := JC_w h (by (have hj : k = 68 ∨ k = 69 := by omega); rcases hj with rfl | rfl <;> exact x0) (by (have hj : k = 68 ∨ k = 69 := by omega); rcases hj with rfl | rfl <;> exact x1)
theorem JC_w74 {σ : gS} {k i : Nat} {x : Int32} (h : JC σ) (h0 : 74 ≤ k) (h1 : k ≤ 75) (x0 : -2147483648 ≤ x.toInt) (x1 : x.toInt ≤ 2147483647) : JC (gsI σ k i x) := JC_w h (by (have hj : k = 74 ∨ k = 75 := by omega); rcases hj with rfl | rfl <;> exact x0) (by (have hj : k = 74 ∨ k = 75 := by omega); rcases hj with rfl | rfl <;> exact x1)
theorem JC_w77 {σ : gS} {k i : Nat} {x : Int32} (h : JC σ) (h0 : 77 ≤ k) (h1 : k ≤ 78) (x0 : -2147483648 ≤ x.toInt) (x1 : x.toInt ≤ 2147483647) : JC (gsI σ k i x) := JC_w h (by (have hj : k = 77 ∨ k = 78 := by omega); rcases hj with rfl | rfl <;> exact x0) (by (have hj : k = 77 ∨ k = 78 := by omega); rcases hj with rfl | rfl <;> exact x1)
theorem JC_w80 {σ : gS} {k i : Nat} {x : Int32} (h : JC σ) (h0 : 80 ≤ k) (h1 : k ≤ 81) (x0 : -2147483648 ≤ x.toInt) (x1 : x.toInt ≤ 2147483647) : JC (gsI σ k i x) := JC_w h (by (have hj : k = 80 ∨ k = 81 := by omega); rcases hj with rfl | rfl <;> exact x0) (by (have hj : k = 80 ∨ k = 81 := by omega); rcases hj with rfl | rfl <;> exact x1)
theorem JC_w88 {σ : gS} {k i : Nat} {x : Int32} (h : JC σ) (h0 : 88 ≤ k) (h1 : k ≤ 89) (x0 : -2147483648 ≤ x.toInt) (x1 : x.toInt ≤ 2147483647) : JC (gsI σ k i x) := JC_w h (by (have hj : k = 88 ∨ k = 89 := by omega); rcases hj with rfl | rfl <;> exact x0) (by (have hj : k = 88 ∨ k = 89 := by omega); rcases hj with rfl | rfl <;> exact x1)
theorem JC_w94 {σ : gS} {k i : Nat} {x : Int32} (h : JC σ) (h0 : 94 ≤ k) (h1 : k ≤ 95) (x0 : -2147483648 ≤ x.toInt) (x1 : x.toInt ≤ 2147483647) : JC (gsI σ k i x) := JC_w h (by (have hj : k = 94 ∨ k = 95 := by omega); rcases hj with rfl | rfl <;> exact x0) (by (have hj : k = 94 ∨ k = 95 := by omega); rcases hj with rfl | rfl <;> exact x1)
theorem JC_w142 {σ : gS} {k i : Nat} {x : Int32} (h : JC σ) (h0 : 142 ≤ k) (h1 : k ≤ 153) (x0 : -1 ≤ x.toInt) (x1 : x.toInt ≤ 59) : JC (gsI σ k i x) := JC_w h (by (have hj : k = 142 ∨ k = 143 ∨ k = 144 ∨ k = 145 ∨ k = 146 ∨ k = 147 ∨ k = 148 ∨ k = 149 ∨ k = 150 ∨ k = 151 ∨ k = 152 ∨ k = 153 := by omega); rcases hj with rfl | rfl | rfl | rfl | rfl | rfl | rfl | rfl | rfl | rfl | rfl | rfl <;> exact x0) (by (have hj : k = 142 ∨ k = 143 ∨ k = 144 ∨ k = 145 ∨ k = 146 ∨ k = 147 ∨ k = 148 ∨ k = 149 ∨ k = 150 ∨ k = 151 ∨ k = 152 ∨ k = 153 := by omega); rcases hj with rfl | rfl | rfl | rfl | rfl | rfl | rfl | rfl | rfl | rfl | rfl | rfl <;> exact x1)
theorem JC_r142 {σ : gS} {k : Nat} (h : JC σ) (h0 : 142 ≤ k) (h1 : k ≤ 153) (i : Nat) : -1 ≤ (σ.1 k i).toInt ∧ (σ.1 k i).toInt ≤ 59 := by (have hj : k = 142 ∨ k = 143 ∨ k = 144 ∨ k = 145 ∨ k = 146 ∨ k = 147 ∨ k = 148 ∨ k = 149 ∨ k = 150 ∨ k = 151 ∨ k = 152 ∨ k = 153 := by omega); rcases hj with rfl | rfl | rfl | rfl | rfl | rfl | rfl | rfl | rfl | rfl | rfl | rfl <;> exact h _ i
theorem JC_w155 {σ : gS} {k i : Nat} {x : Int32} (h : JC σ) (h0 : 155 ≤ k) (h1 : k ≤ 166) (x0 : -2147483648 ≤ x.toInt) (x1 : x.toInt ≤ 2147483647) : JC (gsI σ k i x) := JC_w h (by (have hj : k = 155 ∨ k = 156 ∨ k = 157 ∨ k = 158 ∨ k = 159 ∨ k = 160 ∨ k = 161 ∨ k = 162 ∨ k = 163 ∨ k = 164 ∨ k = 165 ∨ k = 166 := by omega); rcases hj with rfl | rfl | rfl | rfl | rfl | rfl | rfl | rfl | rfl | rfl | rfl | rfl <;> exact x0) (by (have hj : k = 155 ∨ k = 156 ∨ k = 157 ∨ k = 158 ∨ k = 159 ∨ k = 160 ∨ k = 161 ∨ k = 162 ∨ k = 163 ∨ k = 164 ∨ k = 165 ∨ k = 166 := by omega); rcases hj with rfl | rfl | rfl | rfl | rfl | rfl | rfl | rfl | rfl | rfl | rfl | rfl <;> exact x1)
theorem JC_w168 {σ : gS} {k i : Nat} {x : Int32} (h : JC σ) (h0 : 168 ≤ k) (h1 : k ≤ 179) (x0 : -2147483648 ≤ x.toInt) (x1 : x.toInt ≤ 2147483647) : JC (gsI σ k i x) := JC_w h (by (have hj : k = 168 ∨ k = 169 ∨ k = 170 ∨ k = 171 ∨ k = 172 ∨ k = 173 ∨ k = 174 ∨ k = 175 ∨ k = 176 ∨ k = 177 ∨ k = 178 ∨ k = 179 := by omega); rcases hj with rfl | rfl | rfl | rfl | rfl | rfl | rfl | rfl | rfl | rfl | rfl | rfl <;> exact x0) (by (have hj : k = 168 ∨ k = 169 ∨ k = 170 ∨ k = 171 ∨ k = 172 ∨ k = 173 ∨ k = 174 ∨ k = 175 ∨ k = 176 ∨ k = 177 ∨ k = 178 ∨ k = 179 := by omega); rcases hj with rfl | rfl | rfl | rfl | rfl | rfl | rfl | rfl | rfl | rfl | rfl | rfl <;> exact x1)
theorem JC_w181 {σ : gS} {k i : Nat} {x : Int32} (h : JC σ) (h0 : 181 ≤ k) (h1 : k ≤ 192) (x0 : -2147483648 ≤ x.toInt) (x1 : x.toInt ≤ 2147483647) : JC (gsI σ k i x) := JC_w h (by (have hj : k = 181 ∨ k = 182 ∨ k = 183 ∨ k = 184 ∨ k = 185 ∨ k = 186 ∨ k = 187 ∨ k = 188 ∨ k = 189 ∨ k = 190 ∨ k = 191 ∨ k = 192 := by omega); rcases hj with rfl | rfl | rfl | rfl | rfl | rfl | rfl | rfl | rfl | rfl | rfl | rfl <;> exact x0) (by (have hj : k = 181 ∨ k = 182 ∨ k = 183 ∨ k = 184 ∨ k = 185 ∨ k = 186 ∨ k = 187 ∨ k = 188 ∨ k = 189 ∨ k = 190 ∨ k = 191 ∨ k = 192 := by omega); rcases hj with rfl | rfl | rfl | rfl | rfl | rfl | rfl | rfl | rfl | rfl | rfl | rfl <;> exact x1)
noncomputable def fr_fX9_tapeNumber : List (Nat × Nat) := [(0, 2), (1, 0)]
noncomputable def fr_fX9_feed : List (Nat × Nat) := [(0, 2), (1, 0)]
noncomputable def fr_fX9_end : List (Nat × Nat) := [(0, 2)]
noncomputable def fr_fJ7_fill_53178 : List (Nat × Nat) := []
noncomputable def fr_fX8_clear_24 : List (Nat × Nat) := [(25, 0), (38, 0), (42, 0)]
noncomputable def fr_fX3_skipBlanks : List (Nat × Nat) := [(46, 6)]
noncomputable def fr_fX3_markRun : List (Nat × Nat) := [(46, 6), (46, 7), (46, 8)]
noncomputable def fr_fJ0_coder_7d493_K0 : List (Nat × Nat) := []
noncomputable def fr_fJ0_length_8abf5_K0 : List (Nat × Nat) := []
noncomputable def fr_fJ0_isLatin1_aae02_K0 : List (Nat × Nat) := []
noncomputable def fr_fJ3_checkIndex_8e157_O0 : List (Nat × Nat) := []
noncomputable def fr_fJ0_checkIndex_df160 : List (Nat × Nat) := []
noncomputable def fr_fJ1_charAt_3b067_V0 : List (Nat × Nat) := []
noncomputable def fr_fJ0_charAt_5068e_K0 : List (Nat × Nat) := []
noncomputable def fr_fX3_isWord_K0 : List (Nat × Nat) := []
noncomputable def fr_fJ0_coder_7d493_K1 : List (Nat × Nat) := []
noncomputable def fr_fJ0_length_8abf5_K1 : List (Nat × Nat) := []
noncomputable def fr_fJ0_isLatin1_aae02_K1 : List (Nat × Nat) := []
noncomputable def fr_fJ1_charAt_3b067_V1 : List (Nat × Nat) := []
noncomputable def fr_fJ0_charAt_5068e_K1 : List (Nat × Nat) := []
noncomputable def fr_fX3_isWord_K1 : List (Nat × Nat) := []
noncomputable def fr_fJ0_coder_7d493_K2 : List (Nat × Nat) := []
noncomputable def fr_fJ0_length_8abf5_K2 : List (Nat × Nat) := []
noncomputable def fr_fJ0_isLatin1_aae02_K2 : List (Nat × Nat) := []
noncomputable def fr_fJ1_charAt_3b067_V2 : List (Nat × Nat) := []
noncomputable def fr_fJ0_charAt_5068e_K2 : List (Nat × Nat) := []
noncomputable def fr_fX3_isWord_K2 : List (Nat × Nat) := []
noncomputable def fr_fJ0_coder_7d493_K3 : List (Nat × Nat) := []
noncomputable def fr_fJ0_length_8abf5_K3 : List (Nat × Nat) := []
noncomputable def fr_fJ0_isLatin1_aae02_K3 : List (Nat × Nat) := []
noncomputable def fr_fJ1_charAt_3b067_V3 : List (Nat × Nat) := []
noncomputable def fr_fJ0_charAt_5068e_K3 : List (Nat × Nat) := []
noncomputable def fr_fX3_isWord_K3 : List (Nat × Nat) := []
noncomputable def fr_fJ0_coder_7d493_K4 : List (Nat × Nat) := []
noncomputable def fr_fJ0_length_8abf5_K4 : List (Nat × Nat) := []
noncomputable def fr_fJ0_isLatin1_aae02_K4 : List (Nat × Nat) := []
noncomputable def fr_fJ1_charAt_3b067_V4 : List (Nat × Nat) := []
noncomputable def fr_fJ0_charAt_5068e_K4 : List (Nat × Nat) := []
noncomputable def fr_fX3_isWord_K4 : List (Nat × Nat) := []
noncomputable def fr_fJ0_coder_7d493_K5 : List (Nat × Nat) := []
noncomputable def fr_fJ0_length_8abf5_K5 : List (Nat × Nat) := []
noncomputable def fr_fJ0_isLatin1_aae02_K5 : List (Nat × Nat) := []
noncomputable def fr_fJ1_charAt_3b067_V5 : List (Nat × Nat) := []
noncomputable def fr_fJ0_charAt_5068e_K5 : List (Nat × Nat) := []
noncomputable def fr_fX3_isWord_K5 : List (Nat × Nat) := []
noncomputable def fr_fX3_kindOfWord : List (Nat × Nat) := []
noncomputable def fr_fX8_isFull_24 : List (Nat × Nat) := []
noncomputable def fr_fX3_passRun : List (Nat × Nat) := [(46, 6), (46, 9)]
noncomputable def fr_fX3_isNoRun : List (Nat × Nat) := []
noncomputable def fr_fX3_fail : List (Nat × Nat) := [(46, 3), (46, 4)]
noncomputable def fr_fJ0_coder_7d493_K6 : List (Nat × Nat) := []
noncomputable def fr_fJ0_length_8abf5_K6 : List (Nat × Nat) := []
noncomputable def fr_fJ0_isLatin1_aae02_K6 : List (Nat × Nat) := []
noncomputable def fr_fJ1_charAt_3b067_V6 : List (Nat × Nat) := []
noncomputable def fr_fJ0_charAt_5068e_K6 : List (Nat × Nat) := []
noncomputable def fr_fX3_isWord_K6 : List (Nat × Nat) := []
noncomputable def fr_fJ0_coder_7d493_K7 : List (Nat × Nat) := []
noncomputable def fr_fJ0_length_8abf5_K7 : List (Nat × Nat) := []
noncomputable def fr_fJ0_isLatin1_aae02_K7 : List (Nat × Nat) := []
noncomputable def fr_fJ1_charAt_3b067_V7 : List (Nat × Nat) := []
noncomputable def fr_fJ0_charAt_5068e_K7 : List (Nat × Nat) := []
noncomputable def fr_fX3_isWord_K7 : List (Nat × Nat) := []
noncomputable def fr_fJ0_coder_7d493_K8 : List (Nat × Nat) := []
noncomputable def fr_fJ0_length_8abf5_K8 : List (Nat × Nat) := []
noncomputable def fr_fJ0_isLatin1_aae02_K8 : List (Nat × Nat) := []
noncomputable def fr_fJ1_charAt_3b067_V8 : List (Nat × Nat) := []
noncomputable def fr_fJ0_charAt_5068e_K8 : List (Nat × Nat) := []
noncomputable def fr_fX3_isWord_K8 : List (Nat × Nat) := []
noncomputable def fr_fJ0_coder_7d493_K9 : List (Nat × Nat) := []
noncomputable def fr_fJ0_length_8abf5_K9 : List (Nat × Nat) := []
noncomputable def fr_fJ0_isLatin1_aae02_K9 : List (Nat × Nat) := []
noncomputable def fr_fJ1_charAt_3b067_V9 : List (Nat × Nat) := []
noncomputable def fr_fJ0_charAt_5068e_K9 : List (Nat × Nat) := []
noncomputable def fr_fX3_isWord_K9 : List (Nat × Nat) := []
noncomputable def fr_fJ0_coder_7d493_K10 : List (Nat × Nat) := []
noncomputable def fr_fJ0_length_8abf5_K10 : List (Nat × Nat) := []
noncomputable def fr_fJ0_isLatin1_aae02_K10 : List (Nat × Nat) := []
noncomputable def fr_fJ1_charAt_3b067_V10 : List (Nat × Nat) := []
noncomputable def fr_fJ0_charAt_5068e_K10 : List (Nat × Nat) := []
noncomputable def fr_fX3_isWord_K10 : List (Nat × Nat) := []
noncomputable def fr_fJ0_coder_7d493_K11 : List (Nat × Nat) := []
noncomputable def fr_fJ0_length_8abf5_K11 : List (Nat × Nat) := []
noncomputable def fr_fJ0_isLatin1_aae02_K11 : List (Nat × Nat) := []
noncomputable def fr_fJ1_charAt_3b067_V11 : List (Nat × Nat) := []
noncomputable def fr_fJ0_charAt_5068e_K11 : List (Nat × Nat) := []
noncomputable def fr_fX3_isWord_K11 : List (Nat × Nat) := []
noncomputable def fr_fX3_isOwnWord : List (Nat × Nat) := []
noncomputable def fr_fX8_find_24 : List (Nat × Nat) := []
noncomputable def fr_fX8_isNamed_24 : List (Nat × Nat) := []
noncomputable def fr_fX3_readName : List (Nat × Nat) := [(46, 3), (46, 4), (46, 6), (46, 7), (46, 8), (46, 9), (46, 10), (46, 11)]
noncomputable def fr_fX3_readWord_K6 : List (Nat × Nat) := [(46, 3), (46, 4), (46, 6), (46, 7), (46, 8), (46, 9)]
noncomputable def fr_fX3_readWord_K7 : List (Nat × Nat) := [(46, 3), (46, 4), (46, 6), (46, 7), (46, 8), (46, 9)]
noncomputable def fr_fX3_readNumber : List (Nat × Nat) := [(46, 3), (46, 4), (46, 6), (46, 7), (46, 8), (46, 9), (46, 12)]
noncomputable def fr_fX3_readTurn : List (Nat × Nat) := [(46, 3), (46, 4), (46, 6), (46, 7), (46, 8), (46, 9), (46, 12)]
noncomputable def fr_fX8_addNamed_24 : List (Nat × Nat) := [(25, 0), (27, 0), (28, 0), (29, 0)]
noncomputable def fr_fX8_addPicture_24 : List (Nat × Nat) := [(25, 0), (27, 0), (28, 0), (29, 0), (30, 0), (31, 0)]
noncomputable def fr_fX3_readPicture : List (Nat × Nat) := [(25, 0), (27, 0), (28, 0), (29, 0), (30, 0), (31, 0), (46, 3), (46, 4), (46, 6), (46, 7), (46, 8), (46, 9), (46, 10), (46, 11), (46, 12)]
noncomputable def fr_fX3_readSemicolon : List (Nat × Nat) := [(46, 3), (46, 4), (46, 6)]
noncomputable def fr_fX3_readNamed : List (Nat × Nat) := [(25, 0), (27, 0), (28, 0), (29, 0), (46, 3), (46, 4), (46, 6), (46, 7), (46, 8), (46, 9), (46, 10), (46, 11)]
noncomputable def fr_fX8_findRow_24 : List (Nat × Nat) := []
noncomputable def fr_fX3_readWord_K9 : List (Nat × Nat) := [(46, 3), (46, 4), (46, 6), (46, 7), (46, 8), (46, 9)]
noncomputable def fr_fX3_readAt : List (Nat × Nat) := [(46, 3), (46, 4), (46, 6), (46, 7), (46, 8), (46, 9), (46, 12), (46, 13), (46, 14)]
noncomputable def fr_fX3_readWord_K10 : List (Nat × Nat) := [(46, 3), (46, 4), (46, 6), (46, 7), (46, 8), (46, 9)]
noncomputable def fr_fX8_setMeasured_24 : List (Nat × Nat) := [(35, 0), (36, 0)]
noncomputable def fr_fX8_addRow_24 : List (Nat × Nat) := [(25, 0), (32, 0), (33, 0), (35, 0), (36, 0), (37, 0)]
noncomputable def fr_fX3_readRow : List (Nat × Nat) := [(25, 0), (32, 0), (33, 0), (35, 0), (36, 0), (37, 0), (46, 3), (46, 4), (46, 6), (46, 7), (46, 8), (46, 9), (46, 10), (46, 11), (46, 12), (46, 13), (46, 14)]
noncomputable def fr_fX3_readWord_K11 : List (Nat × Nat) := [(46, 3), (46, 4), (46, 6), (46, 7), (46, 8), (46, 9)]
noncomputable def fr_fX8_addControl_24 : List (Nat × Nat) := [(25, 0), (38, 0), (40, 0), (41, 0)]
noncomputable def fr_fX3_readControl : List (Nat × Nat) := [(25, 0), (38, 0), (40, 0), (41, 0), (46, 3), (46, 4), (46, 6), (46, 7), (46, 8), (46, 9), (46, 10), (46, 11), (46, 12), (46, 13), (46, 14)]
noncomputable def fr_fX8_addCentre_24 : List (Nat × Nat) := [(25, 0), (42, 0), (44, 0), (45, 0)]
noncomputable def fr_fX3_readCentre : List (Nat × Nat) := [(25, 0), (42, 0), (44, 0), (45, 0), (46, 3), (46, 4), (46, 6), (46, 7), (46, 8), (46, 9), (46, 10), (46, 11), (46, 12), (46, 13), (46, 14)]
noncomputable def fr_fX3_readStatement : List (Nat × Nat) := [(25, 0), (27, 0), (28, 0), (29, 0), (30, 0), (31, 0), (32, 0), (33, 0), (35, 0), (36, 0), (37, 0), (38, 0), (40, 0), (41, 0), (42, 0), (44, 0), (45, 0), (46, 3), (46, 4), (46, 6), (46, 7), (46, 8), (46, 9), (46, 10), (46, 11), (46, 12), (46, 13), (46, 14)]
noncomputable def fr_fX3_read : List (Nat × Nat) := [(25, 0), (27, 0), (28, 0), (29, 0), (30, 0), (31, 0), (32, 0), (33, 0), (35, 0), (36, 0), (37, 0), (38, 0), (40, 0), (41, 0), (42, 0), (44, 0), (45, 0), (46, 3), (46, 4), (46, 5), (46, 6), (46, 7), (46, 8), (46, 9), (46, 10), (46, 11), (46, 12), (46, 13), (46, 14)]
noncomputable def fr_fX9_copyAll : List (Nat × Nat) := []
noncomputable def fr_fX8_takeFrom_2_24 : List (Nat × Nat) := [(3, 0), (5, 0), (6, 0), (7, 0), (8, 0), (9, 0), (10, 0), (11, 0), (13, 0), (14, 0), (15, 0), (16, 0), (18, 0), (19, 0), (20, 0), (22, 0), (23, 0)]
noncomputable def fr_fX6_reset : List (Nat × Nat) := [(48, 0), (50, 0), (51, 0), (53, 0), (54, 0), (56, 0), (57, 0), (84, 0)]
noncomputable def fr_fX5_isFixed_47 : List (Nat × Nat) := []
noncomputable def fr_fX5_fixedAt_47 : List (Nat × Nat) := []
noncomputable def fr_fX5_placeFixed_47 : List (Nat × Nat) := [(53, 0), (54, 0)]
noncomputable def fr_fX5_uses_47 : List (Nat × Nat) := []
noncomputable def fr_fX8_turnedBy_2 : List (Nat × Nat) := []
noncomputable def fr_fX5_putAt_47 : List (Nat × Nat) := []
noncomputable def fr_fX6_putPoints : List (Nat × Nat) := [(53, 0), (54, 0)]
noncomputable def fr_fX6_gatherStarted : List (Nat × Nat) := [(85, 0), (88, 0), (89, 0)]
noncomputable def fr_fX6_gatherOwn : List (Nat × Nat) := [(86, 0)]
noncomputable def fr_fX6_findLinked : List (Nat × Nat) := [(85, 0), (86, 0), (88, 0), (89, 0)]
noncomputable def fr_fX6_firstLink : List (Nat × Nat) := []
noncomputable def fr_fX5_turned_47 : List (Nat × Nat) := []
noncomputable def fr_fX6_unlikeness : List (Nat × Nat) := []
noncomputable def fr_fX6_leastUnlikeTurn : List (Nat × Nat) := []
noncomputable def fr_fX6_startLinked : List (Nat × Nat) := [(48, 0), (50, 0), (51, 0)]
noncomputable def fr_fX6_findUnstarted : List (Nat × Nat) := []
noncomputable def fr_fX6_begin : List (Nat × Nat) := [(48, 0), (50, 0), (51, 0), (53, 0), (54, 0), (56, 0), (57, 0), (84, 0), (85, 0), (86, 0), (88, 0), (89, 0)]
noncomputable def fr_fX9_block : List (Nat × Nat) := [(0, 2), (0, 16), (0, 17), (3, 0), (5, 0), (6, 0), (7, 0), (8, 0), (9, 0), (10, 0), (11, 0), (13, 0), (14, 0), (15, 0), (16, 0), (18, 0), (19, 0), (20, 0), (22, 0), (23, 0), (25, 0), (27, 0), (28, 0), (29, 0), (30, 0), (31, 0), (32, 0), (33, 0), (35, 0), (36, 0), (37, 0), (38, 0), (40, 0), (41, 0), (42, 0), (44, 0), (45, 0), (46, 3), (46, 4), (46, 5), (46, 6), (46, 7), (46, 8), (46, 9), (46, 10), (46, 11), (46, 12), (46, 13), (46, 14), (47, 2), (48, 0), (50, 0), (51, 0), (53, 0), (54, 0), (56, 0), (57, 0), (58, 0), (84, 0), (85, 0), (86, 0), (88, 0), (89, 0)]
noncomputable def fr_fX9_fault : List (Nat × Nat) := []
noncomputable def fr_fX5_countFixed_47 : List (Nat × Nat) := []
noncomputable def fr_fX9_countDropped : List (Nat × Nat) := []
noncomputable def fr_fX9_has : List (Nat × Nat) := []
noncomputable def fr_fX8_exists_2 : List (Nat × Nat) := []
noncomputable def fr_fX9_letter : List (Nat × Nat) := []
noncomputable def fr_fX5_countRows_47 : List (Nat × Nat) := []
noncomputable def fr_fX2_firstCentre : List (Nat × Nat) := []
noncomputable def fr_fX2_join : List (Nat × Nat) := [(138, 0)]
noncomputable def fr_fX2_joinAll : List (Nat × Nat) := [(138, 0), (139, 0)]
noncomputable def fr_fX2_isLoose : List (Nat × Nat) := []
noncomputable def fr_fX2_isPictureLoose : List (Nat × Nat) := [(138, 0), (139, 0)]
noncomputable def fr_fX9_picture : List (Nat × Nat) := [(138, 0), (139, 0)]
noncomputable def fr_fX2_isPointLoose : List (Nat × Nat) := [(138, 0), (139, 0)]
noncomputable def fr_fX9_point : List (Nat × Nat) := [(138, 0), (139, 0)]
noncomputable def fr_fX5_miss_47 : List (Nat × Nat) := []
noncomputable def fr_fX2_canShow : List (Nat × Nat) := [(138, 0), (139, 0)]
noncomputable def fr_fX9_row : List (Nat × Nat) := [(138, 0), (139, 0)]
noncomputable def fr_fX9_isAxis : List (Nat × Nat) := []
noncomputable def fr_fX8_drifts_2 : List (Nat × Nat) := []
noncomputable def fr_fX9_drift : List (Nat × Nat) := []
noncomputable def fr_fX9_start : List (Nat × Nat) := [(48, 0), (50, 0), (51, 0), (53, 0), (54, 0), (56, 0), (57, 0), (84, 0), (85, 0), (86, 0), (88, 0), (89, 0)]
noncomputable def fr_fJ7_fill_d0a16 : List (Nat × Nat) := []
noncomputable def fr_fX1_clearPulls : List (Nat × Nat) := [(91, 0), (92, 0)]
noncomputable def fr_fJ9_floorDiv_f86c9 : List (Nat × Nat) := []
noncomputable def fr_fX1_moveEach : List (Nat × Nat) := [(50, 0), (51, 0), (53, 0), (54, 0), (56, 0), (57, 0)]
noncomputable def fr_fX1_addPull : List (Nat × Nat) := [(91, 0), (92, 0)]
noncomputable def fr_fX1_movePoints : List (Nat × Nat) := [(50, 0), (51, 0), (53, 0), (54, 0), (56, 0), (57, 0), (91, 0), (92, 0)]
noncomputable def fr_fX5_centreAt_47 : List (Nat × Nat) := []
noncomputable def fr_fX1_movePictures : List (Nat × Nat) := [(50, 0), (51, 0), (53, 0), (54, 0), (56, 0), (57, 0), (91, 0), (92, 0)]
noncomputable def fr_fX1_moveDrifts : List (Nat × Nat) := [(50, 0), (51, 0), (53, 0), (54, 0), (56, 0), (57, 0), (91, 0), (92, 0)]
noncomputable def fr_fX1_makeRound : List (Nat × Nat) := [(50, 0), (51, 0), (53, 0), (54, 0), (56, 0), (57, 0), (91, 0), (92, 0)]
noncomputable def fr_fX1_settle : List (Nat × Nat) := [(50, 0), (51, 0), (53, 0), (54, 0), (56, 0), (57, 0), (91, 0), (92, 0), (94, 0), (95, 0)]
noncomputable def fr_fX9_rounds : List (Nat × Nat) := [(50, 0), (51, 0), (53, 0), (54, 0), (56, 0), (57, 0), (91, 0), (92, 0), (94, 0), (95, 0)]
noncomputable def fr_fX5_doubtOf_47 : List (Nat × Nat) := []
noncomputable def fr_fX5_squares_47 : List (Nat × Nat) := []
noncomputable def fr_fX9_sum : List (Nat × Nat) := []
noncomputable def fr_fX4_driftOf : List (Nat × Nat) := []
noncomputable def fr_fX4_numberUnknowns : List (Nat × Nat) := [(96, 5), (97, 0)]
noncomputable def fr_fJ9_floorMod_f86c9 : List (Nat × Nat) := []
noncomputable def fr_fX4_addHold : List (Nat × Nat) := [(99, 0), (100, 0), (101, 0), (102, 0), (103, 0), (104, 0), (105, 0), (106, 0), (107, 0), (108, 0), (109, 0), (110, 0), (111, 0), (112, 0), (113, 0), (114, 0), (115, 0), (116, 0), (117, 0), (118, 0), (119, 0), (120, 0), (121, 0), (122, 0), (123, 0), (124, 0), (125, 0), (126, 0), (127, 0), (128, 0), (129, 0), (130, 0), (131, 0), (132, 0), (133, 0), (134, 0), (135, 0), (136, 0)]
noncomputable def fr_fX4_addTerm : List (Nat × Nat) := [(99, 0), (100, 0), (101, 0), (102, 0), (103, 0), (104, 0), (105, 0), (106, 0), (107, 0), (108, 0), (109, 0), (110, 0), (111, 0), (112, 0), (113, 0), (114, 0), (115, 0), (116, 0), (117, 0), (118, 0), (119, 0), (120, 0), (121, 0), (122, 0), (123, 0), (124, 0), (125, 0), (126, 0), (127, 0), (128, 0), (129, 0), (130, 0), (131, 0), (132, 0), (133, 0), (134, 0), (135, 0), (136, 0)]
noncomputable def fr_fX4_fill : List (Nat × Nat) := [(99, 0), (100, 0), (101, 0), (102, 0), (103, 0), (104, 0), (105, 0), (106, 0), (107, 0), (108, 0), (109, 0), (110, 0), (111, 0), (112, 0), (113, 0), (114, 0), (115, 0), (116, 0), (117, 0), (118, 0), (119, 0), (120, 0), (121, 0), (122, 0), (123, 0), (124, 0), (125, 0), (126, 0), (127, 0), (128, 0), (129, 0), (130, 0), (131, 0), (132, 0), (133, 0), (134, 0), (135, 0), (136, 0)]
noncomputable def fr_fX4_inverse : List (Nat × Nat) := []
noncomputable def fr_fX4_subtractLine : List (Nat × Nat) := [(99, 0), (100, 0), (101, 0), (102, 0), (103, 0), (104, 0), (105, 0), (106, 0), (107, 0), (108, 0), (109, 0), (110, 0), (111, 0), (112, 0), (113, 0), (114, 0), (115, 0), (116, 0), (117, 0), (118, 0), (119, 0), (120, 0), (121, 0), (122, 0), (123, 0), (124, 0), (125, 0), (126, 0), (127, 0), (128, 0), (129, 0), (130, 0), (131, 0), (132, 0), (133, 0), (134, 0), (135, 0), (136, 0)]
noncomputable def fr_fX4_swapLines : List (Nat × Nat) := [(99, 0), (100, 0), (101, 0), (102, 0), (103, 0), (104, 0), (105, 0), (106, 0), (107, 0), (108, 0), (109, 0), (110, 0), (111, 0), (112, 0), (113, 0), (114, 0), (115, 0), (116, 0), (117, 0), (118, 0), (119, 0), (120, 0), (121, 0), (122, 0), (123, 0), (124, 0), (125, 0), (126, 0), (127, 0), (128, 0), (129, 0), (130, 0), (131, 0), (132, 0), (133, 0), (134, 0), (135, 0), (136, 0)]
noncomputable def fr_fX4_eliminate : List (Nat × Nat) := [(99, 0), (100, 0), (101, 0), (102, 0), (103, 0), (104, 0), (105, 0), (106, 0), (107, 0), (108, 0), (109, 0), (110, 0), (111, 0), (112, 0), (113, 0), (114, 0), (115, 0), (116, 0), (117, 0), (118, 0), (119, 0), (120, 0), (121, 0), (122, 0), (123, 0), (124, 0), (125, 0), (126, 0), (127, 0), (128, 0), (129, 0), (130, 0), (131, 0), (132, 0), (133, 0), (134, 0), (135, 0), (136, 0)]
noncomputable def fr_fX4_solveFor : List (Nat × Nat) := [(96, 5), (97, 0), (99, 0), (100, 0), (101, 0), (102, 0), (103, 0), (104, 0), (105, 0), (106, 0), (107, 0), (108, 0), (109, 0), (110, 0), (111, 0), (112, 0), (113, 0), (114, 0), (115, 0), (116, 0), (117, 0), (118, 0), (119, 0), (120, 0), (121, 0), (122, 0), (123, 0), (124, 0), (125, 0), (126, 0), (127, 0), (128, 0), (129, 0), (130, 0), (131, 0), (132, 0), (133, 0), (134, 0), (135, 0), (136, 0)]
noncomputable def fr_fX9_whole : List (Nat × Nat) := [(96, 5), (97, 0), (99, 0), (100, 0), (101, 0), (102, 0), (103, 0), (104, 0), (105, 0), (106, 0), (107, 0), (108, 0), (109, 0), (110, 0), (111, 0), (112, 0), (113, 0), (114, 0), (115, 0), (116, 0), (117, 0), (118, 0), (119, 0), (120, 0), (121, 0), (122, 0), (123, 0), (124, 0), (125, 0), (126, 0), (127, 0), (128, 0), (129, 0), (130, 0), (131, 0), (132, 0), (133, 0), (134, 0), (135, 0), (136, 0)]
noncomputable def fr_fX9_sets : List (Nat × Nat) := [(47, 2), (53, 0), (54, 0)]
noncomputable def fr_fX2_countParts : List (Nat × Nat) := [(138, 0), (139, 0)]
noncomputable def fr_fX9_parts : List (Nat × Nat) := [(138, 0), (139, 0)]
noncomputable def fr_fX2_isJoined : List (Nat × Nat) := [(138, 0), (139, 0)]
noncomputable def fr_fX9_hang : List (Nat × Nat) := [(138, 0), (139, 0)]
noncomputable def fr_fX9_blind : List (Nat × Nat) := [(138, 0), (139, 0)]
noncomputable def fr_fX2_countLoose : List (Nat × Nat) := [(138, 0), (139, 0)]
noncomputable def fr_fX9_needs : List (Nat × Nat) := [(138, 0), (139, 0)]
noncomputable def fr_fX9_doubt : List (Nat × Nat) := []
noncomputable def fr_fX9_findWorst : List (Nat × Nat) := [(138, 0), (139, 0)]
noncomputable def fr_fX9_worst : List (Nat × Nat) := [(138, 0), (139, 0)]
noncomputable def fr_fX9_drop : List (Nat × Nat) := [(58, 0)]
noncomputable def fr_fX9_dropAbove : List (Nat × Nat) := [(50, 0), (51, 0), (53, 0), (54, 0), (56, 0), (57, 0), (58, 0), (91, 0), (92, 0), (94, 0), (95, 0), (138, 0), (139, 0), (199, 0)]
noncomputable def fr_fX9_putBack : List (Nat × Nat) := [(58, 0)]
noncomputable def fr_fX9_clean : List (Nat × Nat) := [(50, 0), (51, 0), (53, 0), (54, 0), (56, 0), (57, 0), (58, 0), (91, 0), (92, 0), (94, 0), (95, 0), (138, 0), (139, 0), (199, 0)]
noncomputable def fr_fX9_areUnlike : List (Nat × Nat) := []
noncomputable def fr_fX7_surveyTie : List (Nat × Nat) := [(155, 0), (156, 0), (157, 0), (158, 0), (159, 0), (160, 0), (161, 0), (162, 0), (163, 0), (164, 0), (165, 0), (166, 0), (168, 0), (169, 0), (170, 0), (171, 0), (172, 0), (173, 0), (174, 0), (175, 0), (176, 0), (177, 0), (178, 0), (179, 0), (181, 0), (182, 0), (183, 0), (184, 0), (185, 0), (186, 0), (187, 0), (188, 0), (189, 0), (190, 0), (191, 0), (192, 0)]
noncomputable def fr_fX7_survey : List (Nat × Nat) := [(142, 0), (143, 0), (144, 0), (145, 0), (146, 0), (147, 0), (148, 0), (149, 0), (150, 0), (151, 0), (152, 0), (153, 0), (155, 0), (156, 0), (157, 0), (158, 0), (159, 0), (160, 0), (161, 0), (162, 0), (163, 0), (164, 0), (165, 0), (166, 0), (168, 0), (169, 0), (170, 0), (171, 0), (172, 0), (173, 0), (174, 0), (175, 0), (176, 0), (177, 0), (178, 0), (179, 0), (181, 0), (182, 0), (183, 0), (184, 0), (185, 0), (186, 0), (187, 0), (188, 0), (189, 0), (190, 0), (191, 0), (192, 0)]
noncomputable def fr_fX7_stepOf : List (Nat × Nat) := []
noncomputable def fr_fX9_tie : List (Nat × Nat) := [(142, 0), (143, 0), (144, 0), (145, 0), (146, 0), (147, 0), (148, 0), (149, 0), (150, 0), (151, 0), (152, 0), (153, 0), (155, 0), (156, 0), (157, 0), (158, 0), (159, 0), (160, 0), (161, 0), (162, 0), (163, 0), (164, 0), (165, 0), (166, 0), (168, 0), (169, 0), (170, 0), (171, 0), (172, 0), (173, 0), (174, 0), (175, 0), (176, 0), (177, 0), (178, 0), (179, 0), (181, 0), (182, 0), (183, 0), (184, 0), (185, 0), (186, 0), (187, 0), (188, 0), (189, 0), (190, 0), (191, 0), (192, 0)]
noncomputable def fr_fX7_isLoop : List (Nat × Nat) := []
noncomputable def fr_fX7_loopOf : List (Nat × Nat) := []
noncomputable def fr_fX9_loop : List (Nat × Nat) := [(142, 0), (143, 0), (144, 0), (145, 0), (146, 0), (147, 0), (148, 0), (149, 0), (150, 0), (151, 0), (152, 0), (153, 0), (155, 0), (156, 0), (157, 0), (158, 0), (159, 0), (160, 0), (161, 0), (162, 0), (163, 0), (164, 0), (165, 0), (166, 0), (168, 0), (169, 0), (170, 0), (171, 0), (172, 0), (173, 0), (174, 0), (175, 0), (176, 0), (177, 0), (178, 0), (179, 0), (181, 0), (182, 0), (183, 0), (184, 0), (185, 0), (186, 0), (187, 0), (188, 0), (189, 0), (190, 0), (191, 0), (192, 0)]
noncomputable def fr_fX7_takeGap : List (Nat × Nat) := [(140, 12), (140, 13)]
noncomputable def fr_fX7_findGap : List (Nat × Nat) := [(140, 12), (140, 13)]
noncomputable def fr_fX9_gap : List (Nat × Nat) := [(140, 12), (140, 13), (142, 0), (143, 0), (144, 0), (145, 0), (146, 0), (147, 0), (148, 0), (149, 0), (150, 0), (151, 0), (152, 0), (153, 0), (155, 0), (156, 0), (157, 0), (158, 0), (159, 0), (160, 0), (161, 0), (162, 0), (163, 0), (164, 0), (165, 0), (166, 0), (168, 0), (169, 0), (170, 0), (171, 0), (172, 0), (173, 0), (174, 0), (175, 0), (176, 0), (177, 0), (178, 0), (179, 0), (181, 0), (182, 0), (183, 0), (184, 0), (185, 0), (186, 0), (187, 0), (188, 0), (189, 0), (190, 0), (191, 0), (192, 0)]
noncomputable def fr_fX7_addBranch : List (Nat × Nat) := [(140, 11), (193, 0), (194, 0), (195, 0)]
noncomputable def fr_fX7_growTree : List (Nat × Nat) := [(140, 11), (193, 0), (194, 0), (195, 0)]
noncomputable def fr_fX9_tree : List (Nat × Nat) := [(140, 11), (142, 0), (143, 0), (144, 0), (145, 0), (146, 0), (147, 0), (148, 0), (149, 0), (150, 0), (151, 0), (152, 0), (153, 0), (155, 0), (156, 0), (157, 0), (158, 0), (159, 0), (160, 0), (161, 0), (162, 0), (163, 0), (164, 0), (165, 0), (166, 0), (168, 0), (169, 0), (170, 0), (171, 0), (172, 0), (173, 0), (174, 0), (175, 0), (176, 0), (177, 0), (178, 0), (179, 0), (181, 0), (182, 0), (183, 0), (184, 0), (185, 0), (186, 0), (187, 0), (188, 0), (189, 0), (190, 0), (191, 0), (192, 0), (193, 0), (194, 0), (195, 0)]
noncomputable def fr_fX7_markPlanned : List (Nat × Nat) := [(196, 0)]
noncomputable def fr_fX7_countPlanned : List (Nat × Nat) := [(196, 0)]
noncomputable def fr_fX9_plan : List (Nat × Nat) := [(140, 11), (142, 0), (143, 0), (144, 0), (145, 0), (146, 0), (147, 0), (148, 0), (149, 0), (150, 0), (151, 0), (152, 0), (153, 0), (155, 0), (156, 0), (157, 0), (158, 0), (159, 0), (160, 0), (161, 0), (162, 0), (163, 0), (164, 0), (165, 0), (166, 0), (168, 0), (169, 0), (170, 0), (171, 0), (172, 0), (173, 0), (174, 0), (175, 0), (176, 0), (177, 0), (178, 0), (179, 0), (181, 0), (182, 0), (183, 0), (184, 0), (185, 0), (186, 0), (187, 0), (188, 0), (189, 0), (190, 0), (191, 0), (192, 0), (193, 0), (194, 0), (195, 0), (196, 0)]
noncomputable def fr_fX5_takeFrom_59_47 : List (Nat × Nat) := [(59, 2), (60, 0), (62, 0), (63, 0), (65, 0), (66, 0), (68, 0), (69, 0), (70, 0)]
noncomputable def fr_fX9_placeBySet : List (Nat × Nat) := [(47, 2), (48, 0), (50, 0), (51, 0), (53, 0), (54, 0), (56, 0), (57, 0), (84, 0), (85, 0), (86, 0), (88, 0), (89, 0), (91, 0), (92, 0), (94, 0), (95, 0)]
noncomputable def fr_fX5_takeFrom_47_59 : List (Nat × Nat) := [(47, 2), (48, 0), (50, 0), (51, 0), (53, 0), (54, 0), (56, 0), (57, 0), (58, 0)]
noncomputable def fr_fX9_differ : List (Nat × Nat) := [(47, 2), (48, 0), (50, 0), (51, 0), (53, 0), (54, 0), (56, 0), (57, 0), (58, 0), (59, 2), (60, 0), (62, 0), (63, 0), (65, 0), (66, 0), (68, 0), (69, 0), (70, 0), (84, 0), (85, 0), (86, 0), (88, 0), (89, 0), (91, 0), (92, 0), (94, 0), (95, 0)]
noncomputable def fr_fX9_canMeasure : List (Nat × Nat) := []
noncomputable def fr_fX5_takeFrom_71_47 : List (Nat × Nat) := [(71, 2), (72, 0), (74, 0), (75, 0), (77, 0), (78, 0), (80, 0), (81, 0), (82, 0)]
noncomputable def fr_fX8_setMeasured_2 : List (Nat × Nat) := [(13, 0), (14, 0)]
noncomputable def fr_fX9_countMoved : List (Nat × Nat) := []
noncomputable def fr_fX9_alters : List (Nat × Nat) := [(13, 0), (14, 0), (47, 2), (48, 0), (50, 0), (51, 0), (53, 0), (54, 0), (56, 0), (57, 0), (58, 0), (59, 2), (60, 0), (62, 0), (63, 0), (65, 0), (66, 0), (68, 0), (69, 0), (70, 0), (71, 2), (72, 0), (74, 0), (75, 0), (77, 0), (78, 0), (80, 0), (81, 0), (82, 0), (91, 0), (92, 0), (94, 0), (95, 0)]
noncomputable def fr_fX9_measure : List (Nat × Nat) := [(13, 0), (14, 0)]
noncomputable def fr_fX9_nextDraw : List (Nat × Nat) := []
noncomputable def fr_fX9_drawn : List (Nat × Nat) := []
noncomputable def fr_fX9_keptMeasured : List (Nat × Nat) := []
noncomputable def fr_fX9_slips : List (Nat × Nat) := [(13, 0), (14, 0)]
noncomputable def fr_fX0_writeByte : List (Nat × Nat) := [(197, 3), (198, 0)]
noncomputable def fr_fX0_check : List (Nat × Nat) := []
noncomputable def fr_fX0_writePair_55 : List (Nat × Nat) := [(197, 3), (198, 0)]
noncomputable def fr_fX0_writePair_52 : List (Nat × Nat) := [(197, 3), (198, 0)]
noncomputable def fr_fX0_writePair_49 : List (Nat × Nat) := [(197, 3), (198, 0)]
noncomputable def fr_fX0_write_47 : List (Nat × Nat) := [(197, 3), (198, 0)]
noncomputable def fr_fX9_image : List (Nat × Nat) := [(197, 3), (198, 0)]
noncomputable def fr_fX9_octet : List (Nat × Nat) := []
noncomputable def fr_fX0_dueLength : List (Nat × Nat) := []
noncomputable def fr_fX0_takePair_79 : List (Nat × Nat) := [(80, 0), (81, 0), (197, 4)]
noncomputable def fr_fX0_takePair_76 : List (Nat × Nat) := [(77, 0), (78, 0), (197, 4)]
noncomputable def fr_fX0_takePair_73 : List (Nat × Nat) := [(74, 0), (75, 0), (197, 4)]
noncomputable def fr_fX0_take_71 : List (Nat × Nat) := [(71, 2), (72, 0), (74, 0), (75, 0), (77, 0), (78, 0), (80, 0), (81, 0), (82, 0), (197, 4)]
noncomputable def fr_fX0_isNear_73 : List (Nat × Nat) := []
noncomputable def fr_fX0_arePicturesRight_71 : List (Nat × Nat) := []
noncomputable def fr_fX0_isNear_76 : List (Nat × Nat) := []
noncomputable def fr_fX5_isFixed_71 : List (Nat × Nat) := []
noncomputable def fr_fX5_fixedAt_71 : List (Nat × Nat) := []
noncomputable def fr_fX0_isAt_76 : List (Nat × Nat) := []
noncomputable def fr_fX0_arePointsRight_71 : List (Nat × Nat) := []
noncomputable def fr_fX0_isNear_79 : List (Nat × Nat) := []
noncomputable def fr_fX0_isAt_79 : List (Nat × Nat) := []
noncomputable def fr_fX0_areDriftsRight_71 : List (Nat × Nat) := []
noncomputable def fr_fX0_areRowsRight_71 : List (Nat × Nat) := []
noncomputable def fr_fX0_read_71 : List (Nat × Nat) := [(71, 2), (72, 0), (74, 0), (75, 0), (77, 0), (78, 0), (80, 0), (81, 0), (82, 0), (197, 4)]
noncomputable def fr_fX5_takeFrom_47_71 : List (Nat × Nat) := [(47, 2), (48, 0), (50, 0), (51, 0), (53, 0), (54, 0), (56, 0), (57, 0), (58, 0)]
noncomputable def fr_fX9_on : List (Nat × Nat) := [(0, 2), (47, 2), (48, 0), (50, 0), (51, 0), (53, 0), (54, 0), (56, 0), (57, 0), (58, 0), (71, 2), (72, 0), (74, 0), (75, 0), (77, 0), (78, 0), (80, 0), (81, 0), (82, 0), (197, 4)]
theorem iaddn_toInt {x y : Int32} {c : Int} (hy : y.toInt = -c) (h0 : -2147483648 ≤ x.toInt - c) (h1 : x.toInt - c < 2147483648) : (x + y).toInt = x.toInt - c := by
  rw [iadd_toInt (by omega) (by omega)]
  omega
theorem o_fill {σ : gS} {c : Nat} {v : Int32} (hI : JC σ) (hz : 0 < gsz zC.1 0 0 c ∧ gsz zC.1 0 0 c ≤ 2000) (hb : ∀ i, (kbC c i).1 ≤ v.toInt ∧ v.toInt ≤ (kbC c i).2) : Ok (fJ7_fill_53178 σ c v) (fun out => JC out ∧ Fr [(c, 0)] σ out ∧ ∀ i : Nat, i < gsz zC.1 0 0 c → out.1 c i = v) := by
  have hn : (Int32.ofNat (gsz zC.1 0 0 c)).toInt = ((gsz zC.1 0 0 c : Nat) : Int) := iofNat_toInt (by omega)
  unfold fJ7_fill_53178
  refine ok_nm.mpr (ok_gd.mpr ⟨decide_eq_true hz.1, ok_nm.mpr ?_⟩)
  refine ok_lpc (I := fun (k : Nat) (s : Int32 × gS) => k = (((gsz zC.1 0 0 c : Nat) : Int) - s.1.toInt).toNat ∧ 0 ≤ s.1.toInt ∧ s.1.toInt ≤ ((gsz zC.1 0 0 c : Nat) : Int) ∧ JC s.2 ∧ Fr [(c, 0)] σ s.2 ∧ ∀ i : Nat, (i : Int) < s.1.toInt → s.2.1 c i = v) (fun rec k s hs hrec => ?_) K9 (gsz zC.1 0 0 c) (0, σ) ⟨show gsz zC.1 0 0 c = (((gsz zC.1 0 0 c : Nat) : Int) - (0 : Int32).toInt).toNat by have := z0; omega, show 0 ≤ (0 : Int32).toInt by decide, show (0 : Int32).toInt ≤ ((gsz zC.1 0 0 c : Nat) : Int) by have := z0; omega, hI, Fr_r, fun i h => absurd (show (i : Int) < (0 : Int32).toInt from h) (by have := z0; omega)⟩ (by unfold K9; omega)
  obtain ⟨a, τ⟩ := s
  obtain ⟨hk, h0, h1, jI, jF, hv⟩ := hs
  dsimp only at hk h0 h1 jI jF hv ⊢
  unfold bJ7_fill_53178_5
  refine ok_ite.mpr ⟨fun h => ok_some.mpr ⟨jI, jF, fun i hi => ?_⟩, fun h => ?_⟩
  · have h := Int32.le_iff_toInt_le.mp h
    exact hv i (by omega)
  · have h := q_gt h
    have e1 : (a + 1).toInt = a.toInt + 1 := i_inc (c := 2000) (by omega) (by omega) (by decide)
    refine ok_gd.mpr ⟨gb_of h0 (by omega), ok_nm.mpr (ok_nm.mpr ?_)⟩
    refine hrec (((gsz zC.1 0 0 c : Nat) : Int) - (a + 1).toInt).toNat (a + 1, _) (by omega) ⟨rfl, show 0 ≤ (a + 1).toInt by omega, show (a + 1).toInt ≤ ((gsz zC.1 0 0 c : Nat) : Int) by omega, JC_w jI (hb _).1 (hb _).2, Fr_w0 jF (by simp), fun i hi => ?_⟩
    dsimp only at hi ⊢
    rw [gsI_1, n_toInt]
    by_cases e : i = a.toInt.toNat
    · rw [if_pos ⟨rfl, e⟩]
    · rw [if_neg (fun z => e z.2)]
      exact hv i (by omega)
theorem o_fillL {σ : gS} {c : Nat} {v : Int64} (hI : JC σ) (hz : 0 < gsz zC.1 1 2 c ∧ gsz zC.1 1 2 c ≤ 2000) : Ok (fJ7_fill_d0a16 σ c v) (fun out => JC out ∧ Fr [(c, 0)] σ out ∧ ∀ i : Nat, i < gsz zC.1 1 2 c → out.2 c i = v) := by
  have hn : (Int32.ofNat (gsz zC.1 1 2 c)).toInt = ((gsz zC.1 1 2 c : Nat) : Int) := iofNat_toInt (by omega)
  unfold fJ7_fill_d0a16
  refine ok_nm.mpr (ok_gd.mpr ⟨decide_eq_true hz.1, ok_nm.mpr ?_⟩)
  refine ok_lpc (I := fun (k : Nat) (s : Int32 × gS) => k = (((gsz zC.1 1 2 c : Nat) : Int) - s.1.toInt).toNat ∧ 0 ≤ s.1.toInt ∧ s.1.toInt ≤ ((gsz zC.1 1 2 c : Nat) : Int) ∧ JC s.2 ∧ Fr [(c, 0)] σ s.2 ∧ ∀ i : Nat, (i : Int) < s.1.toInt → s.2.2 c i = v) (fun rec k s hs hrec => ?_) K9 (gsz zC.1 1 2 c) (0, σ) ⟨show gsz zC.1 1 2 c = (((gsz zC.1 1 2 c : Nat) : Int) - (0 : Int32).toInt).toNat by have := z0; omega, show 0 ≤ (0 : Int32).toInt by decide, show (0 : Int32).toInt ≤ ((gsz zC.1 1 2 c : Nat) : Int) by have := z0; omega, hI, Fr_r, fun i h => absurd (show (i : Int) < (0 : Int32).toInt from h) (by have := z0; omega)⟩ (by unfold K9; omega)
  obtain ⟨a, τ⟩ := s
  obtain ⟨hk, h0, h1, jI, jF, hv⟩ := hs
  dsimp only at hk h0 h1 jI jF hv ⊢
  unfold bJ7_fill_d0a16_6
  refine ok_ite.mpr ⟨fun h => ok_some.mpr ⟨jI, jF, fun i hi => ?_⟩, fun h => ?_⟩
  · have h := Int32.le_iff_toInt_le.mp h
    exact hv i (by omega)
  · have h := q_gt h
    have e1 : (a + 1).toInt = a.toInt + 1 := i_inc (c := 2000) (by omega) (by omega) (by decide)
    refine ok_gd.mpr ⟨gb_of h0 (by omega), ok_nm.mpr (ok_nm.mpr ?_)⟩
    refine hrec (((gsz zC.1 1 2 c : Nat) : Int) - (a + 1).toInt).toNat (a + 1, _) (by omega) ⟨rfl, show 0 ≤ (a + 1).toInt by omega, show (a + 1).toInt ≤ ((gsz zC.1 1 2 c : Nat) : Int) by omega, JC_l jI, Fr_l0 jF (by simp), fun i hi => ?_⟩
    dsimp only at hi ⊢
    rw [gsL_2, n_toInt]
    by_cases e : i = a.toInt.toNat
    · rw [if_pos ⟨rfl, e⟩]
    · rw [if_neg (fun z => e z.2)]
      exact hv i (by omega)
theorem gcp_1 (σ : gS) (a b n k i : Nat) : (gcp σ a b 0 0 n).1 k i = if k = b ∧ i < n then σ.1 a i else σ.1 k i := by
  unfold gcp
  by_cases h : k = b
  · subst h
    by_cases h2 : i < n
    · simp [va_cpy, h2]
    · simp [va_cpy, h2]
  · simp [h]
theorem o_copy {σ : gS} {a b : Nat} (hI : JC σ) (hz : 0 < gsz zC.1 0 0 a ∧ gsz zC.1 0 0 b = gsz zC.1 0 0 a ∧ gsz zC.1 0 0 a ≤ 2000) (hb : ∀ i, (kbC b i).1 ≤ (kbC a i).1 ∧ (kbC a i).2 ≤ (kbC b i).2) : Ok (fX9_copyAll σ a b) (fun out => JC out ∧ Fr [(b, 0)] σ out ∧ ∀ i : Nat, i < gsz zC.1 0 0 b → out.1 b i = σ.1 a i) := by
  obtain ⟨h1, h2, h3⟩ := hz
  have ga : gis zC.1 0 0 a = true := decide_eq_true h1
  have gb' : gis zC.1 0 0 b = true := decide_eq_true (by omega)
  unfold fX9_copyAll
  rw [h2]
  have e : (if (Int32.ofNat (gsz zC.1 0 0 a)) < (Int32.ofNat (gsz zC.1 0 0 a)) then (Int32.ofNat (gsz zC.1 0 0 a)) else (Int32.ofNat (gsz zC.1 0 0 a))) = Int32.ofNat (gsz zC.1 0 0 a) := by split <;> rfl
  rw [e]
  have hn : (Int32.ofNat (gsz zC.1 0 0 a)).toInt = ((gsz zC.1 0 0 a : Nat) : Int) := iofNat_toInt (by omega)
  have hc : (Int32.ofNat (gsz zC.1 0 0 a)).toNatClampNeg = gsz zC.1 0 0 a := by rw [n_toInt]; omega
  refine ok_gd.mpr ⟨ga, ok_gd.mpr ⟨gb', ok_gd.mpr ⟨ga, ok_gd.mpr ⟨gb', ok_gd.mpr ⟨decide_eq_true ⟨by decide, by decide, fun z => ?_, ?_, ?_⟩, ok_nm.mpr (ok_some.mpr ?_)⟩⟩⟩⟩⟩
  · have := Int32.lt_iff_toInt_lt.mp z
    have := z0
    omega
  · rw [hc]; show 0 + _ ≤ _; omega
  · rw [hc]; show 0 + _ ≤ _; omega
  · rw [hc]
    show JC (gcp σ a b 0 0 (gsz zC.1 0 0 a)) ∧ Fr [(b, 0)] σ (gcp σ a b 0 0 (gsz zC.1 0 0 a)) ∧ ∀ i : Nat, i < gsz zC.1 0 0 a → (gcp σ a b 0 0 (gsz zC.1 0 0 a)).1 b i = σ.1 a i
    refine ⟨fun k i => ?_, fun k i g1 g2 => ⟨?_, rfl⟩, fun i hi => ?_⟩
    · rw [gcp_1]
      by_cases c : k = b ∧ i < gsz zC.1 0 0 a
      · rw [if_pos c, c.1]
        have x := hI a i
        have y := hb i
        exact ⟨Int.le_trans y.1 x.1, Int.le_trans x.2 y.2⟩
      · rw [if_neg c]; exact hI k i
    · rw [gcp_1, if_neg (fun z => g1 (by simp [z.1]))]
    · rw [gcp_1, if_pos ⟨rfl, hi⟩]
theorem w9_dec {x a : Int32} {lo : Int} (e : x = a + (-1)) (h : lo + 1 ≤ a.toInt) (hl : -2147483648 ≤ lo) : x.toInt = a.toInt - 1 := by
  have h2 : a.toInt < 2147483648 := Int32.toInt_lt a
  rw [e]; exact iaddn_toInt (c := 1) (by decide) (by omega) (by omega)
theorem w9_dn0 {x a : Int32} {lo l1 : Int} (e : x = a + (-1)) (h : l1 ≤ a.toInt) (hl : -2147483648 ≤ lo ∧ lo + 1 = l1) : lo ≤ x.toInt := by
  have h2 := w9_dec (lo := lo) e (by omega) hl.1
  omega
theorem w9_dnM {x a : Int32} {lo l1 : Int} {n : Nat} (e : x = a + (-1)) (hn : n = (a.toInt - lo + 1).toNat) (h : l1 ≤ a.toInt) (hl : -2147483648 ≤ lo ∧ lo + 1 = l1) : (x.toInt - lo + 1).toNat < n := by
  have h2 := w9_dec (lo := lo) e (by omega) hl.1
  omega
theorem w9_dn1 {x a : Int32} {l1 hi : Int} (e : x = a + (-1)) (h : l1 ≤ a.toInt) (hl : -2147483647 ≤ l1) (b : a.toInt ≤ hi) : x.toInt ≤ hi := by
  have h2 := w9_dec (lo := l1 - 1) e (by omega) (by omega)
  omega
