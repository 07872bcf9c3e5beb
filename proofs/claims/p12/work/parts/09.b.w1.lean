theorem w_classes {args : Array Value} {s : State} (hts : ∀ w ∈ lw_tbl, w.before args s = true) : ∃ D : va_G, ∀ (k : Nat) (q : vw_C), vwCl[k]? = some q → u_Kn s q.1 q.2.1 q.2.2 (D.1 k) (D.2 k) := by
  have h : ∀ k : Nat, ∃ p : ClassId × (Nat → Nat), ∀ q : vw_C, vwCl[k]? = some q → u_Kn s q.1 q.2.1 q.2.2 p.1 p.2 := fun k => match k with
    | 0 => by
      obtain ⟨c, iS, h⟩ := u_known (C := RX0) (T := TX0) (N := 4) (n := 4) hts lwUX0 (hts _ (lwT2 _ (List.mem_of_getElem? (i := 128) rfl)))
      exact ⟨(c, iS), fun q hq => by cases hq; exact h⟩
    | 1 => by
      obtain ⟨c, iS, h⟩ := u_known (C := RX1) (T := TX1) (N := 5) (n := 5) hts lwUX1 (hts _ (lwT2 _ (List.mem_of_getElem? (i := 8) rfl)))
      exact ⟨(c, iS), fun q hq => by cases hq; exact h⟩
    | 2 => by
      obtain ⟨c, iS, h⟩ := u_known (C := RX2) (T := TX2) (N := 4) (n := 4) hts lwUX2 (hts _ (lwT2 _ (List.mem_of_getElem? (i := 56) rfl)))
      exact ⟨(c, iS), fun q hq => by cases hq; exact h⟩
    | 3 => by
      obtain ⟨c, iS, h⟩ := u_known (C := RX3) (T := TX3) (N := 14) (n := 14) hts lwUX3 (hts _ (lwT1 _ (List.mem_of_getElem? (i := 123) rfl)))
      exact ⟨(c, iS), fun q hq => by cases hq; exact h⟩
    | 4 => by
      obtain ⟨c, iS, h⟩ := u_known (C := RX4) (T := TX4) (N := 5) (n := 5) hts lwUX4 (hts _ (lwT2 _ (List.mem_of_getElem? (i := 32) rfl)))
      exact ⟨(c, iS), fun q hq => by cases hq; exact h⟩
    | 5 => by
      obtain ⟨c, iS, h⟩ := u_known (C := RX5) (T := TX5) (N := 7) (n := 7) hts lwUX5 (hts _ (lwT1 _ (List.mem_of_getElem? (i := 174) rfl)))
      exact ⟨(c, iS), fun q hq => by cases hq; exact h⟩
    | 6 => by
      obtain ⟨c, iS, h⟩ := u_known (C := RX6) (T := TX6) (N := 6) (n := 6) hts lwUX6 (hts _ (lwT1 _ (List.mem_of_getElem? (i := 222) rfl)))
      exact ⟨(c, iS), fun q hq => by cases hq; exact h⟩
    | 7 => by
      obtain ⟨c, iS, h⟩ := u_known (C := RX7) (T := TX7) (N := 13) (n := 13) hts lwUX7 (hts _ (lwT2 _ (List.mem_of_getElem? (i := 75) rfl)))
      exact ⟨(c, iS), fun q hq => by cases hq; exact h⟩
    | 8 => by
      obtain ⟨c, iS, h⟩ := u_known (C := RX8) (T := TX8) (N := 12) (n := 12) hts lwUX8 (hts _ (lwT1 _ (List.mem_of_getElem? (i := 28) rfl)))
      exact ⟨(c, iS), fun q hq => by cases hq; exact h⟩
    | 9 => by
      obtain ⟨c, iS, h⟩ := u_known (C := RX9) (T := TX9) (N := 17) (n := 17) hts lwUX9 (hts _ (lwT1 _ (List.mem_of_getElem? (i := 20) rfl)))
      exact ⟨(c, iS), fun q hq => by cases hq; exact h⟩
    | 10 => by
      obtain ⟨c, iS, h⟩ := u_known (C := RX10) (T := TX10) (N := 57) (n := 57) hts lwUX10 (hts _ (lwT6 _ (List.mem_of_getElem? (i := 21) rfl)))
      exact ⟨(c, iS), fun q hq => by cases hq; exact h⟩
    | k + 11 => ⟨(0, fun _ => 0), fun q hq => by
        have h9 := (List.getElem?_eq_some_iff.mp hq).1
        exact absurd h9 (by show ¬ k + 11 < 11; omega)⟩
  obtain ⟨f, hf⟩ := Classical.axiomOfChoice h
  exact ⟨(fun k => (f k).1, fun k => (f k).2), fun k q hq => hf k q hq⟩
theorem w_arr {args : Array Value} {s : State} {ty : FieldType} (hp : ∀ C, ty ≠ .object C) (h : (Cond.arrayClass ty).before args s = true) : ∃ cA : ClassId, ArrOfT s cA ty ∧ va_RA s cA ty := by
  obtain ⟨c, k, comp, h1, h2, h3⟩ := Cond.arrayClass_spec h
  refine ⟨c, fun n z => ⟨fun q hq => (by cases hq), k, h2, comp, h3⟩, ?_⟩
  cases ty <;> first | exact absurd rfl (hp _) | exact h1
theorem w_arr2 {args : Array Value} {s : State} {t : FieldType} (h : (Cond.arrayOver (.array t)).before args s = true) : ∃ cA : ClassId, ArrOfT s cA (.array t) ∧ va_RA s cA (.array t) := by
  obtain ⟨comp, c, k, h1, h2, h3, h4, h5⟩ := arrayOverA_spec h
  exact ⟨c, fun n z => ⟨fun q hq => (by cases hq), k, h3, comp, h4⟩, h5⟩
theorem w_tysC {args : Array Value} {s : State} (hts : ∀ w ∈ lw_tbl, w.before args s = true) : ∃ tys : List (ClassId × FieldType), tys.map (fun q => q.2) = zC.2.1 ∧ ∀ (k : Nat) (q : ClassId × FieldType), tys[k]? = some q → ArrOfT s q.1 q.2 ∧ va_RA s q.1 q.2 := by
  obtain ⟨a0, p0⟩ := w_arr (by intro C h; cases h) (hts _ (lwT1 _ (List.mem_of_getElem? (i := 121) rfl)))
  obtain ⟨a1, p1⟩ := w_arr2 (hts _ (lwT1 _ (List.mem_of_getElem? (i := 34) rfl)))
  obtain ⟨a2, p2⟩ := w_arr (by intro C h; cases h) (hts _ (lwT2 _ (List.mem_of_getElem? (i := 30) rfl)))
  obtain ⟨a3, p3⟩ := w_arr2 (hts _ (lwT2 _ (List.mem_of_getElem? (i := 38) rfl)))
  refine ⟨[(a0, .int), (a1, (.array .int)), (a2, .long), (a3, (.array .long))], rfl, fun k q h => ?_⟩
  match k, h with
  | 0, h => cases h; exact p0
  | 1, h => cases h; exact p1
  | 2, h => cases h; exact p2
  | 3, h => cases h; exact p3
  | k + 4, h =>
    have h9 := (List.getElem?_eq_some_iff.mp h).1
    exact absurd h9 (by show ¬ k + 4 < 4; omega)
theorem w_tysM {args : Array Value} {s : State} (hts : ∀ w ∈ lw_tbl, w.before args s = true) : ∃ tys : List (ClassId × FieldType), tys.map (fun q => q.2) = zM.2.1 ∧ ∀ (k : Nat) (q : ClassId × FieldType), tys[k]? = some q → ArrOfT s q.1 q.2 ∧ va_RA s q.1 q.2 := by
  obtain ⟨a0, p0⟩ := w_arr (by intro C h; cases h) (hts _ (lwT1 _ (List.mem_of_getElem? (i := 121) rfl)))
  obtain ⟨a1, p1⟩ := w_arr (by intro C h; cases h) (hts _ (lwT6 _ (List.mem_of_getElem? (i := 198) rfl)))
  obtain ⟨a2, p2⟩ := w_arr (by intro C h; cases h) (hts _ (lwT2 _ (List.mem_of_getElem? (i := 30) rfl)))
  obtain ⟨a3, p3⟩ := w_arr (by intro C h; cases h) (hts _ (lwT6 _ (List.mem_of_getElem? (i := 199) rfl)))
  refine ⟨[(a0, .int), (a1, .char), (a2, .long), (a3, .boolean)], rfl, fun k q h => ?_⟩
  match k, h with
  | 0, h => cases h; exact p0
  | 1, h => cases h; exact p1
  | 2, h => cases h; exact p2
  | 3, h => cases h; exact p3
  | k + 4, h =>
    have h9 := (List.getElem?_eq_some_iff.mp h).1
    exact absurd h9 (by show ¬ k + 4 < 4; omega)
theorem hliX9 : yX9_init.cls ≠ "java/lang/invoke/MethodHandle" ∧ yX9_init.cls ≠ "java/lang/invoke/VarHandle" ∧ (parseMethodDescriptor yX9_init.desc).map (fun d => d.parameters.length) = some 0 := by decide +kernel
theorem hliX10 : yX10_init.cls ≠ "java/lang/invoke/MethodHandle" ∧ yX10_init.cls ≠ "java/lang/invoke/VarHandle" ∧ (parseMethodDescriptor yX10_init.desc).map (fun d => d.parameters.length) = some 0 := by decide +kernel
noncomputable def s0C : gS := sgC24
noncomputable def s0M : gS := sgM55
theorem inL_RX9 : ∀ w ∈ u_ws RX9 TX9 17, w ∈ wsL_law := fun w h => List.mem_append_left _ (List.mem_append_left _ (List.mem_append_left _ (List.mem_append_left _ (List.mem_append_left _ (List.mem_append_left _ (List.mem_append_left _ (List.mem_append_left _ (List.mem_append_left _ (List.mem_append_left _ (List.mem_append_left _ (List.mem_append_right _ h)))))))))))
theorem inL_RX10 : ∀ w ∈ u_ws RX10 TX10 57, w ∈ wsL_law := fun w h => List.mem_append_left _ (List.mem_append_left _ (List.mem_append_left _ (List.mem_append_left _ (List.mem_append_left _ (List.mem_append_left _ (List.mem_append_left _ (List.mem_append_left _ (List.mem_append_left _ (List.mem_append_left _ (List.mem_append_right _ h))))))))))
theorem w_kM {GC GM : gG} {b0 : Nat} (hb : ∀ k, GM.2.1 k = b0 + zC.1.length + k) (hbC : ∀ k, GC.2.1 k = b0 + k) (σ : gS) : ∀ H H1 : Heap, b0 + zC.1.length ≤ H.size → H.size ≤ H1.size → (∀ q : Nat, q < b0 + zC.1.length → H1[q]? = H[q]?) → va_P GC.1 zC.2.2 (gLay GC zC.1 σ) H → va_P GC.1 zC.2.2 (gLay GC zC.1 σ) H1 := fun H H1 _ _ hq hP => hP.kept (fun k x hx => hq x.1 (by
  obtain ⟨h1, h2⟩ := gLay_inv hx
  rw [h2, hbC]
  omega))
/-! THE LAW FROM ITS ENTRY: with an invariant of both worlds that holds behind the constructors and that every call keeps, it comes to its end with true -/
set_option maxRecDepth 100000 in
set_option maxHeartbeats 8000000 in
theorem whole_open {p : Program} {e : Env} {s : State} {m : MethodId} {below : List Frame} {meth : Method} {c : Code} (l : Launch) {b L : Nat} {xs : Nat → Int32} (hL : L ≤ 3072) (C0 : lw_At p s m meth c b L xs) (Inv : Nat → gS → gS → Prop) (hI0 : Inv 0 s0C s0M)
    (hstep : ∀ (k : Nat) (σC σM : gS) (x0 x1 x2 x3 x4 x5 : Int32), 6 * k + 6 ≤ L → Inv k σC σM → lOK (Inv (k + 1)) (x0 &&& 63) x1 x2 x3 x4 x5 σC σM) :
    W p l e room_1 s m #[Value.ref b] below meth c s.heap [] 0 0 (lw_Z below #[Value.ref b] s) (entryFrame m ([Value.ref b] : List Value).toArray 4) := by
  obtain ⟨hx, hbc, hr, hml, hown, hts, hX, hbl, hlocks, hgv⟩ := id C0
  obtain ⟨D, hD⟩ := w_classes hts
  obtain ⟨tC, htC, hKC⟩ := w_tysC hts
  obtain ⟨tM, htM, hKM⟩ := w_tysM hts
  have hs := flat_of_before _ hgv
  obtain ⟨ex, hex⟩ := kC_of hts hs (A := fun q => ∃ k, k < zC.1.length ∧ q = s.heap.size + k) (by rintro a ha ⟨k, -, rfl⟩; omega)
  obtain ⟨b0, hb0⟩ : ∃ b0, s.heap.size = b0 := ⟨_, rfl⟩
  rw [hb0] at hex
  obtain ⟨GC, hGC⟩ : ∃ GC : gG, GC = (D, fun k => b0 + k, tC, fun u => kC ex (fun q => ∃ k, k < zC.1.length ∧ q = b0 + k) u) := ⟨_, rfl⟩
  obtain ⟨GM, hGM⟩ : ∃ GM : gG, GM = (D, fun k => b0 + zC.1.length + k, tM, fun _ => True) := ⟨_, rfl⟩
  have aC : ∀ k, GC.2.1 k = b0 + k := fun k => by rw [hGC]
  have aM : ∀ k, GM.2.1 k = b0 + zC.1.length + k := fun k => by rw [hGM]
  have TC : GC.2.2.1.map (fun q => q.2) = zC.2.1 := by rw [hGC]; exact htC
  have TM : GM.2.2.1.map (fun q => q.2) = zM.2.1 := by rw [hGM]; exact htM
  have KC : va_K GC.1 vwCl GC.2.2.1 s := by rw [hGC]; exact ⟨hD, hKC⟩
  have KM : va_K GM.1 vwCl GM.2.2.1 s := by rw [hGM]; exact ⟨hD, hKM⟩
  have kk0 : GC.2.2.2 s := by rw [hGC]; exact hex
  have kk1 : ∀ u : State, GC.2.2.2 u → kC ex (gA GC zC.1) u := by rw [hGC]; exact fun u h => h
  have okC : gOK GC zC.1 := by
    refine ⟨fun i j _ _ h => ?_, fun u U hW _ hq h => ?_, fun u U hv hh h => ?_⟩
    · rw [aC, aC] at h; omega
    · rw [hGC] at h hq ⊢; exact kC_keep hW hq h
    · rw [hGC] at h ⊢; exact kC_same hv hh h
  have okM : gOK GM zM.1 := by
    refine ⟨fun i j _ _ h => ?_, fun u U _ _ _ _ => ?_, fun u U _ _ _ => ?_⟩
    · rw [aM, aM] at h; omega
    · rw [hGM]; trivial
    · rw [hGM]; trivial
  have hyK := yK_of hts
  have hw : ∀ w ∈ wsL_law, w.before #[Value.ref b] s = true := fun w h => hts w (wsL_law_in w h)
  have hl := lv_entry ([.ref b]) (n := 4) (Nat.le_of_ble_eq_true rfl)
  rw [lg_entry_eq]
  generalize (lg_sl ([.ref b]) ++ List.replicate (4 - (lg_sl ([.ref b])).length) Slot.unset).toArray = ls at hl ⊢
  have hl : lv_has ls 4 [(0, .ref b)] := hl
  obtain ⟨M, hM⟩ : ∃ M : gM, M = (p, l, e, room_1, s, m, #[Value.ref b], below, meth, c) := ⟨_, rfl⟩
  have X1 : yX M GC vwCl zC.2.1 code RL 4 wsL_law room_1 ret b0 (fun _ => True) := by
    rw [hM]; exact ⟨hx, hbc, hml, hown, hw, KC, aC, TC, hlocks, rfl, hr, hyK, fun _ _ _ _ _ _ => trivial⟩
  have X2 : yX M GM vwCl zM.2.1 code RL 4 wsL_law room_1 ret (b0 + zC.1.length) (fun H => va_P GC.1 zC.2.2 (gLay GC zC.1 s0C) H) := by
    rw [hM]; exact ⟨hx, hbc, hml, hown, hw, KM, aM, TM, hlocks, rfl, hr, hyK, w_kM aM aC s0C⟩
  have XL : lX M GC GM ex b0 b L xs 241 11385 := by
    rw [hM]; exact ⟨⟨hx, hbc, hml, hown, hw⟩, ⟨KC, okC, TC, kk0, kk1, aC⟩, ⟨KM, okM, TM, by rw [hGM]; trivial, aM⟩, rfl, hb0, hX, by rw [← hb0]; exact hbl, hL, Nat.le_of_ble_eq_true rfl, Nat.le_of_ble_eq_true rfl⟩
  have hmS : mS M = s := by rw [hM]
  -- the loop, behind both constructors
  have K3 : LL M (lw_Z below #[Value.ref b] s) GC GM b0 241 11385 s0C s0M 16 [(2, .ref (GM.2.1 0)), (1, .ref (GC.2.1 0)), (0, .ref b)] [] := by
    intro H locs ls h1 h2 hS h
    refine lv_iconst (v := 0) XL.1.1 XL.1.2.1 dL_law_16 (by decide) ?_
    refine lv_istore_n (lv' := [(3, .int 0), (2, .ref (GM.2.1 0)), (1, .ref (GC.2.1 0)), (0, .ref b)]) XL.1.1 XL.1.2.1 dL_law_17 rfl h (by decide) rfl (fun ls2 h' => ?_)
    refine l_loop XL Inv hstep ?_ (L + 1) 0 0 s0C s0M (by decide) (by omega) hI0 H locs ls2 h1 h2 hS h'
    intro i τC τM H locs ls h1 h2 hS h
    refine lv_iconst (v := 1) XL.1.1 XL.1.2.1 dL_law_1235 (by decide) ?_
    refine va_forget (fun q hq => by rw [hmS, hb0]; exact hS.2.2 q hq) ?_
    refine W.widen (k := 600000) (n := 7302250) (Nat.le_of_ble_eq_true rfl) (Nat.le_of_ble_eq_true rfl) ?_
    rw [hM]
    exact lw_ret hx hbc hr hlocks dL_law_1236
  -- the reference's constructor
  have K2 : YY M (lw_Z below #[Value.ref b] s) GM vwCl (b0 + zC.1.length) (fun H => va_P GC.1 zC.2.2 (gLay GC zC.1 s0C) H) [] 4 s00 200 6297 8 [(1, .ref (GC.2.1 0)), (0, .ref b)] [] := by
    refine yy_new X2 (C := RX10) (T := TX10) (N := 57) (ci := 10) (n := 0) (fl := [2, 0, 0, 0, 0, 0, 0, 0, 0, 2, 2, 2, 2, 2, 2, 2, 2, 2, 2, 2, 2, 0, 2, 2, 2, 2, 2, 2, 2, 2, 2, 2, 2, 2, 0, 2, 0, 2, 2, 2, 1, 0, 2, 0, 2, 2, 2, 2, 2, 2, 2, 2, 0, 2, 1, 2, 0]) (sh' := hsM1) (cells' := 201) (slots' := 6354) dL_law_8 inL_RX10 tyX10 tyX10_ok rfl (List.mem_of_getElem? (i := 3) rfl) (List.mem_of_getElem? (i := 4) rfl) (List.mem_of_getElem? (i := 5) rfl) (by decide +kernel) rfl rfl (by decide +kernel) (by decide +kernel) rfl rfl rfl ⟨Nat.le_of_ble_eq_true rfl, Nat.le_of_ble_eq_true rfl⟩ ?_
    refine yy_dup X2 rfl dL_law_11 ?_
    refine yy_callI X2 (n := 0) (As := []) (rest := [.ref (GM.2.1 0)]) (mc := 40) (ms := 5031) (cells' := 241) (slots' := 11385) dL_law_12 (kIM1 (mL M) GM (b0 + zC.1.length) aM TM) rfl gL_law_X10_init (List.mem_of_getElem? (i := 5) rfl) (List.mem_of_getElem? (i := 170) rfl) (List.mem_of_getElem? (i := 171) rfl) rfl hliX10 ⟨rfl, rfl⟩ ⟨Nat.le_of_ble_eq_true rfl, Nat.le_of_ble_eq_true rfl⟩ rfl rfl (Nat.le_of_ble_eq_true rfl) rfl rfl ⟨Nat.le_of_ble_eq_true rfl, Nat.le_of_ble_eq_true rfl⟩ ?_
    intro H locs ls hP hz hS hE h
    rw [hLay_conv okIM cvIM] at hP
    refine lv_astore_n (lv' := [(2, .ref (GM.2.1 0)), (1, .ref (GC.2.1 0)), (0, .ref b)]) X2.1 X2.2.1 dL_law_15 rfl h (by decide) rfl (fun ls2 h' => ?_)
    exact K3 H locs ls2 hE hP ⟨hS.1, fun q h1 h2 => hS.2.1 q h1 (fun h3 => h2 (Nat.le_trans (Nat.le_add_right _ _) h3)), fun q hq => Nat.le_trans (Nat.le_add_right _ _) (hS.2.2 q hq)⟩ h'
  -- the class's constructor
  have K1 : YY M (lw_Z below #[Value.ref b] s) GC vwCl b0 (fun _ => True) [] 4 s00 0 0 0 [(0, .ref b)] [] := by
    refine yy_new X1 (C := RX9) (T := TX9) (N := 17) (ci := 9) (n := 0) (fl := [2, 0, 2, 2, 2, 2, 2, 2, 2, 2, 2, 2, 2, 2, 2, 0, 0]) (sh' := hsC1) (cells' := 1) (slots' := 17) dL_law_0 inL_RX9 tyX9 tyX9_ok rfl (List.mem_of_getElem? (i := 0) rfl) (List.mem_of_getElem? (i := 1) rfl) (List.mem_of_getElem? (i := 2) rfl) (by decide +kernel) rfl rfl (by decide +kernel) (by decide +kernel) rfl rfl rfl ⟨Nat.le_of_ble_eq_true rfl, Nat.le_of_ble_eq_true rfl⟩ ?_
    refine yy_dup X1 rfl dL_law_3 ?_
    refine yy_callI X1 (n := 0) (As := []) (rest := [.ref (GC.2.1 0)]) (mc := 199) (ms := 6280) (cells' := 200) (slots' := 6297) dL_law_4 (kIC13 (mL M) GC b0 aC TC) rfl gL_law_X9_init (List.mem_of_getElem? (i := 2) rfl) (List.mem_of_getElem? (i := 7) rfl) (List.mem_of_getElem? (i := 8) rfl) rfl hliX9 ⟨rfl, rfl⟩ ⟨Nat.le_of_ble_eq_true rfl, Nat.le_of_ble_eq_true rfl⟩ rfl rfl (Nat.le_of_ble_eq_true rfl) rfl rfl ⟨Nat.le_of_ble_eq_true rfl, Nat.le_of_ble_eq_true rfl⟩ ?_
    intro H locs ls hP hz hS hE h
    rw [hLay_conv okIC cvIC] at hP
    refine lv_astore_n (lv' := [(1, .ref (GC.2.1 0)), (0, .ref b)]) X1.1 X1.2.1 dL_law_7 rfl h (by decide) rfl (fun ls2 h' => ?_)
    have hlen : hsC163.length = zC.1.length := by decide +kernel
    refine va_forget (fun q hq => by rw [hmS, hb0]; exact hS.2.2 q hq) ?_
    exact K2 H [] ls2 (by intro k q h9; simp [hLay] at h9) (by rw [hz, hlen]; rfl) ⟨hS.1, fun q h1 _ => hS.2.1 q h1 (by rw [hmS, hb0] at h1; exact Nat.not_le.mpr h1), fun q hq => by cases hq⟩ hP h'
  have K0 := K1 s.heap [] ls (by intro k q h; simp [hLay] at h) (by rw [hb0]; rfl) (by rw [hM]; exact va_S.rf) trivial hl
  rw [hM] at K0
  exact K0
