/-- nest mates whose constructors are called -/
noncomputable def yN (U : State) : Prop := va_Nw (.methodLinkNest RX9 19 yX8_init "PictureBlock") U ∧ True
theorem yN.warm {s U : State} (hW : s.WarmedH U.vm) (h : yN s) : yN U := ⟨va_Nw.warmM hW h.1, trivial⟩
theorem yN.same {u U : State} (hvm : u.vm = U.vm) (h : yN u) : yN U := ⟨va_Nw.same rfl hvm h.1, trivial⟩
theorem yN_X8_init_19 {U : State} (h : yN U) : va_Nw (.methodLinkNest RX9 19 yX8_init "PictureBlock") U := h.1
/-! A WORLD THAT GROWS: what constructors make. Cells come one behind another from the address b0 on; an object's references may still be null. YY: the machine, at an instruction of a constructor (or of the law), with the cells made so far, comes to its end. E: what else the heap holds below b0. -/
section YY
/-- a field of an object that is being made: 0 an int, 1 a long, 2 null, k + 3 the cell k -/
noncomputable def hF (ad : Nat → Nat) (f : Nat → Int32) (g : Nat → Int64) (i : Nat) : Nat → Value
  | 0 => .int (f i)
  | 1 => .long (g i)
  | 2 => .null
  | k + 3 => .ref (ad k)
noncomputable def hEl (G : gG) (f : Nat → Int32) (g : Nat → Int64) (q : gC) : va_E := match q.1 with
  | 0 => .inl (gTy G q.2.1, q.2.2.1, .inl f)
  | 1 => .inl (gTy G q.2.1, q.2.2.1, .inr (.inl g))
  | 2 => .inl (gTy G q.2.1, q.2.2.1, .inr (.inr (.inr (.inr (fun i => some (G.2.1 (q.2.2.2.headD 0 + i)))))))
  | _ => .inr (q.2.1, q.2.2.2.mapIdx (fun i t => hF G.2.1 f g i t))
noncomputable def hLay (G : gG) (sh : List gC) (σ : gS) : va_W := sh.mapIdx (fun k q => (G.2.1 k, hEl G (σ.1 k) (σ.2 k) q))
theorem hLay_at {G : gG} {sh : List gC} {σ : gS} {k : Nat} {q : gC} (h : sh[k]? = some q) : (hLay G sh σ)[k]? = some (G.2.1 k, hEl G (σ.1 k) (σ.2 k) q) := by
  simp [hLay, List.getElem?_mapIdx, h]
theorem hLay_len (G : gG) (sh : List gC) (σ : gS) : (hLay G sh σ).length = sh.length := by simp [hLay]
theorem hLay_set {G : gG} {sh sh' : List gC} {σ σ' : gS} {k : Nat} {q q' : gC} {e : va_E} (h : sh[k]? = some q) (hs : sh' = sh.set k q') (he : hEl G (σ'.1 k) (σ'.2 k) q' = e) (h1 : ∀ j, j ≠ k → σ'.1 j = σ.1 j) (h2 : ∀ j, j ≠ k → σ'.2 j = σ.2 j) : (hLay G sh σ).set k (G.2.1 k, e) = hLay G sh' σ' := by
  subst hs
  have hk : k < sh.length := (List.getElem?_eq_some_iff.mp h).1
  apply List.ext_getElem?
  intro j
  rw [List.getElem?_set]
  by_cases hj : k = j
  · subst hj
    rw [if_pos rfl, if_pos (by rw [hLay_len]; exact hk), hLay_at (q := q') (by rw [List.getElem?_set, if_pos rfl, if_pos hk]), he]
  · rw [if_neg hj]
    simp only [hLay, List.getElem?_mapIdx, List.getElem?_set, if_neg hj]
    rw [h1 j (fun e => hj e.symm), h2 j (fun e => hj e.symm)]
theorem hLay_app (G : gG) (sh t : List gC) (σ : gS) : hLay G (sh ++ t) σ = hLay G sh σ ++ t.mapIdx (fun k q => (G.2.1 (k + sh.length), hEl G (σ.1 (k + sh.length)) (σ.2 (k + sh.length)) q)) := by
  unfold hLay
  rw [List.mapIdx_append]
theorem hLay_inv {G : gG} {sh : List gC} {σ : gS} {k : Nat} {x : Nat × va_E} (h : (hLay G sh σ)[k]? = some x) : k < sh.length ∧ x.1 = G.2.1 k := by
  have hl := (List.getElem?_eq_some_iff.mp h).1
  rw [hLay_len] at hl
  refine ⟨hl, ?_⟩
  rw [hLay_at (List.getElem?_eq_getElem hl)] at h
  cases h
  rfl
theorem hD {G : gG} {b0 : Nat} (h : ∀ k, G.2.1 k = b0 + k) (sh : List gC) (σ : gS) : va_D (fun q => b0 ≤ q) (hLay G sh σ) := by
  refine ⟨fun i j p q hp hq e => ?_, fun k q hq => ?_⟩
  · obtain ⟨-, a2⟩ := hLay_inv hp
    obtain ⟨-, b2⟩ := hLay_inv hq
    rw [a2, b2, h, h] at e
    omega
  · obtain ⟨-, a2⟩ := hLay_inv hq
    rw [a2, h]
    omega
theorem hFl {ad : Nat → Nat} {f : Nat → Int32} {g : Nat → Int64} {fl : List Nat} {j t : Nat} (h : fl[j]? = some t) : (fl.mapIdx (fun i t => hF ad f g i t))[j]? = some (hF ad f g j t) := by
  simp [List.getElem?_mapIdx, h]
theorem hNew {ad : Nat → Nat} {f : Nat → Int32} {g : Nat → Int64} {fl : List Nat} (h : fl.all (fun t => decide (t ≤ 2)) = true) (hf : f = fun _ => 0) (hg : g = fun _ => 0) : fl.mapIdx (fun i t => hF ad f g i t) = fl.mapIdx (fun i t => hF (fun _ => 0) (fun _ => 0) (fun _ => 0) i t) := by
  subst hf; subst hg
  apply List.ext_getElem?
  intro j
  simp only [List.getElem?_mapIdx]
  cases hj : fl[j]? with
  | none => rfl
  | some t =>
    have ht : t ≤ 2 := of_decide_eq_true (List.all_eq_true.mp h t (List.mem_of_getElem? hj))
    match t, ht with
    | 0, _ => rfl
    | 1, _ => rfl
    | 2, _ => rfl
theorem hSet_I {G : gG} {sh : List gC} {σ : gS} {k ci n j : Nat} {fl : List Nat} (hs : sh[k]? = some (3, ci, n, fl)) (hf : fl[j]? = some 0) (x : Int32) : (hLay G sh σ).set k (G.2.1 k, .inr (ci, (fl.mapIdx (fun i t => hF G.2.1 (σ.1 k) (σ.2 k) i t)).set j (.int x))) = hLay G sh (gsI σ k j x) := by
  have hk : k < sh.length := (List.getElem?_eq_some_iff.mp hs).1
  refine hLay_set (q' := (3, ci, n, fl)) hs ?_ ?_ (fun q hq => by simp [gsI, hq]) (fun q hq => by simp [gsI, hq])
  · apply List.ext_getElem?
    intro i
    rw [List.getElem?_set]
    by_cases hi : k = i
    · subst hi
      rw [if_pos rfl, if_pos hk, hs]
    · rw [if_neg hi]
  refine congrArg (fun z => (Sum.inr (ci, z) : va_E)) ?_
  apply List.ext_getElem?
  intro q
  rw [List.getElem?_set]
  by_cases hq : j = q
  · subst hq
    have hl : j < (fl.mapIdx (fun i t => hF G.2.1 (σ.1 k) (σ.2 k) i t)).length := by rw [List.length_mapIdx]; exact (List.getElem?_eq_some_iff.mp hf).1
    rw [if_pos rfl, if_pos hl, hFl hf]
    simp [hF, gsI, upd]
  · rw [if_neg hq]
    simp only [List.getElem?_mapIdx]
    cases fl[q]? with
    | none => rfl
    | some t =>
      match t with
      | 0 =>
        have hq' : ¬ q = j := fun e => hq e.symm
        simp [hF, gsI, upd, hq']
      | 1 => rfl
      | 2 => rfl
      | t + 3 => rfl
theorem hSet_R {G : gG} {sh sh' : List gC} {σ : gS} {k ci n j t k2 : Nat} {fl fl' : List Nat} (hs : sh[k]? = some (3, ci, n, fl)) (hf : fl[j]? = some t) (hfl : fl.set j (k2 + 3) = fl') (hsh : sh' = sh.set k (3, ci, n, fl')) : (hLay G sh σ).set k (G.2.1 k, .inr (ci, (fl.mapIdx (fun i t => hF G.2.1 (σ.1 k) (σ.2 k) i t)).set j (.ref (G.2.1 k2)))) = hLay G sh' σ := by
  subst hfl
  refine hLay_set hs hsh ?_ (fun q hq => rfl) (fun q hq => rfl)
  refine congrArg (fun z => (Sum.inr (ci, z) : va_E)) ?_
  apply List.ext_getElem?
  intro q
  have hj := (List.getElem?_eq_some_iff.mp hf).1
  rw [List.getElem?_set]
  by_cases hq : j = q
  · subst hq
    rw [if_pos rfl, if_pos (by rw [List.length_mapIdx]; exact hj), hFl (t := k2 + 3) (by rw [List.getElem?_set, if_pos rfl, if_pos hj])]
    rfl
  · rw [if_neg hq]
    simp only [List.getElem?_mapIdx, List.getElem?_set, if_neg hq]
/-- the state's own words that stand for no world: rows of rows can be made; nest mates (yN: laid by program) -/
noncomputable def yK (U : State) : Prop := ((Cond.arrayOver (.array .int)).before #[] U = true ∧ (Cond.arrayOver (.array .long)).before #[] U = true) ∧ yN U
theorem yK.warm {s U : State} (hW : s.WarmedH U.vm) (h : yK s) : yK U := ⟨⟨over_moved hW.alike h.1.1, over_moved hW.alike h.1.2⟩, yN.warm hW h.2⟩
theorem yK.same {u U : State} (hvm : u.vm = U.vm) (h : yK u) : yK U := ⟨⟨over_moved (by rw [hvm]; exact Vm.Alike.refl _) h.1.1, over_moved (by rw [hvm]; exact Vm.Alike.refl _) h.1.2⟩, yN.same hvm h.2⟩
theorem yK.use {U : State} (h : yK U) {ty : FieldType} (ht : ty = .int ∨ ty = .long) (A : Array Value) : (Cond.arrayOver (.array ty)).before A U = true := by
  rcases ht with rfl | rfl
  · exact over_moved (Vm.Alike.refl _) h.1.1
  · exact over_moved (Vm.Alike.refl _) h.1.2
noncomputable def yX (M : gM) (G : gG) (cl : List vw_C) (tl : List FieldType) (cc : ByteArray) (own : String) (nL : Nat) (ws : List Cond) (rm : Room) (ret : Option FieldType) (b0 : Nat) (E : Heap → Prop) : Prop :=
  (mP M).tables.exec = Jvm.exec ∧ (mC M).code = cc ∧ (mC M).maxLocals = nL ∧ (mS M).vm.findClass own = some (mI M).cls ∧ (∀ w ∈ ws, w.before (mA M) (mS M) = true) ∧ va_K G.1 cl G.2.2.1 (mS M) ∧ (∀ k, G.2.1 k = b0 + k) ∧ G.2.2.1.map (fun q => q.2) = tl ∧ (mH M).locks = false ∧ mR M = rm ∧ (mH M).sig.returnType = ret ∧ yK (mS M) ∧ (∀ H H1 : Heap, b0 ≤ H.size → H.size ≤ H1.size → (∀ q : Nat, q < b0 → H1[q]? = H[q]?) → E H → E H1)
noncomputable def YY (M : gM) (Q : State → Prop) (G : gG) (cl : List vw_C) (b0 : Nat) (E : Heap → Prop) (sh : List gC) (nL : Nat) (σ : gS) (cells slots : Nat) (pc : Nat) (lv : List (Nat × Value)) (st : List Value) : Prop :=
  ∀ (H : Heap) (locs : List Loc) (ls : Array Slot), va_P G.1 cl (hLay G sh σ) H → H.size = b0 + sh.length → va_S (fun q => b0 ≤ q) (mS M).heap H locs → E H → lv_has ls nL lv →
    W (mP M) (mL M) (mE M) (mR M) (mS M) (mI M) (mA M) (mB M) (mH M) (mC M) H locs cells slots Q (F0 (mI M) pc ls st)
noncomputable def yPc (G : gG) (cl : List vw_C) (b0 : Nat) (av : List Value) (sh : List gC) (σ : gS) : Array Value → State → Prop := va_Pc av (fun U => va_P G.1 cl (hLay G sh σ) U.heap ∧ U.heap.size = b0 + sh.length ∧ va_K G.1 cl G.2.2.1 U ∧ yK U)
noncomputable def yB (G : gG) (cl : List vw_C) (b0 : Nat) (sh : List gC) (σ : gS) : Unit → State → Prop := fun _ t => va_P G.1 cl (hLay G sh σ) t.heap ∧ t.heap.size = b0 + sh.length
/-- a constructor's contract: with these arguments, the cells sh and their σ, it comes back with the cells sh' and σ' -/
noncomputable def yC (l : Launch) (y : MethodName) (ws : List Cond) (rm : Room) (G : gG) (cl : List vw_C) (b0 : Nat) (av : List Value) (sh : List gC) (σ : gS) (sh' : List gC) (σ' : gS) (mc ms : Nat) : Prop :=
  Met l y ws rm (yPc G cl b0 av sh σ) (va_Qv (fun _ => True) (yB G cl b0 sh' σ') (fun q => b0 ≤ q)) mc ms (fun q => b0 ≤ q)
noncomputable def yQ (M : gM) (G : gG) (cl : List vw_C) (b0 : Nat) (sh : List gC) (σ : gS) (mc ms : Nat) : State → Prop := MQ (mB M) (va_Qv (fun _ => True) (yB G cl b0 sh σ) (fun q => b0 ≤ q)) (mA M) (mS M) mc ms (fun q => b0 ≤ q)
theorem yEnter {l : Launch} {y : MethodName} {ws ws' : List Cond} {rm : Room} {cc : ByteArray} {maxL : Nat} {ret : Option FieldType} {G : gG} {cl : List vw_C} {tl : List FieldType} {b0 : Nat} {av : List Value} {lv : List (Nat × Value)} {sh sh' : List gC} {σ σ' : gS} {mc ms : Nat}
    (hy : plainName y.cls = true) (hin : y.name = "<init>") (hw : ws = Cond.code y cc maxL ret :: ws') (hb : ∀ k, G.2.1 k = b0 + k) (hT : G.2.2.1.map (fun q => q.2) = tl) (hlen : (lg_sl av).length ≤ maxL) (hlv : lv_args 0 av = lv)
    (body : ∀ M : gM, yX M G cl tl cc y.cls maxL ws rm ret b0 (fun _ => True) → mL M = l → (mH M).name = "<init>" → YY M (yQ M G cl b0 sh' σ' mc ms) G cl b0 (fun _ => True) sh maxL σ 0 0 0 lv []) :
    yC l y ws rm G cl b0 av sh σ sh' σ' mc ms := by
  refine Met.ofW (cc := cc) (maxL := maxL) (ret := ret) hy hw ?_
  intro p e s m args below meth c s₁ B hml hv
  obtain ⟨rfl, hP, hz, hK, hO⟩ := hv
  have hl := lv_entry av (n := maxL) hlen
  rw [lg_entry_eq]
  rw [hlv] at hl
  exact body (p, l, e, (headSpec ws rm).room, s, m, av.toArray, below, meth, c) ⟨B.exec, B.bytes, hml, findClass_of_methodNamed B.named, atoms_spec (ws := ws) B.pre, hK, hb, hT, B.notSynchronized, rfl, B.returns, hO, fun _ _ _ _ _ _ => trivial⟩ rfl ((name_of_methodNamed B.named B.method).1.trans hin) s.heap [] _ hP hz va_S.rf trivial hl
variable {M : gM} {Q : State → Prop} {G : gG} {cl : List vw_C} {tl : List FieldType} {cc : ByteArray} {own : String} {nL : Nat} {ws : List Cond} {rm : Room} {ret : Option FieldType} {b0 : Nat} {E : Heap → Prop} {sh : List gC} {σ : gS} {cells slots : Nat} {pc : Nat} {lv : List (Nat × Value)} {st : List Value}
theorem yy_iconst (X : yX M G cl tl cc own nL ws rm ret b0 E) {n : Int} {v : Int32} (hd : decode cc pc = .ok (.iconst n, 1)) (hv : Int32.ofInt n = v) (kk : YY M Q G cl b0 E sh nL σ cells slots (pc + 1) lv (.int v :: st)) : YY M Q G cl b0 E sh nL σ cells slots pc lv st := fun H locs ls hP hz hS hE h => lv_iconst X.1 X.2.1 hd hv (kk H locs ls hP hz hS hE h)
theorem yy_bipush (X : yX M G cl tl cc own nL ws rm ret b0 E) {n : Int} {v : Int32} (hd : decode cc pc = .ok (.bipush n, 2)) (hv : (Int8.ofInt n).toInt32 = v) (kk : YY M Q G cl b0 E sh nL σ cells slots (pc + 2) lv (.int v :: st)) : YY M Q G cl b0 E sh nL σ cells slots pc lv st := fun H locs ls hP hz hS hE h => lv_bipush X.1 X.2.1 hd hv (kk H locs ls hP hz hS hE h)
theorem yy_sipush (X : yX M G cl tl cc own nL ws rm ret b0 E) {n : Int} {v : Int32} (hd : decode cc pc = .ok (.sipush n, 3)) (hv : (Int16.ofInt n).toInt32 = v) (kk : YY M Q G cl b0 E sh nL σ cells slots (pc + 3) lv (.int v :: st)) : YY M Q G cl b0 E sh nL σ cells slots pc lv st := fun H locs ls hP hz hS hE h => lv_sipush X.1 X.2.1 hd hv (kk H locs ls hP hz hS hE h)
theorem yy_aload_n (X : yX M G cl tl cc own nL ws rm ret b0 E) {k : Fin 4} {i j x : Nat} (hd : decode cc pc = .ok (.aload_n k, 1)) (hi : (k : Nat) = i) (hl : lv[j]? = some (i, .ref x)) (kk : YY M Q G cl b0 E sh nL σ cells slots (pc + 1) lv (.ref x :: st)) : YY M Q G cl b0 E sh nL σ cells slots pc lv st := fun H locs ls hP hz hS hE h => lv_aload_n X.1 X.2.1 hd hi (lv_at h j hl) (kk H locs ls hP hz hS hE h)
theorem yy_dup (X : yX M G cl tl cc own nL ws rm ret b0 E) {v : Value} (hv : v.category = 1) (hd : decode cc pc = .ok (.dup, 1)) (kk : YY M Q G cl b0 E sh nL σ cells slots (pc + 1) lv (v :: v :: st)) : YY M Q G cl b0 E sh nL σ cells slots pc lv (v :: st) := fun H locs ls hP hz hS hE h => lv_dup X.1 X.2.1 hd hv (kk H locs ls hP hz hS hE h)
theorem yy_objInit (X : yX M G cl tl cc own nL ws rm ret b0 E) {idx a : Nat} (hl : Cond.methodLink own idx objectInit ∈ ws) (hi : Cond.instanceMethod objectInit ∈ ws) (hc : Cond.code objectInit ⟨#[0xb1]⟩ 1 none ∈ ws) (hd : decode cc pc = .ok (.invokespecial idx, 3)) (hfr : 1 ≤ rm.frames ∧ (st.map fun v => v.category).sum + 12 ≤ rm.locals) (kk : YY M Q G cl b0 E sh nL σ cells slots (pc + 3) lv st) : YY M Q G cl b0 E sh nL σ cells slots pc lv (.ref a :: st) := by
  intro H locs ls hP hz hS hE h
  refine W.objInit X.1 X.2.1 X.2.2.2.1 (X.2.2.2.2.1 _ hl) (X.2.2.2.2.1 _ hi) (X.2.2.2.2.1 _ hc) rfl (h.1.trans X.2.2.1.symm) rfl hd (by rw [X.2.2.2.2.2.2.2.2.2.1]; exact hfr.1) (by rw [X.2.2.2.2.2.2.2.2.2.1]; show 2 * 0 + _ + 12 ≤ _; rw [Nat.mul_zero, Nat.zero_add]; exact hfr.2) ?_
  exact W.eq (g2 := F0 (mI M) (pc + 3) ls st) rfl (kk H locs ls hP hz hS hE h)
theorem yy_kept {H H1 : Heap} (hb : ∀ k, G.2.1 k = b0 + k) (hP : va_P G.1 cl (hLay G sh σ) H) (o : ∀ q, q < H.size → H1[q]? = H[q]?) : va_P G.1 cl (hLay G sh σ) H1 := hP.kept (fun k x hx => o x.1 ((hP k x hx).lt))
theorem yy_S {H0 H H1 : Heap} {locs : List Loc} (hS : va_S (fun q => b0 ≤ q) H0 H locs) (hz : H.size ≤ H1.size) (o : ∀ q, q < H.size → H1[q]? = H[q]?) : va_S (fun q => b0 ≤ q) H0 H1 locs := ⟨Nat.le_trans hS.1 hz, fun x h1 h2 => (o x (Nat.lt_of_lt_of_le h1 hS.1)).trans (hS.2.1 x h1 h2), hS.2.2⟩
theorem yy_new (X : yX M G cl tl cc own nL ws rm ret b0 E) {C : String} {T : u_T} {N ci index n cells' slots' : Nat} {fl : List Nat} {sh' : List gC} (hd : decode cc pc = .ok (.new index, 3)) (hin : ∀ w ∈ u_ws C T N, w ∈ ws) (ty : Nat → FieldType) (hty : ∀ k, k < N → parseFieldDescriptor (T k).2.2.1 = some (ty k)) (hc : cl[ci]? = some (C, T, N)) (hlk : Cond.classLink own index C ∈ ws) (hinst : Cond.instantiable C N ∈ ws) (hini : Cond.initialized C ∈ ws)
    (hn : sh.length = n) (hs1 : σ.1 n = fun _ => 0) (hs2 : σ.2 n = fun _ => 0) (hfa : fl.all (fun t => decide (t ≤ 2)) = true) (hfs : ∀ j, j < N → defaultValue (ty j) = vp_V (fl.mapIdx (fun i t => hF (fun _ => 0) (fun _ => 0) (fun _ => 0) i t)) j) (hsh : sh' = sh ++ [(3, ci, 0, fl)]) (hce : cells + 1 = cells') (hsl : slots + N = slots') (hr : cells' ≤ rm.cells ∧ slots' ≤ rm.slots)
    (kk : YY M Q G cl b0 E sh' nL σ cells' slots' (pc + 3) lv (.ref (G.2.1 n) :: st)) : YY M Q G cl b0 E sh nL σ cells slots pc lv st := by
  subst hce; subst hsl; subst hsh; subst hn
  intro H locs ls hP hz hS hE h
  have hK := X.2.2.2.2.2.1
  have hb := X.2.2.2.2.2.2.1
  have hKn := hK.1 ci _ hc
  refine W.newcK X.1 X.2.1 X.2.2.2.1 (X.2.2.2.2.1 _ hlk) (X.2.2.2.2.1 _ hinst) (X.2.2.2.2.1 _ hini) rfl hd (by rw [X.2.2.2.2.2.2.2.2.2.1]; exact hr.1) (by rw [X.2.2.2.2.2.2.2.2.2.1]; exact hr.2) hKn.2.1 rfl fun H1 kC hkC e1 z1 o1 => ?_
  have ha : H.size = G.2.1 sh.length := by rw [hb, hz]
  have hgoal := kk H1 locs ls ?_ (by rw [z1, hz, List.length_append]; rfl) (yy_S hS (by omega) o1) (X.2.2.2.2.2.2.2.2.2.2.2.2 H H1 (by omega) (by omega) (fun q hq => o1 q (by omega)) hE) h
  · rw [← ha] at hgoal
    exact hgoal
  · rw [hLay_app]
    refine (yy_kept hb hP o1).app (fun k x hx => ?_)
    have hz0 : k < 1 := by
      have h9 := (List.getElem?_eq_some_iff.mp hx).1
      rw [List.length_mapIdx] at h9
      exact h9
    obtain rfl : k = 0 := by omega
    cases hx
    show va_at G.1 cl (G.2.1 (0 + sh.length), .inr (ci, fl.mapIdx (fun i t => hF G.2.1 (σ.1 (0 + sh.length)) (σ.2 (0 + sh.length)) i t))) H1
    rw [Nat.zero_add, hNew hfa hs1 hs2, ← ha]
    exact ⟨_, hc, (u_born ty X.2.2.2.2.1 hin hKn hkC e1 hty).to hfs⟩
theorem yTy (X : yX M G cl tl cc own nL ws rm ret b0 E) {t : Nat} {ty : FieldType} (h : tl[t]? = some ty) : G.2.2.1[t]? = some (gTy G t, ty) := by
  rw [← X.2.2.2.2.2.2.2.1, List.getElem?_map] at h
  cases hq : G.2.2.1[t]? with
  | none => rw [hq] at h; cases h
  | some q =>
    rw [hq] at h
    cases h
    show some q = some ((G.2.2.1.getD t (0, .int)).1, q.2)
    rw [List.getD_eq_getElem?_getD, hq]
    rfl
theorem yy_newa (X : yX M G cl tl cc own nL ws rm ret b0 E) {ki t N n cells' slots' : Nat} {atype : ArrayType} {ty : FieldType} {len : Int32} {sh' : List gC} (hd : decode cc pc = .ok (.newarray atype, 2)) (hty : newarray.typeOf atype = ty) (hp : ∀ C, ty ≠ .object C) (hy : tl[t]? = some ty) (hwa : Cond.arrayClass ty ∈ ws) (hl : ¬ len < 0) (hN : len.toNatClampNeg = N) (hbytes : N * componentBytes ty ≤ 536870912) (hn : sh.length = n) (hs1 : σ.1 n = fun _ => 0) (hs2 : σ.2 n = fun _ => 0)
    (hk : ki = 0 ∧ defaultValue ty = .int 0 ∨ ki = 1 ∧ defaultValue ty = .long 0) (hsh : sh' = sh ++ [(ki, t, N, [])]) (hce : cells + 1 = cells') (hsl : slots + N = slots') (hr : cells' ≤ rm.cells ∧ slots' ≤ rm.slots)
    (kk : YY M Q G cl b0 E sh' nL σ cells' slots' (pc + 2) lv (.ref (G.2.1 n) :: st)) : YY M Q G cl b0 E sh nL σ cells slots pc lv (.int len :: st) := by
  subst hce; subst hsl; subst hsh; subst hn; subst hty
  intro H locs ls hP hz hS hE h
  have hb := X.2.2.2.2.2.2.1
  refine va_newaK X.1 X.2.1 (X.2.2.2.2.1 _ hwa) rfl hd rfl hl hN hbytes (by rw [X.2.2.2.2.2.2.2.2.2.1]; exact hr.1) (by rw [X.2.2.2.2.2.2.2.2.2.1]; exact hr.2) rfl fun H1 cA e1 z1 o1 hAr hNm => ?_
  have ha : H.size = G.2.1 sh.length := by rw [hb, hz]
  have hcA : cA = gTy G t := by
    have h9 := (X.2.2.2.2.2.1.2 t _ (yTy X hy)).2
    have h8 : (mS M).vm.findClass ("[" ++ (newarray.typeOf atype).toString) = some (gTy G t) := by
      revert h9 hp
      cases newarray.typeOf atype <;> intro hp h9 <;> first | exact absurd rfl (hp _) | exact h9
    exact Option.some.inj (hNm.symm.trans h8)
  subst hcA
  have hgoal := kk H1 locs ls ?_ (by rw [z1, hz, List.length_append]; rfl) (yy_S hS (by omega) o1) (X.2.2.2.2.2.2.2.2.2.2.2.2 H H1 (by omega) (by omega) (fun q hq => o1 q (by omega)) hE) h
  · rw [← ha] at hgoal
    exact hgoal
  · rw [hLay_app]
    refine (yy_kept hb hP o1).app (fun k x hx => ?_)
    have hz0 : k < 1 := by
      have h9 := (List.getElem?_eq_some_iff.mp hx).1
      rw [List.length_mapIdx] at h9
      exact h9
    obtain rfl : k = 0 := by omega
    cases hx
    show va_at G.1 cl (G.2.1 (0 + sh.length), hEl G (σ.1 (0 + sh.length)) (σ.2 (0 + sh.length)) (ki, t, N, [])) H1
    rw [Nat.zero_add, hs1, hs2, ← ha]
    rcases hk with ⟨rfl, hk⟩ | ⟨rfl, hk⟩
    · rw [hk] at e1; exact e1
    · rw [hk] at e1; exact e1
theorem y_outer (c : ClassId) (N h0 : Nat) : ∀ i : Nat, Jvm.Free.Multi.outerC c N h0 i = arrV c N (fun j => if j < i then .ref (h0 + 1 + j) else .null)
  | 0 => by
    show ({ cls := c, slots := Array.replicate N .null, vm := .none } : Cell) = _
    rw [arrV_new]
    exact congrArg (arrV c N) (funext fun j => by simp)
  | i + 1 => by
    show (Jvm.Free.Multi.outerC c N h0 i).setSlot i (.ref (h0 + 1 + i)) = _
    rw [y_outer c N h0 i, arrV_store]
    refine congrArg (arrV c N) (funext fun j => ?_)
    by_cases e : j = i
    · subst e
      simp [updV]
    · by_cases h : j < i
      · simp [updV, e, h, Nat.lt_succ_of_lt h]
      · simp [updV, e, h, show ¬ j < i + 1 by omega]
theorem y_arrV {c : ClassId} {N : Nat} {f g : Nat → Value} (h : ∀ j, j < N → f j = g j) : arrV c N f = arrV c N g := by
  have e : (arrV c N f).slots = (arrV c N g).slots := by
    apply Array.ext
    · rw [arrV_size, arrV_size]
    · intro i h1 h2
      rw [arrV_size] at h1
      have a := arrV_read c f h1
      have b := arrV_read c g h1
      rw [h i h1] at a
      obtain ⟨_, a2⟩ := Array.getElem?_eq_some_iff.mp a
      obtain ⟨_, b2⟩ := Array.getElem?_eq_some_iff.mp b
      rw [a2, b2]
  unfold arrV at e ⊢
  exact congrArg (fun z => ({ cls := c, slots := z, vm := .none } : Cell)) e
theorem yy_mna (X : yX M G cl tl cc own nL ws rm ret b0 E) {ki to ti N K n index cells' slots' : Nat} {ty : FieldType} {a k : Int32} {sh' : List gC} (hd : decode cc pc = .ok (.multianewarray index 2, 4)) (ht : ty = .int ∨ ty = .long) (hyo : tl[to]? = some (.array ty)) (hyi : tl[ti]? = some ty) (hwl : Cond.classLink own index ("[" ++ (FieldType.array ty).toString) ∈ ws) (hwa : Cond.arrayClass ty ∈ ws) (ha0 : ¬ a < 0) (hk0 : ¬ k < 0) (hN : a.toNatClampNeg = N) (hKk : k.toNatClampNeg = K) (hb1 : N * 4 ≤ 536870912) (hb2 : K * componentBytes ty ≤ 536870912) (hb3 : K ≤ 536870912)
    (hn : sh.length = n) (hs1 : ∀ j, j < N + 1 → σ.1 (j + n) = fun _ => 0) (hs2 : ∀ j, j < N + 1 → σ.2 (j + n) = fun _ => 0) (hkd : ki = 0 ∧ ty = .int ∨ ki = 1 ∧ ty = .long) (hsh : sh' = sh ++ ((2, to, N, [n + 1]) :: List.replicate N (ki, ti, K, []))) (hce : cells + (1 + N) = cells') (hsl : slots + (N + N * K) = slots') (hr : cells' ≤ rm.cells ∧ slots' ≤ rm.slots)
    (kk : YY M Q G cl b0 E sh' nL σ cells' slots' (pc + 4) lv (.ref (G.2.1 n) :: st)) : YY M Q G cl b0 E sh nL σ cells slots pc lv (.int k :: .int a :: st) := by
  subst hce; subst hsl; subst hsh; subst hn; subst hN; subst hKk
  intro H locs ls hP hz hS hE h T hT Xs
  have hb := X.2.2.2.2.2.2.1
  have hdf : fits ty (defaultValue ty) = true := by rcases ht with rfl | rfl <;> rfl
  have hdd : (defaultValue ty).isDefault = true := by rcases ht with rfl | rfl <;> rfl
  obtain ⟨vm₁, cA, cy, -, fA, fC, hO, -, X', step⟩ := Xs.multianewarray2F X.1 X.2.2.2.1 (X.2.2.2.2.1 _ hwl) (X.2.2.2.2.2.2.2.2.2.2.2.1.use ht _) (X.2.2.2.2.1 _ hwa) (g := F0 (mI M) pc ls (.int k :: .int a :: st)) rfl (by rw [X.2.1]; exact hd) rfl ha0 hk0 hb1 hb2 hb3 hdf hdd (by rw [X.2.2.2.2.2.2.2.2.2.1]; exact hr.1) (by rw [X.2.2.2.2.2.2.2.2.2.1]; exact hr.2)
  generalize hF : Jvm.Free.Multi.fill (T.setVm vm₁) cA cy a.toNatClampNeg k.toNatClampNeg (defaultValue ty) a.toNatClampNeg = F at X' step
  have hTh : (T.setVm vm₁).heap = H := hT
  obtain ⟨f1, f2, -, -⟩ := Jvm.Free.Multi.fill_facts (T.setVm vm₁) cA cy a.toNatClampNeg k.toNatClampNeg (defaultValue ty) a.toNatClampNeg
  rw [hF, hTh] at f1 f2
  have hold : ∀ x : Nat, x < H.size → F.heap[x]? = H[x]? := fun x hx => by
    have := Jvm.Free.Multi.fill_old (T.setVm vm₁) cA cy a.toNatClampNeg k.toNatClampNeg (defaultValue ty) (a := x) (by rw [hTh]; exact hx) a.toNatClampNeg
    rw [hF, hTh] at this
    exact this
  have hrow : ∀ j : Nat, j < a.toNatClampNeg → F.heap[H.size + 1 + j]? = some (arrV cy k.toNatClampNeg (fun _ => defaultValue ty)) := fun j hj => by
    have := Jvm.Free.Multi.fill_inner (T.setVm vm₁) cA cy a.toNatClampNeg k.toNatClampNeg (defaultValue ty) a.toNatClampNeg j hj
    rw [hF, hTh] at this
    rw [this]
    show some ({ cls := cy, slots := Array.replicate _ _, vm := .none } : Cell) = _
    rw [arrV_new]
  have ho := (X.2.2.2.2.2.1.2 to _ (yTy X hyo)).2
  have hi := (X.2.2.2.2.2.1.2 ti _ (yTy X hyi)).2
  have hcA : cA = gTy G to := Option.some.inj (fA.symm.trans ho)
  have hcy : cy = gTy G ti := by
    have e : (FieldType.array ty).toString = "[" ++ ty.toString := rfl
    rw [e] at fC
    rcases ht with rfl | rfl <;> exact Option.some.inj (fC.symm.trans hi)
  have hsz : H.size = G.2.1 sh.length := by rw [hb, hz]
  have hP2 : va_P G.1 cl (hLay G (sh ++ ((2, to, a.toNatClampNeg, [sh.length + 1]) :: List.replicate a.toNatClampNeg (ki, ti, k.toNatClampNeg, []))) σ) F.heap := by
    rw [hLay_app]
    refine (yy_kept hb hP hold).app (fun j x hx => ?_)
    rw [List.getElem?_mapIdx] at hx
    cases j with
    | zero =>
      cases hx
      rw [Nat.zero_add]
      show F.heap[G.2.1 sh.length]? = some (vp_cell (gTy G to) (a.toNatClampNeg, .inr (.inr (.inr (.inr (fun i => some (G.2.1 (sh.length + 1 + i))))))))
      rw [← hsz, f2, y_outer, hcA, vp_cell_q]
      refine congrArg some (y_arrV fun j hj => ?_)
      rw [if_pos hj]
      have e9 : (H.size + 1 + j : Nat) = G.2.1 (sh.length + 1 + j) := by rw [hb, hz]; omega
      show Value.ref (H.size + 1 + j) = Value.ref (G.2.1 (sh.length + 1 + j))
      exact congrArg Value.ref e9
    | succ j =>
      rw [List.getElem?_cons_succ] at hx
      have hj : j < a.toNatClampNeg := by
        rcases Nat.lt_or_ge j a.toNatClampNeg with h9 | h9
        · exact h9
        · rw [List.getElem?_eq_none (by rw [List.length_replicate]; exact h9)] at hx
          cases hx
      rw [List.getElem?_replicate, if_pos hj] at hx
      cases hx
      show va_at G.1 cl (G.2.1 (j + 1 + sh.length), hEl G (σ.1 (j + 1 + sh.length)) (σ.2 (j + 1 + sh.length)) (ki, ti, k.toNatClampNeg, [])) F.heap
      rw [hs1 (j + 1) (by omega), hs2 (j + 1) (by omega)]
      have e : G.2.1 (j + 1 + sh.length) = H.size + 1 + j := by rw [hb, hz]; omega
      rw [e]
      have hr9 := hrow j hj
      rw [hcy] at hr9
      rcases hkd with ⟨rfl, rfl⟩ | ⟨rfl, rfl⟩
      · exact hr9
      · exact hr9
  have hz2 : F.heap.size = b0 + (sh ++ ((2, to, a.toNatClampNeg, [sh.length + 1]) :: List.replicate a.toNatClampNeg (ki, ti, k.toNatClampNeg, []))).length := by
    rw [f1, hz, List.length_append, List.length_cons, List.length_replicate]
    omega
  obtain ⟨t, a1, b1⟩ := kk F.heap locs ls hP2 hz2 (yy_S hS (by rw [f1]; omega) hold) (X.2.2.2.2.2.2.2.2.2.2.2.2 H F.heap (by omega) (by rw [f1]; omega) (fun q hq => hold q (by omega)) hE) h F rfl (by rw [← Nat.add_assoc, ← Nat.add_assoc]; exact X')
  refine ⟨t, step t ?_, b1⟩
  have e : T.heap.size = H.size := by rw [hT]
  rw [e, hsz]
  exact a1
theorem yy_after (X : yX M G cl tl cc own nL ws rm ret b0 E) {H H1 : Heap} (hz : H.size = b0 + sh.length) {k : Nat} (e1 : H1.size = H.size) (o : ∀ q, q ≠ G.2.1 k → H1[q]? = H[q]?) (hE : E H) : E H1 := X.2.2.2.2.2.2.2.2.2.2.2.2 H H1 (by omega) (by omega) (fun q hq => o q (by rw [X.2.2.2.2.2.2.1]; omega)) hE
theorem yy_put (X : yX M G cl tl cc own nL ws rm ret b0 E) {ref C : String} {T : u_T} {N ci index k n j : Nat} {fl : List Nat} {v : Value} {sh' : List gC} {σ' : gS} (hd : decode cc pc = .ok (.putfield index, 3)) (hin : ∀ w ∈ u_ws C T N, w ∈ ws) (ty0 : Nat → FieldType) (hty : ∀ k, k < N → parseFieldDescriptor (T k).2.2.1 = some (ty0 k)) (hnm : ∀ a, a < N → ∀ b, b < N → a ≠ b → (T a).2.1 ≠ (T b).2.1) (hs : sh[k]? = some (3, ci, n, fl)) (hc : cl[ci]? = some (C, T, N)) (hj : j < N) (hl : Cond.fieldLink own index ref (T j).2.1 (T j).2.2.1 ∈ ws) (hO : (T j).1 = ref) (hfin : (T j).2.2.2 = false) {ty : FieldType} (hpd : parseFieldDescriptor (T j).2.2.1 = some ty) (hnr : narrow ty v = v) (hfit : fits ty v = true) (hjl : j < fl.length) (hlen : sh'.length = sh.length)
    (hset : (hLay G sh σ).set k (G.2.1 k, .inr (ci, (fl.mapIdx (fun i t => hF G.2.1 (σ.1 k) (σ.2 k) i t)).set j v)) = hLay G sh' σ') (kk : YY M Q G cl b0 E sh' nL σ' cells slots (pc + 3) lv st) : YY M Q G cl b0 E sh nL σ cells slots pc lv (v :: .ref (G.2.1 k) :: st) := by
  intro H locs ls hP hz hS hE h
  have hK := X.2.2.2.2.2.1
  have hts := X.2.2.2.2.1
  have hap := va_apart (own := own) hts hin ty0 hty hnm hK hc
  have hP0 := hP
  obtain ⟨r, h1, cell, q1, q2, q3, q4⟩ := hP k _ (hLay_at hs)
  have hr : r = (C, T, N) := Option.some.inj (h1.symm.trans hc)
  subst hr
  obtain ⟨hS0, hfc, kC, hkC, hkind⟩ := hK.1 ci _ hc
  obtain ⟨cf, kf, fi, f, hi, hsl⟩ := hS0 j hj
  have hlay := hts _ (hin _ (u_in_lay hj))
  unfold u_lay at hlay
  rw [if_neg (by rw [hfin]; decide)] at hlay
  have hst := (u_facts hfc hkC (u_lays hts hin hj) hi).1
  have h6 := u_store hfc hkC hkind hlay hi hpd hnr hfit
  have hi2 : (mS M).fieldFound? ref (T j).2.1 (T j).2.2.1 = some (cf, kf, fi, f) := by rw [← hO]; exact hi
  refine W.putK X.1 X.2.1 (f := f) ⟨X.2.2.2.1, hts _ hl, ⟨_, _, _, hi2⟩, hst⟩ (by rw [q2]; exact h6) q1 q3 (by rw [hsl]; exact k2_hasslot (q4 j hj)) rfl rfl hd fun H' e1 e2 e3 => ?_
  rw [hsl] at e1 ⊢
  have hP1 := hP0.set (hD X.2.2.2.2.2.2.1 sh σ) (hLay_at hs) (show va_at G.1 cl (G.2.1 k, .inr (ci, (fl.mapIdx (fun i t => hF G.2.1 (σ.1 k) (σ.2 k) i t)).set j v)) H' from ⟨_, hc, t_OB.to (V := updV (vp_V (fl.mapIdx (fun i t => hF G.2.1 (σ.1 k) (σ.2 k) i t))) j v) ⟨_, e1, q2, q3, t_set q4 hap hj v⟩ (fun i _ => vp_updV_set (by rw [List.length_mapIdx]; exact hjl) v i)⟩) e3
  rw [hset] at hP1
  exact kk H' _ ls hP1 (by rw [e2, hz, hlen]) (hS.put e2 e3 ((hD X.2.2.2.2.2.2.1 sh σ).2 k _ (hLay_at hs))) (yy_after X hz e2 e3 hE) h
theorem yy_putF (X : yX M G cl tl cc own nL ws rm ret b0 E) (hin2 : (mH M).name = "<init>") {ref C : String} {T : u_T} {N ci index k n j : Nat} {fl : List Nat} {v : Value} {sh' : List gC} {σ' : gS} (hd : decode cc pc = .ok (.putfield index, 3)) (hin : ∀ w ∈ u_ws C T N, w ∈ ws) (ty0 : Nat → FieldType) (hty : ∀ k, k < N → parseFieldDescriptor (T k).2.2.1 = some (ty0 k)) (hnm : ∀ a, a < N → ∀ b, b < N → a ≠ b → (T a).2.1 ≠ (T b).2.1) (hs : sh[k]? = some (3, ci, n, fl)) (hc : cl[ci]? = some (C, T, N)) (hj : j < N) (hl : Cond.fieldLink own index ref (T j).2.1 (T j).2.2.1 ∈ ws) (hO : (T j).1 = ref) (hfin : (T j).2.2.2 = true) (hdecl : (T j).1 = own) {ty : FieldType} (hpd : parseFieldDescriptor (T j).2.2.1 = some ty) (hnr : narrow ty v = v) (hfit : fits ty v = true) (hjl : j < fl.length) (hlen : sh'.length = sh.length)
    (hset : (hLay G sh σ).set k (G.2.1 k, .inr (ci, (fl.mapIdx (fun i t => hF G.2.1 (σ.1 k) (σ.2 k) i t)).set j v)) = hLay G sh' σ') (kk : YY M Q G cl b0 E sh' nL σ' cells slots (pc + 3) lv st) : YY M Q G cl b0 E sh nL σ cells slots pc lv (v :: .ref (G.2.1 k) :: st) := by
  intro H locs ls hP hz hS hE h
  have hK := X.2.2.2.2.2.1
  have hts := X.2.2.2.2.1
  have hap := va_apart (own := own) hts hin ty0 hty hnm hK hc
  have hP0 := hP
  obtain ⟨r, h1, cell, q1, q2, q3, q4⟩ := hP k _ (hLay_at hs)
  have hr : r = (C, T, N) := Option.some.inj (h1.symm.trans hc)
  subst hr
  obtain ⟨hS0, hfc, kC, hkC, hkind⟩ := hK.1 ci _ hc
  obtain ⟨cf, kf, fi, f, hi, hsl⟩ := hS0 j hj
  have hlay := hts _ (hin _ (u_in_lay hj))
  unfold u_lay at hlay
  rw [if_pos hfin] at hlay
  have hst := (u_facts hfc hkC (u_lays hts hin hj) hi).1
  have hcf : (mI M).cls = cf := by
    obtain ⟨_, _, c', _, _, _, -, -, hf', -, -, -, hown2, -⟩ := Cond.laysFinal_spec hlay
    have e1 : c' = cf := by
      have := hi.symm.trans hf'
      simp at this
      exact this.1.symm
    rw [hdecl] at hown2
    rw [← e1]
    exact Option.some.inj (X.2.2.2.1.symm.trans hown2)
  have h6 := u_fits hfc hkC hkind (Or.inr hlay) hi hpd hnr hfit
  have hi2 : (mS M).fieldFound? ref (T j).2.1 (T j).2.2.1 = some (cf, kf, fi, f) := by rw [← hO]; exact hi
  refine W.putFinK X.1 X.2.1 X.2.2.2.1 (hts _ hl) hi2 hst hcf hin2 (by rw [q2]; exact h6) q1 q3 (by rw [hsl]; exact k2_hasslot (q4 j hj)) rfl rfl hd fun H' e1 e2 e3 => ?_
  rw [hsl] at e1 ⊢
  have hP1 := hP0.set (hD X.2.2.2.2.2.2.1 sh σ) (hLay_at hs) (show va_at G.1 cl (G.2.1 k, .inr (ci, (fl.mapIdx (fun i t => hF G.2.1 (σ.1 k) (σ.2 k) i t)).set j v)) H' from ⟨_, hc, t_OB.to (V := updV (vp_V (fl.mapIdx (fun i t => hF G.2.1 (σ.1 k) (σ.2 k) i t))) j v) ⟨_, e1, q2, q3, t_set q4 hap hj v⟩ (fun i _ => vp_updV_set (by rw [List.length_mapIdx]; exact hjl) v i)⟩) e3
  rw [hset] at hP1
  exact kk H' _ ls hP1 (by rw [e2, hz, hlen]) (hS.put e2 e3 ((hD X.2.2.2.2.2.2.1 sh σ).2 k _ (hLay_at hs))) (yy_after X hz e2 e3 hE) h
theorem yy_get (X : yX M G cl tl cc own nL ws rm ret b0 E) {ref C : String} {T : u_T} {N ci index k n j t : Nat} {fl : List Nat} (hd : decode cc pc = .ok (.getfield index, 3)) (hin : ∀ w ∈ u_ws C T N, w ∈ ws) (hs : sh[k]? = some (3, ci, n, fl)) (hc : cl[ci]? = some (C, T, N)) (hj : j < N) (hf : fl[j]? = some t) (hl : Cond.fieldLink own index ref (T j).2.1 (T j).2.2.1 ∈ ws) (hO : (T j).1 = ref) (kk : YY M Q G cl b0 E sh nL σ cells slots (pc + 3) lv (hF G.2.1 (σ.1 k) (σ.2 k) j t :: st)) : YY M Q G cl b0 E sh nL σ cells slots pc lv (.ref (G.2.1 k) :: st) := fun H locs ls hP hz hS hE h => va_get X.1 X.2.1 X.2.2.2.2.1 hin X.2.2.2.1 X.2.2.2.2.2.1 hP k (hLay_at hs) hc j hj (X.2.2.2.2.1 _ hl) (fun x hx => by rw [← hO]; exact hx) (hFl hf) hd (kk H locs ls hP hz hS hE h)
theorem yy_cast (X : yX M G cl tl cc own nL ws rm ret b0 E) {i x v : Int32} {k t n i' : Nat} {r : List Nat} {σ' : gS} (hd : decode cc pc = .ok (.castore, 1)) (hs : sh[k]? = some (0, t, n, r)) (hy : tl[t]? = some .char) (hb : ¬ (i < 0 ∨ n ≤ i.toNatClampNeg)) (hi : i.toNatClampNeg = i') (hv : narrow .char (.int x) = .int v) (hσ : σ' = gsI σ k i' v) (kk : YY M Q G cl b0 E sh nL σ' cells slots (pc + 1) lv st) : YY M Q G cl b0 E sh nL σ cells slots pc lv (.int x :: .int i :: .ref (G.2.1 k) :: st) := by
  subst hi; subst hσ
  intro H locs ls hP hz hS hE h
  have hk : k < sh.length := (List.getElem?_eq_some_iff.mp hs).1
  refine W.cast X.1 X.2.1 (hP k _ (hLay_at hs)) ((X.2.2.2.2.2.1.2 t _ (yTy X hy)).1 n (fun j => .int (σ.1 k j))) (fun q => by cases q) (by show ¬ (i < 0 ∨ (arrV _ _ _).slots.size ≤ _); rw [arrV_size]; exact hb) rfl rfl hd fun H1 e z oq => ?_
  have hset : (hLay G sh σ).set k (G.2.1 k, .inl (gTy G t, n, .inl (upd (σ.1 k) i.toNatClampNeg v))) = hLay G sh (gsI σ k i.toNatClampNeg v) := by
    refine hLay_set (q' := (0, t, n, r)) hs ?_ (by simp [hEl, gsI]) (fun q hq => by simp [gsI, hq]) (fun q hq => by simp [gsI, hq])
    apply List.ext_getElem?
    intro q
    rw [List.getElem?_set]
    by_cases hq : k = q
    · subst hq
      rw [if_pos rfl, if_pos hk, hs]
    · rw [if_neg hq]
  have hP1 : va_P G.1 cl ((hLay G sh σ).set k (G.2.1 k, .inl (gTy G t, n, .inl (upd (σ.1 k) i.toNatClampNeg v)))) H1 := by
    refine hP.set (hD X.2.2.2.2.2.2.1 sh σ) (hLay_at hs) ?_ oq
    show H1[G.2.1 k]? = some (vp_cell _ _)
    rw [e, hv]
    show some ((arrV (gTy G t) n (fun j => .int (σ.1 k j))).setSlot _ _) = _
    rw [vp_cell_i, arrV_store]
    congr 2
    funext q
    by_cases hq : q = i.toNatClampNeg
    · subst hq
      simp [updV, upd]
    · simp [updV, upd, hq]
  rw [hset] at hP1
  exact kk H1 _ ls hP1 (by rw [z, hz]) (hS.put z oq ((hD X.2.2.2.2.2.2.1 sh σ).2 k _ (hLay_at hs))) (yy_after X hz z oq hE) h
theorem yBlind (av : List Value) : FrameBlind (yPc G cl b0 av sh σ) := fun a U g mk q => by
  obtain ⟨h1, h2, h3, h4, h5⟩ := q
  exact ⟨h1, h2, h3, va_K.moved (u := U) (U := U.calling g mk a) (Vm.Alike.refl U.vm) h4, yK.same (u := U) (U := U.calling g mk a) rfl h5⟩
theorem yy_callI (X : yX M G cl tl cc own nL ws rm ret b0 E) {y : MethodName} {bytes : ByteArray} {maxL n index k mc ms cells' slots' : Nat} {wsy ws' : List Cond} {rmy : Room} {As rest : List Value} {sh' : List gC} {σ' : gS} (hd : decode cc pc = .ok (.invokespecial index, 3)) (hM : yC (mL M) y wsy rmy G cl b0 (.ref (G.2.1 k) :: As) sh σ sh' σ' mc ms) (hw : wsy = Cond.code y bytes maxL none :: ws') (hT : GoodIn ws wsy) (hini : Cond.initialized y.cls ∈ ws) (hlk : Cond.methodLink own index y ∈ ws) (hins : Cond.instanceMethod y ∈ ws) (hy1 : y.name = "<init>") (hy : y.cls ≠ "java/lang/invoke/MethodHandle" ∧ y.cls ≠ "java/lang/invoke/VarHandle" ∧ (parseMethodDescriptor y.desc).map (fun d => d.parameters.length) = some n) (hrc : rmy.cells = mc ∧ rmy.slots = ms) (hfr : rmy.frames + 1 ≤ rm.frames ∧ 8 + (maxL + 11) + rmy.locals ≤ rm.locals) (hn : As.length = n) (hst : st = As.reverse ++ .ref (G.2.1 k) :: rest) (hcat : (rest.map fun v => v.category).sum ≤ 8) (hce : cells + mc = cells') (hsl : slots + ms = slots') (hr : cells' ≤ rm.cells ∧ slots' ≤ rm.slots)
    (kk : YY M Q G cl b0 E sh' nL σ' cells' slots' (pc + 3) lv rest) : YY M Q G cl b0 E sh nL σ cells slots pc lv st := by
  subst hce; subst hsl
  intro H locs ls hP hz hS hE h
  refine va_callv (va_runI (As := As) (rest := rest) ⟨X.1, X.2.1, X.2.2.1, X.2.2.2.1, X.2.2.2.2.1⟩ hM (cwI n X.2.2.2.2.1 hT hw hrc.1 hrc.2 (X.2.2.2.2.1 _ hini) (X.2.2.2.2.1 _ hlk) (X.2.2.2.2.1 _ hins) hy1 hy (by rw [X.2.2.2.2.2.2.2.2.2.1]; exact hfr)) ⟨yBlind _, fun U hU hW => ⟨rfl, by rw [hU]; exact hP, by rw [hU]; exact hz, va_K.moved hW.alike X.2.2.2.2.2.1, yK.warm hW X.2.2.2.2.2.2.2.2.2.2.2.1⟩⟩ rfl hn h.1 hst (lv_room hcat) hd (by rw [X.2.2.2.2.2.2.2.2.2.1]; exact hr)) hS (fun q _ h => h) (fun q h => h) (fun u t H1 locs1 ht hvm hw9 hB hz1 hk hS1 => ?_)
  obtain ⟨hB1, hB2⟩ := hB
  rw [ht] at hB1 hB2
  exact kk H1 locs1 ls hB1 hB2 hS1 (X.2.2.2.2.2.2.2.2.2.2.2.2 H H1 (by omega) hz1 (fun q hq => hk q (by omega) (by omega)) hE) h
theorem yy_callN (X : yX M G cl tl cc own nL ws rm ret b0 E) {y : MethodName} {host : String} {bytes : ByteArray} {maxL n index k mc ms cells' slots' : Nat} {wsy ws' : List Cond} {rmy : Room} {As rest : List Value} {sh' : List gC} {σ' : gS} (hd : decode cc pc = .ok (.invokespecial index, 3)) (hM : yC (mL M) y wsy rmy G cl b0 (.ref (G.2.1 k) :: As) sh σ sh' σ' mc ms) (hw : wsy = Cond.code y bytes maxL none :: ws') (hT : GoodIn ws wsy) (hini : Cond.initialized y.cls ∈ ws) (hlk : va_Nw (.methodLinkNest own index y host) (mS M)) (hins : Cond.instanceMethod y ∈ ws) (hy1 : y.name = "<init>") (hy : y.cls ≠ "java/lang/invoke/MethodHandle" ∧ y.cls ≠ "java/lang/invoke/VarHandle" ∧ (parseMethodDescriptor y.desc).map (fun d => d.parameters.length) = some n) (hrc : rmy.cells = mc ∧ rmy.slots = ms) (hfr : rmy.frames + 1 ≤ rm.frames ∧ 8 + (maxL + 11) + rmy.locals ≤ rm.locals) (hn : As.length = n) (hst : st = As.reverse ++ .ref (G.2.1 k) :: rest) (hcat : (rest.map fun v => v.category).sum ≤ 8) (hce : cells + mc = cells') (hsl : slots + ms = slots') (hr : cells' ≤ rm.cells ∧ slots' ≤ rm.slots)
    (kk : YY M Q G cl b0 E sh' nL σ' cells' slots' (pc + 3) lv rest) : YY M Q G cl b0 E sh nL σ cells slots pc lv st := by
  subst hce; subst hsl
  intro H locs ls hP hz hS hE h
  refine va_callv (va_runIN (As := As) (rest := rest) ⟨X.1, X.2.1, X.2.2.1, X.2.2.2.1, X.2.2.2.2.1⟩ hM ⟨va_cnB n X.2.2.2.2.1 hT hw hrc.1 hrc.2 hlk (X.2.2.2.2.1 _ hini) hy (by rw [X.2.2.2.2.2.2.2.2.2.1]; exact hfr), hy1, X.2.2.2.2.1 _ hins⟩ ⟨yBlind _, fun U hU hW => ⟨rfl, by rw [hU]; exact hP, by rw [hU]; exact hz, va_K.moved hW.alike X.2.2.2.2.2.1, yK.warm hW X.2.2.2.2.2.2.2.2.2.2.2.1⟩⟩ rfl hn h.1 hst (lv_room hcat) hd (by rw [X.2.2.2.2.2.2.2.2.2.1]; exact hr)) hS (fun q _ h => h) (fun q h => h) (fun u t H1 locs1 ht hvm hw9 hB hz1 hk hS1 => ?_)
  obtain ⟨hB1, hB2⟩ := hB
  rw [ht] at hB1 hB2
  exact kk H1 locs1 ls hB1 hB2 hS1 (X.2.2.2.2.2.2.2.2.2.2.2.2 H H1 (by omega) hz1 (fun q hq => hk q (by omega) (by omega)) hE) h
theorem yy_ret (X : yX M G cl tl cc own nL ws rm none b0 E) (hd : decode cc pc = .ok (.return_, 1)) : YY M (yQ M G cl b0 sh σ cells slots) G cl b0 E sh nL σ cells slots pc lv [] := by
  intro H locs ls hP hz hS hE h
  exact W.vret X.1 X.2.1 X.2.2.2.2.2.2.2.2.2.2.1 (fun t ht _ => ⟨⟨(), rfl, trivial, by rw [ht]; exact hP, by rw [ht]; exact hz⟩, hS.F ht⟩) hS.2.2 hd X.2.2.2.2.2.2.2.2.1
/-- behind the constructors: the growing world is a world by numbers -/
noncomputable def hConv (q : gC) : gC := if q.1 = 3 then (3, q.2.1, q.2.2.1, q.2.2.2.map (fun t => if 3 ≤ t then t - 1 else t)) else q
noncomputable def hOk (q : gC) : Bool := decide (q.1 ≤ 2) || (decide (q.1 = 3) && q.2.2.2.all (fun t => decide (t ≠ 2)))
theorem hEl_conv {f : Nat → Int32} {g : Nat → Int64} {q : gC} (h : hOk q = true) : hEl G f g q = gEl G f g (hConv q) := by
  obtain ⟨k, c, n, fl⟩ := q
  match k with
  | 0 => rfl
  | 1 => rfl
  | 2 => rfl
  | 3 =>
    have hall : fl.all (fun t => decide (t ≠ 2)) = true := by simpa [hOk] using h
    show (Sum.inr (c, fl.mapIdx (fun i t => hF G.2.1 f g i t)) : va_E) = Sum.inr (c, (fl.map (fun t => if 3 ≤ t then t - 1 else t)).mapIdx (fun i t => gF G.2.1 f g i t))
    refine congrArg (fun z => (Sum.inr (c, z) : va_E)) ?_
    apply List.ext_getElem?
    intro j
    simp only [List.getElem?_mapIdx, List.getElem?_map]
    cases hj : fl[j]? with
    | none => rfl
    | some t =>
      have ht : t ≠ 2 := of_decide_eq_true (List.all_eq_true.mp hall t (List.mem_of_getElem? hj))
      match t, ht with
      | 0, _ => rfl
      | 1, _ => rfl
      | 2, ht => exact absurd rfl ht
      | t + 3, _ =>
        have e : (if 3 ≤ t + 3 then t + 3 - 1 else t + 3) = t + 2 := by rw [if_pos (by omega)]; omega
        show some (hF G.2.1 f g j (t + 3)) = some (gF G.2.1 f g j (if 3 ≤ t + 3 then t + 3 - 1 else t + 3))
        rw [e]
        rfl
  | k + 4 => simp [hOk] at h
theorem hLay_conv {sh2 : List gC} (h : sh.all hOk = true) (h2 : sh.map hConv = sh2) : hLay G sh σ = gLay G sh2 σ := by
  subst h2
  apply List.ext_getElem?
  intro j
  unfold hLay gLay
  rw [List.getElem?_mapIdx, List.getElem?_mapIdx, List.getElem?_map]
  cases hj : sh[j]? with
  | none => rfl
  | some q =>
    show some (G.2.1 j, hEl G (σ.1 j) (σ.2 j) q) = some (G.2.1 j, gEl G (σ.1 j) (σ.2 j) (hConv q))
    rw [hEl_conv (List.all_eq_true.mp h q (List.mem_of_getElem? hj))]
noncomputable def s00 : gS := (fun _ _ => 0, fun _ _ => 0)
/-- from the cell n on nothing has been written -/
noncomputable def Zr (σ : gS) (n : Nat) : Prop := ∀ a, n ≤ a → σ.1 a = (fun _ => 0) ∧ σ.2 a = fun _ => 0
theorem Zr_mono {σ : gS} {n m : Nat} (h : Zr σ n) (hm : n ≤ m) : Zr σ m := fun a ha => h a (Nat.le_trans hm ha)
theorem Zr_I {σ : gS} {n k i : Nat} {x : Int32} (h : Zr σ n) (hk : k < n) : Zr (gsI σ k i x) n := fun a ha => by
  have hne : ¬ a = k := by omega
  refine ⟨?_, (h a ha).2⟩
  show (if a = k then _ else σ.1 a) = _
  rw [if_neg hne]
  exact (h a ha).1
end YY
