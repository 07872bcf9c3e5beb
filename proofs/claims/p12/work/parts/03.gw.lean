/-! A WORLD BY NUMBERS: all cells of one side stand in one list (its shape is fixed once its constructor is through); what they hold is two functions, ints and longs by cell and place. WW: the machine, at an instruction, with such a world, locals and stack, comes to its end. -/
section GW
abbrev gS : Type := (Nat → Nat → Int32) × (Nat → Nat → Int64)
def gsI (σ : gS) (k i : Nat) (x : Int32) : gS := (fun a => if a = k then upd (σ.1 a) i x else σ.1 a, σ.2)
def gsL (σ : gS) (k i : Nat) (x : Int64) : gS := (σ.1, fun a => if a = k then vp_updL (σ.2 a) i x else σ.2 a)
theorem gsI_1 (σ : gS) (k i : Nat) (x : Int32) (a j : Nat) : (gsI σ k i x).1 a j = if a = k ∧ j = i then x else σ.1 a j := by
  unfold gsI
  by_cases h : a = k
  · by_cases h2 : j = i <;> simp [h, h2, upd]
  · simp [h]
theorem gsI_2 (σ : gS) (k i : Nat) (x : Int32) : (gsI σ k i x).2 = σ.2 := rfl
theorem gsL_1 (σ : gS) (k i : Nat) (x : Int64) : (gsL σ k i x).1 = σ.1 := rfl
theorem gsL_2 (σ : gS) (k i : Nat) (x : Int64) (a j : Nat) : (gsL σ k i x).2 a j = if a = k ∧ j = i then x else σ.2 a j := by
  unfold gsL
  by_cases h : a = k
  · by_cases h2 : j = i <;> simp [h, h2, vp_updL]
  · simp [h]
/-- a cell's shape: 0 ints (type, length), 1 longs, 2 rows (type, length, the first row's cell), 3 an object (class, -, its fields: 0 an int, 1 a long, k + 2 the cell k) -/
abbrev gC : Type := Nat × Nat × Nat × List Nat
/-- where the tables stand, where each cell stands, the classes of the arrays, and what else holds (of constants, nest mates) -/
abbrev gG : Type := va_G × (Nat → Nat) × List (ClassId × FieldType) × (State → Prop)
/-- the shape of a world: its cells, the types of its arrays, the classes -/
abbrev gZ : Type := List gC × List FieldType × List vw_C
def gF (ad : Nat → Nat) (f : Nat → Int32) (g : Nat → Int64) (i : Nat) : Nat → Value
  | 0 => .int (f i)
  | 1 => .long (g i)
  | k + 2 => .ref (ad k)
def gTy (G : gG) (t : Nat) : ClassId := (G.2.2.1.getD t (0, .int)).1
def gEl (G : gG) (f : Nat → Int32) (g : Nat → Int64) (q : gC) : va_E := match q.1 with
  | 0 => .inl (gTy G q.2.1, q.2.2.1, .inl f)
  | 1 => .inl (gTy G q.2.1, q.2.2.1, .inr (.inl g))
  | 2 => .inl (gTy G q.2.1, q.2.2.1, .inr (.inr (.inr (.inr (fun i => some (G.2.1 (q.2.2.2.headD 0 + i)))))))
  | _ => .inr (q.2.1, q.2.2.2.mapIdx (fun i t => gF G.2.1 f g i t))
def gLay (G : gG) (sh : List gC) (σ : gS) : va_W := sh.mapIdx (fun k q => (G.2.1 k, gEl G (σ.1 k) (σ.2 k) q))
theorem gLay_at {G : gG} {sh : List gC} {σ : gS} {k : Nat} {q : gC} (h : sh[k]? = some q) : (gLay G sh σ)[k]? = some (G.2.1 k, gEl G (σ.1 k) (σ.2 k) q) := by
  simp [gLay, List.getElem?_mapIdx, h]
theorem gLay_len (G : gG) (sh : List gC) (σ : gS) : (gLay G sh σ).length = sh.length := by simp [gLay]
theorem gLay_set {G : gG} {sh : List gC} {σ σ' : gS} {k : Nat} {q : gC} {e : va_E} (h : sh[k]? = some q) (he : gEl G (σ'.1 k) (σ'.2 k) q = e) (h1 : ∀ j, j ≠ k → σ'.1 j = σ.1 j) (h2 : ∀ j, j ≠ k → σ'.2 j = σ.2 j) : (gLay G sh σ).set k (G.2.1 k, e) = gLay G sh σ' := by
  apply List.ext_getElem?
  intro j
  rw [List.getElem?_set]
  by_cases hj : k = j
  · subst hj
    have hl : k < (gLay G sh σ).length := (List.getElem?_eq_some_iff.mp (gLay_at (G := G) (σ := σ) h)).1
    rw [if_pos rfl, if_pos hl, gLay_at h, he]
  · rw [if_neg hj]
    simp only [gLay, List.getElem?_mapIdx]
    rw [h1 j (fun e => hj e.symm), h2 j (fun e => hj e.symm)]
def gA (G : gG) (sh : List gC) : Nat → Prop := fun q => ∃ k, k < sh.length ∧ q = G.2.1 k
/-- the cells are apart; what else holds stays while nothing but them is written -/
def gOK (G : gG) (sh : List gC) : Prop := (∀ i j, i < sh.length → j < sh.length → G.2.1 i = G.2.1 j → i = j) ∧ (∀ s U : State, s.WarmedH U.vm → s.heap.size ≤ U.heap.size → (∀ q : Nat, q < s.heap.size → ¬ gA G sh q → U.heap[q]? = s.heap[q]?) → G.2.2.2 s → G.2.2.2 U) ∧ ∀ s U : State, U.vm = s.vm → U.heap = s.heap → G.2.2.2 s → G.2.2.2 U
theorem gLay_inv {G : gG} {sh : List gC} {σ : gS} {k : Nat} {x : Nat × va_E} (h : (gLay G sh σ)[k]? = some x) : k < sh.length ∧ x.1 = G.2.1 k := by
  have hl := (List.getElem?_eq_some_iff.mp h).1
  rw [gLay_len] at hl
  refine ⟨hl, ?_⟩
  rw [gLay_at (List.getElem?_eq_getElem hl)] at h
  cases h
  rfl
theorem gD {G : gG} {sh : List gC} (h : gOK G sh) (σ : gS) : va_D (gA G sh) (gLay G sh σ) := by
  refine ⟨fun i j p q hp hq e => ?_, fun k q hq => ?_⟩
  · obtain ⟨a1, a2⟩ := gLay_inv hp
    obtain ⟨b1, b2⟩ := gLay_inv hq
    exact h.1 i j a1 b1 (by rw [← a2, ← b2, e])
  · obtain ⟨a1, a2⟩ := gLay_inv hq
    exact ⟨k, a1, a2⟩
/-- what a method's run has fixed -/
abbrev gM : Type := Program × Launch × Env × Room × State × MethodId × Array Value × List Frame × Method × Code
abbrev mP (M : gM) : Program := M.1
abbrev mL (M : gM) : Launch := M.2.1
abbrev mE (M : gM) : Env := M.2.2.1
abbrev mR (M : gM) : Room := M.2.2.2.1
abbrev mS (M : gM) : State := M.2.2.2.2.1
abbrev mI (M : gM) : MethodId := M.2.2.2.2.2.1
abbrev mA (M : gM) : Array Value := M.2.2.2.2.2.2.1
abbrev mB (M : gM) : List Frame := M.2.2.2.2.2.2.2.1
abbrev mH (M : gM) : Method := M.2.2.2.2.2.2.2.2.1
abbrev mC (M : gM) : Code := M.2.2.2.2.2.2.2.2.2
def WW (M : gM) (Q : State → Prop) (G : gG) (Z : gZ) (nL : Nat) (σ : gS) (pc : Nat) (lv : List (Nat × Value)) (st : List Value) : Prop :=
  ∀ (H : Heap) (locs : List Loc) (ls : Array Slot), va_P G.1 Z.2.2 (gLay G Z.1 σ) H → va_S (gA G Z.1) (mS M).heap H locs → lv_has ls nL lv →
    W (mP M) (mL M) (mE M) (mR M) (mS M) (mI M) (mA M) (mB M) (mH M) (mC M) H locs 0 0 Q (F0 (mI M) pc ls st)
def gX (M : gM) (G : gG) (Z : gZ) (cc : ByteArray) (own : String) (nL : Nat) (ws : List Cond) (rm : Room) (ret : Option FieldType) : Prop :=
  (mP M).tables.exec = Jvm.exec ∧ (mC M).code = cc ∧ (mC M).maxLocals = nL ∧ (mS M).vm.findClass own = some (mI M).cls ∧ (∀ w ∈ ws, w.before (mA M) (mS M) = true) ∧ va_K G.1 Z.2.2 G.2.2.1 (mS M) ∧ gOK G Z.1 ∧ G.2.2.1.map (fun q => q.2) = Z.2.1 ∧ (mH M).locks = false ∧ mR M = rm ∧ (mH M).sig.returnType = ret ∧ G.2.2.2 (mS M)
/-- the contract of a method: from the world σ, with the arguments av, it answers r, and the world is σ' -/
def gPc (G : gG) (Z : gZ) (av : List Value) (σ : gS) : Array Value → State → Prop := va_Pc av (fun U => va_P G.1 Z.2.2 (gLay G Z.1 σ) U.heap ∧ va_K G.1 Z.2.2 G.2.2.1 U ∧ G.2.2.2 U)
def gB (G : gG) (Z : gZ) : gS → State → Prop := fun u t => va_P G.1 Z.2.2 (gLay G Z.1 u) t.heap
def gCi (l : Launch) (y : MethodName) (ws : List Cond) (rm : Room) (G : gG) (Z : gZ) (av : List Value) (σ : gS) (r : Int32) (σ' : gS) : Prop :=
  Met l y ws rm (gPc G Z av σ) (va_Qi (fun r' u => r' = r ∧ u = σ') (gB G Z) (gA G Z.1)) 0 0 (gA G Z.1)
def gCl (l : Launch) (y : MethodName) (ws : List Cond) (rm : Room) (G : gG) (Z : gZ) (av : List Value) (σ : gS) (r : Int64) (σ' : gS) : Prop :=
  Met l y ws rm (gPc G Z av σ) (va_Ql (fun r' u => r' = r ∧ u = σ') (gB G Z) (gA G Z.1)) 0 0 (gA G Z.1)
def gCv (l : Launch) (y : MethodName) (ws : List Cond) (rm : Room) (G : gG) (Z : gZ) (av : List Value) (σ : gS) (σ' : gS) : Prop :=
  Met l y ws rm (gPc G Z av σ) (va_Qv (fun u => u = σ') (gB G Z) (gA G Z.1)) 0 0 (gA G Z.1)
def gQi (M : gM) (G : gG) (Z : gZ) (r : Int32) (σ' : gS) : State → Prop := MQ (mB M) (va_Qi (fun r' u => r' = r ∧ u = σ') (gB G Z) (gA G Z.1)) (mA M) (mS M) 0 0 (gA G Z.1)
def gQl (M : gM) (G : gG) (Z : gZ) (r : Int64) (σ' : gS) : State → Prop := MQ (mB M) (va_Ql (fun r' u => r' = r ∧ u = σ') (gB G Z) (gA G Z.1)) (mA M) (mS M) 0 0 (gA G Z.1)
def gQv (M : gM) (G : gG) (Z : gZ) (σ' : gS) : State → Prop := MQ (mB M) (va_Qv (fun u => u = σ') (gB G Z) (gA G Z.1)) (mA M) (mS M) 0 0 (gA G Z.1)
theorem gEnter {l : Launch} {y : MethodName} {ws ws' : List Cond} {rm : Room} {cc : ByteArray} {maxL : Nat} {ret : Option FieldType} {G : gG} {Z : gZ} {av : List Value} {lv : List (Nat × Value)} {σ : gS} {Qc : Array Value → State → Outcome → State → Prop}
    (hy : plainName y.cls = true) (hw : ws = Cond.code y cc maxL ret :: ws') (hrc : rm.cells = 0 ∧ rm.slots = 0) (hG : gOK G Z.1) (hT : G.2.2.1.map (fun q => q.2) = Z.2.1) (hlen : (lg_sl av).length ≤ maxL) (hlv : lv_args 0 av = lv)
    (body : ∀ M : gM, gX M G Z cc y.cls maxL ws rm ret → mL M = l → WW M (MQ (mB M) Qc (mA M) (mS M) 0 0 (gA G Z.1)) G Z maxL σ 0 lv []) :
    Met l y ws rm (gPc G Z av σ) Qc 0 0 (gA G Z.1) := by
  refine Met.ofW (cc := cc) (maxL := maxL) (ret := ret) hy hw ?_
  intro p e s m args below meth c s₁ B hml hv
  obtain ⟨rfl, hP, hK, hE⟩ := hv
  have hl := lv_entry av (n := maxL) hlen
  rw [lg_entry_eq]
  rw [hlv] at hl
  exact body (p, l, e, (headSpec ws rm).room, s, m, av.toArray, below, meth, c) ⟨B.exec, B.bytes, hml, findClass_of_methodNamed B.named, atoms_spec (ws := ws) B.pre, hK, hG, hT, B.notSynchronized, rfl, B.returns, hE⟩ rfl s.heap [] _ hP va_S.rf hl
end GW
section GR
variable {M : gM} {Q : State → Prop} {G : gG} {Z : gZ} {cc : ByteArray} {own : String} {nL : Nat} {ws : List Cond} {rm : Room} {ret : Option FieldType} {σ : gS} {pc : Nat} {lv : List (Nat × Value)} {st : List Value} {α : Type} {out : α}
def nm {β γ : Type} (v : β) (E : β → γ) : γ := E v
def gd {β : Type} (b : Bool) (E : Option β) : Option β := match b with
  | true => E
  | false => none
def gb (i : Int32) (n : Nat) : Bool := decide (¬ (i < 0 ∨ n ≤ i.toNatClampNeg))
theorem gb_in {i : Int32} {n : Nat} (h : gb i n = true) : vp_in i n := by
  unfold gb at h
  unfold vp_in
  exact of_decide_eq_true h
theorem gd_some {β : Type} {b : Bool} {E : Option β} {o : β} (h : gd b E = some o) : b = true ∧ E = some o := by
  cases b with
  | true => exact ⟨rfl, h⟩
  | false => cases h
theorem ww_sub (ks : List Nat) {lv' : List (Nat × Value)} (hl : lv_pick lv ks = lv') (kk : WW M Q G Z nL σ pc lv' st) : WW M Q G Z nL σ pc lv st := fun H locs ls hP hS hv => kk H locs ls hP hS (lv_sub hv ks hl)
theorem ww_iconst (X : gX M G Z cc own nL ws rm ret) {n : Int} {v : Int32} (hd : decode cc pc = .ok (.iconst n, 1)) (hv : Int32.ofInt n = v) (kk : WW M Q G Z nL σ (pc + 1) lv (.int v :: st)) : WW M Q G Z nL σ pc lv st := fun H locs ls hP hS h => lv_iconst X.1 X.2.1 hd hv (kk H locs ls hP hS h)
theorem ww_bipush (X : gX M G Z cc own nL ws rm ret) {n : Int} {v : Int32} (hd : decode cc pc = .ok (.bipush n, 2)) (hv : (Int8.ofInt n).toInt32 = v) (kk : WW M Q G Z nL σ (pc + 2) lv (.int v :: st)) : WW M Q G Z nL σ pc lv st := fun H locs ls hP hS h => lv_bipush X.1 X.2.1 hd hv (kk H locs ls hP hS h)
theorem ww_sipush (X : gX M G Z cc own nL ws rm ret) {n : Int} {v : Int32} (hd : decode cc pc = .ok (.sipush n, 3)) (hv : (Int16.ofInt n).toInt32 = v) (kk : WW M Q G Z nL σ (pc + 3) lv (.int v :: st)) : WW M Q G Z nL σ pc lv st := fun H locs ls hP hS h => lv_sipush X.1 X.2.1 hd hv (kk H locs ls hP hS h)
theorem ww_lconst (X : gX M G Z cc own nL ws rm ret) {n : Fin 2} {v : Int64} (hd : decode cc pc = .ok (.lconst n, 1)) (hv : Int64.ofNat (n : Nat) = v) (kk : WW M Q G Z nL σ (pc + 1) lv (.long v :: st)) : WW M Q G Z nL σ pc lv st := fun H locs ls hP hS h => lv_lconst X.1 X.2.1 hd hv (kk H locs ls hP hS h)
theorem ww_ldc (X : gX M G Z cc own nL ws rm ret) {index : Nat} {v : Int32} (hc : Jvm.Cond.constant own index v ∈ ws) (hd : decode cc pc = .ok (.ldc index, 2)) (kk : WW M Q G Z nL σ (pc + 2) lv (.int v :: st)) : WW M Q G Z nL σ pc lv st := fun H locs ls hP hS h => lv_ldc X.1 X.2.1 X.2.2.2.1 (X.2.2.2.2.1 _ hc) hd (kk H locs ls hP hS h)
theorem ww_ldc2 (X : gX M G Z cc own nL ws rm ret) {index : Nat} {v : Int64} (hc : Jvm.Cond.constantLong own index v ∈ ws) (hd : decode cc pc = .ok (.ldc2_w index, 3)) (kk : WW M Q G Z nL σ (pc + 3) lv (.long v :: st)) : WW M Q G Z nL σ pc lv st := fun H locs ls hP hS h => lv_ldc2 X.1 X.2.1 X.2.2.2.1 (X.2.2.2.2.1 _ hc) hd (kk H locs ls hP hS h)
theorem ww_iload_n (X : gX M G Z cc own nL ws rm ret) {k : Fin 4} {i j : Nat} {x : Int32} (hd : decode cc pc = .ok (.iload_n k, 1)) (hi : (k : Nat) = i) (hl : lv[j]? = some (i, .int x)) (kk : WW M Q G Z nL σ (pc + 1) lv (.int x :: st)) : WW M Q G Z nL σ pc lv st := fun H locs ls hP hS h => lv_iload_n X.1 X.2.1 hd hi (lv_at h j hl) (kk H locs ls hP hS h)
theorem ww_iload (X : gX M G Z cc own nL ws rm ret) {i j : Nat} {x : Int32} (hd : decode cc pc = .ok (.iload i, 2)) (hl : lv[j]? = some (i, .int x)) (kk : WW M Q G Z nL σ (pc + 2) lv (.int x :: st)) : WW M Q G Z nL σ pc lv st := fun H locs ls hP hS h => lv_iload X.1 X.2.1 hd (lv_at h j hl) (kk H locs ls hP hS h)
theorem ww_lload_n (X : gX M G Z cc own nL ws rm ret) {k : Fin 4} {i j : Nat} {x : Int64} (hd : decode cc pc = .ok (.lload_n k, 1)) (hi : (k : Nat) = i) (hl : lv[j]? = some (i, .long x)) (kk : WW M Q G Z nL σ (pc + 1) lv (.long x :: st)) : WW M Q G Z nL σ pc lv st := fun H locs ls hP hS h => lv_lload_n X.1 X.2.1 hd hi (lv_at h j hl) (kk H locs ls hP hS h)
theorem ww_lload (X : gX M G Z cc own nL ws rm ret) {i j : Nat} {x : Int64} (hd : decode cc pc = .ok (.lload i, 2)) (hl : lv[j]? = some (i, .long x)) (kk : WW M Q G Z nL σ (pc + 2) lv (.long x :: st)) : WW M Q G Z nL σ pc lv st := fun H locs ls hP hS h => lv_lload X.1 X.2.1 hd (lv_at h j hl) (kk H locs ls hP hS h)
theorem ww_aload_n (X : gX M G Z cc own nL ws rm ret) {k : Fin 4} {i j x : Nat} (hd : decode cc pc = .ok (.aload_n k, 1)) (hi : (k : Nat) = i) (hl : lv[j]? = some (i, .ref x)) (kk : WW M Q G Z nL σ (pc + 1) lv (.ref x :: st)) : WW M Q G Z nL σ pc lv st := fun H locs ls hP hS h => lv_aload_n X.1 X.2.1 hd hi (lv_at h j hl) (kk H locs ls hP hS h)
theorem ww_aload (X : gX M G Z cc own nL ws rm ret) {i j x : Nat} (hd : decode cc pc = .ok (.aload i, 2)) (hl : lv[j]? = some (i, .ref x)) (kk : WW M Q G Z nL σ (pc + 2) lv (.ref x :: st)) : WW M Q G Z nL σ pc lv st := fun H locs ls hP hS h => lv_aload X.1 X.2.1 hd (lv_at h j hl) (kk H locs ls hP hS h)
theorem ww_istore_n (X : gX M G Z cc own nL ws rm ret) {k : Fin 4} {i : Nat} {x : Int32} {lv' : List (Nat × Value)} {E : Int32 → Option α} (hd : decode cc pc = .ok (.istore_n k, 1)) (hi : (k : Nat) = i) (hn : i < nL) (hl : lv.filter (fun q => !(q.1 == i) && !(q.1 + 1 == i && q.2.category == 2)) = lv') (hF : nm x E = some out) (kk : ∀ y : Int32, y = x → E y = some out → WW M Q G Z nL σ (pc + 1) ((i, .int y) :: lv') st) : WW M Q G Z nL σ pc lv (.int x :: st) := fun H locs ls hP hS h => lv_istore_n X.1 X.2.1 hd hi h hn (by rw [hl]) (fun ls' h' => kk x rfl hF H locs ls' hP hS h')
theorem ww_istore (X : gX M G Z cc own nL ws rm ret) {i : Nat} {x : Int32} {lv' : List (Nat × Value)} {E : Int32 → Option α} (hd : decode cc pc = .ok (.istore i, 2)) (hn : i < nL) (hl : lv.filter (fun q => !(q.1 == i) && !(q.1 + 1 == i && q.2.category == 2)) = lv') (hF : nm x E = some out) (kk : ∀ y : Int32, y = x → E y = some out → WW M Q G Z nL σ (pc + 2) ((i, .int y) :: lv') st) : WW M Q G Z nL σ pc lv (.int x :: st) := fun H locs ls hP hS h => lv_istore X.1 X.2.1 hd h hn (by rw [hl]) (fun ls' h' => kk x rfl hF H locs ls' hP hS h')
theorem ww_lstore_n (X : gX M G Z cc own nL ws rm ret) {k : Fin 4} {i : Nat} {x : Int64} {lv' : List (Nat × Value)} {E : Int64 → Option α} (hd : decode cc pc = .ok (.lstore_n k, 1)) (hi : (k : Nat) = i) (hn : i + 1 < nL) (hl : lv.filter (fun q => !(q.1 == i) && (!(q.1 == i + 1) && !(q.1 + 1 == i && q.2.category == 2))) = lv') (hF : nm x E = some out) (kk : ∀ y : Int64, y = x → E y = some out → WW M Q G Z nL σ (pc + 1) ((i, .long y) :: lv') st) : WW M Q G Z nL σ pc lv (.long x :: st) := fun H locs ls hP hS h => lv_lstore_n X.1 X.2.1 hd hi h hn (by rw [hl]) (fun ls' h' => kk x rfl hF H locs ls' hP hS h')
theorem ww_lstore (X : gX M G Z cc own nL ws rm ret) {i : Nat} {x : Int64} {lv' : List (Nat × Value)} {E : Int64 → Option α} (hd : decode cc pc = .ok (.lstore i, 2)) (hn : i + 1 < nL) (hl : lv.filter (fun q => !(q.1 == i) && (!(q.1 == i + 1) && !(q.1 + 1 == i && q.2.category == 2))) = lv') (hF : nm x E = some out) (kk : ∀ y : Int64, y = x → E y = some out → WW M Q G Z nL σ (pc + 2) ((i, .long y) :: lv') st) : WW M Q G Z nL σ pc lv (.long x :: st) := fun H locs ls hP hS h => lv_lstore X.1 X.2.1 hd h hn (by rw [hl]) (fun ls' h' => kk x rfl hF H locs ls' hP hS h')
theorem ww_iinc (X : gX M G Z cc own nL ws rm ret) {i j : Nat} {n : Int} {x v : Int32} {lv' : List (Nat × Value)} {E : Int32 → Option α} (hd : decode cc pc = .ok (.iinc i n, 3)) (hj : lv[j]? = some (i, .int x)) (hv : Int32.ofInt n = v) (hn : i < nL) (hl : lv.filter (fun q => !(q.1 == i) && !(q.1 + 1 == i && q.2.category == 2)) = lv') (hF : nm (x + v) E = some out) (kk : ∀ y : Int32, y = x + v → E y = some out → WW M Q G Z nL σ (pc + 3) ((i, .int y) :: lv') st) : WW M Q G Z nL σ pc lv st := fun H locs ls hP hS h => lv_iinc X.1 X.2.1 hd h hj (by rw [hv]) hn (by rw [hl]) (fun ls' h' => kk (x + v) rfl hF H locs ls' hP hS h')
theorem ww_goto (X : gX M G Z cc own nL ws rm ret) {off : Int} {tgt : Nat} (hd : decode cc pc = .ok (.goto off, 3)) (ht : (pc : Int) + off = (tgt : Int)) (kk : WW M Q G Z nL σ tgt lv st) : WW M Q G Z nL σ pc lv st := fun H locs ls hP hS h => lv_goto X.1 X.2.1 hd ht (kk H locs ls hP hS h)
theorem ww_if_eq (X : gX M G Z cc own nL ws rm ret) {x : Int32} {off : Int} {tgt : Nat} {dc : Decidable (x = 0)} {E1 E2 : Option α} (hd : decode cc pc = .ok (.ifCond .eq off, 3)) (ht : (pc : Int) + off = (tgt : Int)) (hF : @ite _ (x = 0) dc E1 E2 = some out) (kt : (x = 0) → E1 = some out → WW M Q G Z nL σ tgt lv st) (kf : ¬ (x = 0) → E2 = some out → WW M Q G Z nL σ (pc + 3) lv st) : WW M Q G Z nL σ pc lv (.int x :: st) := fun H locs ls hP hS h => lv_if_eq X.1 X.2.1 hd ht (fun c => kt c (by rw [if_pos c] at hF; exact hF) H locs ls hP hS h) (fun c => kf c (by rw [if_neg c] at hF; exact hF) H locs ls hP hS h)
theorem ww_icmp_eq (X : gX M G Z cc own nL ws rm ret) {x y : Int32} {off : Int} {tgt : Nat} {dc : Decidable (x = y)} {E1 E2 : Option α} (hd : decode cc pc = .ok (.if_icmp .eq off, 3)) (ht : (pc : Int) + off = (tgt : Int)) (hF : @ite _ (x = y) dc E1 E2 = some out) (kt : (x = y) → E1 = some out → WW M Q G Z nL σ tgt lv st) (kf : ¬ (x = y) → E2 = some out → WW M Q G Z nL σ (pc + 3) lv st) : WW M Q G Z nL σ pc lv (.int y :: .int x :: st) := fun H locs ls hP hS h => lv_icmp_eq X.1 X.2.1 hd ht (fun c => kt c (by rw [if_pos c] at hF; exact hF) H locs ls hP hS h) (fun c => kf c (by rw [if_neg c] at hF; exact hF) H locs ls hP hS h)
theorem ww_if_lt (X : gX M G Z cc own nL ws rm ret) {x : Int32} {off : Int} {tgt : Nat} {dc : Decidable (x < 0)} {E1 E2 : Option α} (hd : decode cc pc = .ok (.ifCond .lt off, 3)) (ht : (pc : Int) + off = (tgt : Int)) (hF : @ite _ (x < 0) dc E1 E2 = some out) (kt : (x < 0) → E1 = some out → WW M Q G Z nL σ tgt lv st) (kf : ¬ (x < 0) → E2 = some out → WW M Q G Z nL σ (pc + 3) lv st) : WW M Q G Z nL σ pc lv (.int x :: st) := fun H locs ls hP hS h => lv_if_lt X.1 X.2.1 hd ht (fun c => kt c (by rw [if_pos c] at hF; exact hF) H locs ls hP hS h) (fun c => kf c (by rw [if_neg c] at hF; exact hF) H locs ls hP hS h)
theorem ww_icmp_lt (X : gX M G Z cc own nL ws rm ret) {x y : Int32} {off : Int} {tgt : Nat} {dc : Decidable (x < y)} {E1 E2 : Option α} (hd : decode cc pc = .ok (.if_icmp .lt off, 3)) (ht : (pc : Int) + off = (tgt : Int)) (hF : @ite _ (x < y) dc E1 E2 = some out) (kt : (x < y) → E1 = some out → WW M Q G Z nL σ tgt lv st) (kf : ¬ (x < y) → E2 = some out → WW M Q G Z nL σ (pc + 3) lv st) : WW M Q G Z nL σ pc lv (.int y :: .int x :: st) := fun H locs ls hP hS h => lv_icmp_lt X.1 X.2.1 hd ht (fun c => kt c (by rw [if_pos c] at hF; exact hF) H locs ls hP hS h) (fun c => kf c (by rw [if_neg c] at hF; exact hF) H locs ls hP hS h)
theorem ww_if_ge (X : gX M G Z cc own nL ws rm ret) {x : Int32} {off : Int} {tgt : Nat} {dc : Decidable (0 ≤ x)} {E1 E2 : Option α} (hd : decode cc pc = .ok (.ifCond .ge off, 3)) (ht : (pc : Int) + off = (tgt : Int)) (hF : @ite _ (0 ≤ x) dc E1 E2 = some out) (kt : (0 ≤ x) → E1 = some out → WW M Q G Z nL σ tgt lv st) (kf : ¬ (0 ≤ x) → E2 = some out → WW M Q G Z nL σ (pc + 3) lv st) : WW M Q G Z nL σ pc lv (.int x :: st) := fun H locs ls hP hS h => lv_if_ge X.1 X.2.1 hd ht (fun c => kt c (by rw [if_pos c] at hF; exact hF) H locs ls hP hS h) (fun c => kf c (by rw [if_neg c] at hF; exact hF) H locs ls hP hS h)
theorem ww_icmp_ge (X : gX M G Z cc own nL ws rm ret) {x y : Int32} {off : Int} {tgt : Nat} {dc : Decidable (y ≤ x)} {E1 E2 : Option α} (hd : decode cc pc = .ok (.if_icmp .ge off, 3)) (ht : (pc : Int) + off = (tgt : Int)) (hF : @ite _ (y ≤ x) dc E1 E2 = some out) (kt : (y ≤ x) → E1 = some out → WW M Q G Z nL σ tgt lv st) (kf : ¬ (y ≤ x) → E2 = some out → WW M Q G Z nL σ (pc + 3) lv st) : WW M Q G Z nL σ pc lv (.int y :: .int x :: st) := fun H locs ls hP hS h => lv_icmp_ge X.1 X.2.1 hd ht (fun c => kt c (by rw [if_pos c] at hF; exact hF) H locs ls hP hS h) (fun c => kf c (by rw [if_neg c] at hF; exact hF) H locs ls hP hS h)
theorem ww_if_gt (X : gX M G Z cc own nL ws rm ret) {x : Int32} {off : Int} {tgt : Nat} {dc : Decidable (0 < x)} {E1 E2 : Option α} (hd : decode cc pc = .ok (.ifCond .gt off, 3)) (ht : (pc : Int) + off = (tgt : Int)) (hF : @ite _ (0 < x) dc E1 E2 = some out) (kt : (0 < x) → E1 = some out → WW M Q G Z nL σ tgt lv st) (kf : ¬ (0 < x) → E2 = some out → WW M Q G Z nL σ (pc + 3) lv st) : WW M Q G Z nL σ pc lv (.int x :: st) := fun H locs ls hP hS h => lv_if_gt X.1 X.2.1 hd ht (fun c => kt c (by rw [if_pos c] at hF; exact hF) H locs ls hP hS h) (fun c => kf c (by rw [if_neg c] at hF; exact hF) H locs ls hP hS h)
theorem ww_icmp_gt (X : gX M G Z cc own nL ws rm ret) {x y : Int32} {off : Int} {tgt : Nat} {dc : Decidable (y < x)} {E1 E2 : Option α} (hd : decode cc pc = .ok (.if_icmp .gt off, 3)) (ht : (pc : Int) + off = (tgt : Int)) (hF : @ite _ (y < x) dc E1 E2 = some out) (kt : (y < x) → E1 = some out → WW M Q G Z nL σ tgt lv st) (kf : ¬ (y < x) → E2 = some out → WW M Q G Z nL σ (pc + 3) lv st) : WW M Q G Z nL σ pc lv (.int y :: .int x :: st) := fun H locs ls hP hS h => lv_icmp_gt X.1 X.2.1 hd ht (fun c => kt c (by rw [if_pos c] at hF; exact hF) H locs ls hP hS h) (fun c => kf c (by rw [if_neg c] at hF; exact hF) H locs ls hP hS h)
theorem ww_if_le (X : gX M G Z cc own nL ws rm ret) {x : Int32} {off : Int} {tgt : Nat} {dc : Decidable (x ≤ 0)} {E1 E2 : Option α} (hd : decode cc pc = .ok (.ifCond .le off, 3)) (ht : (pc : Int) + off = (tgt : Int)) (hF : @ite _ (x ≤ 0) dc E1 E2 = some out) (kt : (x ≤ 0) → E1 = some out → WW M Q G Z nL σ tgt lv st) (kf : ¬ (x ≤ 0) → E2 = some out → WW M Q G Z nL σ (pc + 3) lv st) : WW M Q G Z nL σ pc lv (.int x :: st) := fun H locs ls hP hS h => lv_if_le X.1 X.2.1 hd ht (fun c => kt c (by rw [if_pos c] at hF; exact hF) H locs ls hP hS h) (fun c => kf c (by rw [if_neg c] at hF; exact hF) H locs ls hP hS h)
theorem ww_icmp_le (X : gX M G Z cc own nL ws rm ret) {x y : Int32} {off : Int} {tgt : Nat} {dc : Decidable (x ≤ y)} {E1 E2 : Option α} (hd : decode cc pc = .ok (.if_icmp .le off, 3)) (ht : (pc : Int) + off = (tgt : Int)) (hF : @ite _ (x ≤ y) dc E1 E2 = some out) (kt : (x ≤ y) → E1 = some out → WW M Q G Z nL σ tgt lv st) (kf : ¬ (x ≤ y) → E2 = some out → WW M Q G Z nL σ (pc + 3) lv st) : WW M Q G Z nL σ pc lv (.int y :: .int x :: st) := fun H locs ls hP hS h => lv_icmp_le X.1 X.2.1 hd ht (fun c => kt c (by rw [if_pos c] at hF; exact hF) H locs ls hP hS h) (fun c => kf c (by rw [if_neg c] at hF; exact hF) H locs ls hP hS h)
theorem ww_if_ne (X : gX M G Z cc own nL ws rm ret) {x : Int32} {off : Int} {tgt : Nat} {dc : Decidable (x = 0)} {E1 E2 : Option α} (hd : decode cc pc = .ok (.ifCond .ne off, 3)) (ht : (pc : Int) + off = (tgt : Int)) (hF : @ite _ (x = 0) dc E1 E2 = some out) (kt : ¬ (x = 0) → E2 = some out → WW M Q G Z nL σ tgt lv st) (kf : (x = 0) → E1 = some out → WW M Q G Z nL σ (pc + 3) lv st) : WW M Q G Z nL σ pc lv (.int x :: st) := fun H locs ls hP hS h => lv_if_ne X.1 X.2.1 hd ht (fun c => kt c (by rw [if_neg c] at hF; exact hF) H locs ls hP hS h) (fun c => kf c (by rw [if_pos c] at hF; exact hF) H locs ls hP hS h)
theorem ww_icmp_ne (X : gX M G Z cc own nL ws rm ret) {x y : Int32} {off : Int} {tgt : Nat} {dc : Decidable (x = y)} {E1 E2 : Option α} (hd : decode cc pc = .ok (.if_icmp .ne off, 3)) (ht : (pc : Int) + off = (tgt : Int)) (hF : @ite _ (x = y) dc E1 E2 = some out) (kt : ¬ (x = y) → E2 = some out → WW M Q G Z nL σ tgt lv st) (kf : (x = y) → E1 = some out → WW M Q G Z nL σ (pc + 3) lv st) : WW M Q G Z nL σ pc lv (.int y :: .int x :: st) := fun H locs ls hP hS h => lv_icmp_ne X.1 X.2.1 hd ht (fun c => kt c (by rw [if_neg c] at hF; exact hF) H locs ls hP hS h) (fun c => kf c (by rw [if_pos c] at hF; exact hF) H locs ls hP hS h)
theorem gc_cmp_lt {x y : Int64} : lg_cmp x y < 0 ↔ x < y := by
  unfold lg_cmp
  by_cases h1 : y < x
  · simp only [h1, if_true]; exact ⟨fun h => absurd h (by decide), fun h => absurd h (by have := Int64.lt_iff_toInt_lt.mp h1; rw [Int64.lt_iff_toInt_lt]; omega)⟩
  · by_cases h2 : x = y
    · subst h2; simp [h1]
    · simp only [h1, h2, if_false]
      have h3 : x < y := by
        rw [Int64.lt_iff_toInt_lt] at h1 ⊢
        have : x.toInt ≠ y.toInt := fun e => h2 (Int64.toInt_inj.mp e)
        omega
      exact ⟨fun _ => h3, fun _ => by decide⟩
theorem gc_cmp_gt {x y : Int64} : 0 < lg_cmp x y ↔ y < x := by
  unfold lg_cmp
  by_cases h1 : y < x
  · simp only [h1, if_true]; exact ⟨fun _ => trivial, fun _ => by decide⟩
  · by_cases h2 : x = y
    · subst h2; simp [h1]
    · simp only [h1, h2, if_false]; exact ⟨fun h => absurd h (by decide), fun h => h.elim⟩
theorem gc_cmp_eq {x y : Int64} : lg_cmp x y = 0 ↔ x = y := by
  unfold lg_cmp
  by_cases h1 : y < x
  · simp only [h1, if_true]
    refine ⟨fun h => absurd h (by decide), fun h => ?_⟩
    subst h
    rw [Int64.lt_iff_toInt_lt] at h1
    omega
  · by_cases h2 : x = y
    · simp [h1, h2]
    · simp only [h1, h2, if_false]; exact ⟨fun h => absurd h (by decide), fun h => h.elim⟩
theorem gc_cmp_le {x y : Int64} : lg_cmp x y ≤ 0 ↔ x ≤ y := by
  have h := @gc_cmp_gt x y
  rw [Int64.le_iff_toInt_le, Int32.le_iff_toInt_le]
  rw [Int64.lt_iff_toInt_lt, Int32.lt_iff_toInt_lt] at h
  omega
theorem gc_cmp_ge {x y : Int64} : 0 ≤ lg_cmp x y ↔ y ≤ x := by
  have h := @gc_cmp_lt x y
  rw [Int64.le_iff_toInt_le, Int32.le_iff_toInt_le]
  rw [Int64.lt_iff_toInt_lt, Int32.lt_iff_toInt_lt] at h
  omega
theorem ww_lcmp_eq (X : gX M G Z cc own nL ws rm ret) {x y : Int64} {off : Int} {tgt : Nat} {dc : Decidable (x = y)} {E1 E2 : Option α} (hd0 : decode cc pc = .ok (.lcmp, 1)) (hd : decode cc (pc + 1) = .ok (.ifCond .eq off, 3)) (ht : ((pc + 1 : Nat) : Int) + off = (tgt : Int)) (hF : @ite _ (x = y) dc E1 E2 = some out) (kt : (x = y) → E1 = some out → WW M Q G Z nL σ tgt lv st) (kf : ¬ (x = y) → E2 = some out → WW M Q G Z nL σ (pc + 1 + 3) lv st) : WW M Q G Z nL σ pc lv (.long y :: .long x :: st) := fun H locs ls hP hS h => W.lcmp X.1 X.2.1 hd0 (lv_if_eq X.1 X.2.1 hd ht (fun c => kt ((gc_cmp_eq).mp c) (by rw [if_pos ((gc_cmp_eq).mp c)] at hF; exact hF) H locs ls hP hS h) (fun c => kf (fun z => c ((gc_cmp_eq).mpr z)) (by rw [if_neg (fun z => c ((gc_cmp_eq).mpr z))] at hF; exact hF) H locs ls hP hS h))
theorem ww_lcmp_lt (X : gX M G Z cc own nL ws rm ret) {x y : Int64} {off : Int} {tgt : Nat} {dc : Decidable (x < y)} {E1 E2 : Option α} (hd0 : decode cc pc = .ok (.lcmp, 1)) (hd : decode cc (pc + 1) = .ok (.ifCond .lt off, 3)) (ht : ((pc + 1 : Nat) : Int) + off = (tgt : Int)) (hF : @ite _ (x < y) dc E1 E2 = some out) (kt : (x < y) → E1 = some out → WW M Q G Z nL σ tgt lv st) (kf : ¬ (x < y) → E2 = some out → WW M Q G Z nL σ (pc + 1 + 3) lv st) : WW M Q G Z nL σ pc lv (.long y :: .long x :: st) := fun H locs ls hP hS h => W.lcmp X.1 X.2.1 hd0 (lv_if_lt X.1 X.2.1 hd ht (fun c => kt ((gc_cmp_lt).mp c) (by rw [if_pos ((gc_cmp_lt).mp c)] at hF; exact hF) H locs ls hP hS h) (fun c => kf (fun z => c ((gc_cmp_lt).mpr z)) (by rw [if_neg (fun z => c ((gc_cmp_lt).mpr z))] at hF; exact hF) H locs ls hP hS h))
theorem ww_lcmp_ge (X : gX M G Z cc own nL ws rm ret) {x y : Int64} {off : Int} {tgt : Nat} {dc : Decidable (y ≤ x)} {E1 E2 : Option α} (hd0 : decode cc pc = .ok (.lcmp, 1)) (hd : decode cc (pc + 1) = .ok (.ifCond .ge off, 3)) (ht : ((pc + 1 : Nat) : Int) + off = (tgt : Int)) (hF : @ite _ (y ≤ x) dc E1 E2 = some out) (kt : (y ≤ x) → E1 = some out → WW M Q G Z nL σ tgt lv st) (kf : ¬ (y ≤ x) → E2 = some out → WW M Q G Z nL σ (pc + 1 + 3) lv st) : WW M Q G Z nL σ pc lv (.long y :: .long x :: st) := fun H locs ls hP hS h => W.lcmp X.1 X.2.1 hd0 (lv_if_ge X.1 X.2.1 hd ht (fun c => kt ((gc_cmp_ge).mp c) (by rw [if_pos ((gc_cmp_ge).mp c)] at hF; exact hF) H locs ls hP hS h) (fun c => kf (fun z => c ((gc_cmp_ge).mpr z)) (by rw [if_neg (fun z => c ((gc_cmp_ge).mpr z))] at hF; exact hF) H locs ls hP hS h))
theorem ww_lcmp_gt (X : gX M G Z cc own nL ws rm ret) {x y : Int64} {off : Int} {tgt : Nat} {dc : Decidable (y < x)} {E1 E2 : Option α} (hd0 : decode cc pc = .ok (.lcmp, 1)) (hd : decode cc (pc + 1) = .ok (.ifCond .gt off, 3)) (ht : ((pc + 1 : Nat) : Int) + off = (tgt : Int)) (hF : @ite _ (y < x) dc E1 E2 = some out) (kt : (y < x) → E1 = some out → WW M Q G Z nL σ tgt lv st) (kf : ¬ (y < x) → E2 = some out → WW M Q G Z nL σ (pc + 1 + 3) lv st) : WW M Q G Z nL σ pc lv (.long y :: .long x :: st) := fun H locs ls hP hS h => W.lcmp X.1 X.2.1 hd0 (lv_if_gt X.1 X.2.1 hd ht (fun c => kt ((gc_cmp_gt).mp c) (by rw [if_pos ((gc_cmp_gt).mp c)] at hF; exact hF) H locs ls hP hS h) (fun c => kf (fun z => c ((gc_cmp_gt).mpr z)) (by rw [if_neg (fun z => c ((gc_cmp_gt).mpr z))] at hF; exact hF) H locs ls hP hS h))
theorem ww_lcmp_le (X : gX M G Z cc own nL ws rm ret) {x y : Int64} {off : Int} {tgt : Nat} {dc : Decidable (x ≤ y)} {E1 E2 : Option α} (hd0 : decode cc pc = .ok (.lcmp, 1)) (hd : decode cc (pc + 1) = .ok (.ifCond .le off, 3)) (ht : ((pc + 1 : Nat) : Int) + off = (tgt : Int)) (hF : @ite _ (x ≤ y) dc E1 E2 = some out) (kt : (x ≤ y) → E1 = some out → WW M Q G Z nL σ tgt lv st) (kf : ¬ (x ≤ y) → E2 = some out → WW M Q G Z nL σ (pc + 1 + 3) lv st) : WW M Q G Z nL σ pc lv (.long y :: .long x :: st) := fun H locs ls hP hS h => W.lcmp X.1 X.2.1 hd0 (lv_if_le X.1 X.2.1 hd ht (fun c => kt ((gc_cmp_le).mp c) (by rw [if_pos ((gc_cmp_le).mp c)] at hF; exact hF) H locs ls hP hS h) (fun c => kf (fun z => c ((gc_cmp_le).mpr z)) (by rw [if_neg (fun z => c ((gc_cmp_le).mpr z))] at hF; exact hF) H locs ls hP hS h))
theorem ww_lcmp_ne (X : gX M G Z cc own nL ws rm ret) {x y : Int64} {off : Int} {tgt : Nat} {dc : Decidable (x = y)} {E1 E2 : Option α} (hd0 : decode cc pc = .ok (.lcmp, 1)) (hd : decode cc (pc + 1) = .ok (.ifCond .ne off, 3)) (ht : ((pc + 1 : Nat) : Int) + off = (tgt : Int)) (hF : @ite _ (x = y) dc E1 E2 = some out) (kt : ¬ x = y → E2 = some out → WW M Q G Z nL σ tgt lv st) (kf : x = y → E1 = some out → WW M Q G Z nL σ (pc + 1 + 3) lv st) : WW M Q G Z nL σ pc lv (.long y :: .long x :: st) := fun H locs ls hP hS h => W.lcmp X.1 X.2.1 hd0 (lv_if_ne X.1 X.2.1 hd ht (fun c => kt (fun z => c (gc_cmp_eq.mpr z)) (by rw [if_neg (fun z => c (gc_cmp_eq.mpr z))] at hF; exact hF) H locs ls hP hS h) (fun c => kf (gc_cmp_eq.mp c) (by rw [if_pos (gc_cmp_eq.mp c)] at hF; exact hF) H locs ls hP hS h))
theorem ww_iadd (X : gX M G Z cc own nL ws rm ret) {x y : Int32} (hd : decode cc pc = .ok (.iadd, 1)) (kk : WW M Q G Z nL σ (pc + 1) lv (.int (x + y) :: st)) : WW M Q G Z nL σ pc lv (.int y :: .int x :: st) := fun H locs ls hP hS h => lv_iadd X.1 X.2.1 hd (kk H locs ls hP hS h)
theorem ww_isub (X : gX M G Z cc own nL ws rm ret) {x y : Int32} (hd : decode cc pc = .ok (.isub, 1)) (kk : WW M Q G Z nL σ (pc + 1) lv (.int (x - y) :: st)) : WW M Q G Z nL σ pc lv (.int y :: .int x :: st) := fun H locs ls hP hS h => lv_isub X.1 X.2.1 hd (kk H locs ls hP hS h)
theorem ww_imul (X : gX M G Z cc own nL ws rm ret) {x y : Int32} (hd : decode cc pc = .ok (.imul, 1)) (kk : WW M Q G Z nL σ (pc + 1) lv (.int (x * y) :: st)) : WW M Q G Z nL σ pc lv (.int y :: .int x :: st) := fun H locs ls hP hS h => lv_imul X.1 X.2.1 hd (kk H locs ls hP hS h)
theorem ww_iand (X : gX M G Z cc own nL ws rm ret) {x y : Int32} (hd : decode cc pc = .ok (.iand, 1)) (kk : WW M Q G Z nL σ (pc + 1) lv (.int (x &&& y) :: st)) : WW M Q G Z nL σ pc lv (.int y :: .int x :: st) := fun H locs ls hP hS h => lv_iand X.1 X.2.1 hd (kk H locs ls hP hS h)
theorem ww_ior (X : gX M G Z cc own nL ws rm ret) {x y : Int32} (hd : decode cc pc = .ok (.ior, 1)) (kk : WW M Q G Z nL σ (pc + 1) lv (.int (x ||| y) :: st)) : WW M Q G Z nL σ pc lv (.int y :: .int x :: st) := fun H locs ls hP hS h => lv_ior X.1 X.2.1 hd (kk H locs ls hP hS h)
theorem ww_ixor (X : gX M G Z cc own nL ws rm ret) {x y : Int32} (hd : decode cc pc = .ok (.ixor, 1)) (kk : WW M Q G Z nL σ (pc + 1) lv (.int (x ^^^ y) :: st)) : WW M Q G Z nL σ pc lv (.int y :: .int x :: st) := fun H locs ls hP hS h => lv_ixor X.1 X.2.1 hd (kk H locs ls hP hS h)
theorem ww_ishl (X : gX M G Z cc own nL ws rm ret) {x y : Int32} (hd : decode cc pc = .ok (.ishl, 1)) (kk : WW M Q G Z nL σ (pc + 1) lv (.int (x <<< (y &&& 31)) :: st)) : WW M Q G Z nL σ pc lv (.int y :: .int x :: st) := fun H locs ls hP hS h => lv_ishl X.1 X.2.1 hd (kk H locs ls hP hS h)
theorem ww_ishr (X : gX M G Z cc own nL ws rm ret) {x y : Int32} (hd : decode cc pc = .ok (.ishr, 1)) (kk : WW M Q G Z nL σ (pc + 1) lv (.int (x >>> (y &&& 31)) :: st)) : WW M Q G Z nL σ pc lv (.int y :: .int x :: st) := fun H locs ls hP hS h => lv_ishr X.1 X.2.1 hd (kk H locs ls hP hS h)
theorem ww_ladd (X : gX M G Z cc own nL ws rm ret) {x y : Int64} (hd : decode cc pc = .ok (.ladd, 1)) (kk : WW M Q G Z nL σ (pc + 1) lv (.long (x + y) :: st)) : WW M Q G Z nL σ pc lv (.long y :: .long x :: st) := fun H locs ls hP hS h => lv_ladd X.1 X.2.1 hd (kk H locs ls hP hS h)
theorem ww_lsub (X : gX M G Z cc own nL ws rm ret) {x y : Int64} (hd : decode cc pc = .ok (.lsub, 1)) (kk : WW M Q G Z nL σ (pc + 1) lv (.long (x - y) :: st)) : WW M Q G Z nL σ pc lv (.long y :: .long x :: st) := fun H locs ls hP hS h => lv_lsub X.1 X.2.1 hd (kk H locs ls hP hS h)
theorem ww_lmul (X : gX M G Z cc own nL ws rm ret) {x y : Int64} (hd : decode cc pc = .ok (.lmul, 1)) (kk : WW M Q G Z nL σ (pc + 1) lv (.long (x * y) :: st)) : WW M Q G Z nL σ pc lv (.long y :: .long x :: st) := fun H locs ls hP hS h => lv_lmul X.1 X.2.1 hd (kk H locs ls hP hS h)
theorem ww_land (X : gX M G Z cc own nL ws rm ret) {x y : Int64} (hd : decode cc pc = .ok (.land, 1)) (kk : WW M Q G Z nL σ (pc + 1) lv (.long (x &&& y) :: st)) : WW M Q G Z nL σ pc lv (.long y :: .long x :: st) := fun H locs ls hP hS h => lv_land X.1 X.2.1 hd (kk H locs ls hP hS h)
theorem ww_lor (X : gX M G Z cc own nL ws rm ret) {x y : Int64} (hd : decode cc pc = .ok (.lor, 1)) (kk : WW M Q G Z nL σ (pc + 1) lv (.long (x ||| y) :: st)) : WW M Q G Z nL σ pc lv (.long y :: .long x :: st) := fun H locs ls hP hS h => lv_lor X.1 X.2.1 hd (kk H locs ls hP hS h)
theorem ww_lxor (X : gX M G Z cc own nL ws rm ret) {x y : Int64} (hd : decode cc pc = .ok (.lxor, 1)) (kk : WW M Q G Z nL σ (pc + 1) lv (.long (x ^^^ y) :: st)) : WW M Q G Z nL σ pc lv (.long y :: .long x :: st) := fun H locs ls hP hS h => lv_lxor X.1 X.2.1 hd (kk H locs ls hP hS h)
theorem ww_iushr (X : gX M G Z cc own nL ws rm ret) {x y : Int32} (hd : decode cc pc = .ok (.iushr, 1)) (kk : WW M Q G Z nL σ (pc + 1) lv (.int (x.toUInt32 >>> (y.toUInt32 &&& Int32.toUInt32 31)).toInt32 :: st)) : WW M Q G Z nL σ pc lv (.int y :: .int x :: st) := fun H locs ls hP hS h => lv_iushr X.1 X.2.1 hd rfl (kk H locs ls hP hS h)
theorem ww_lshl (X : gX M G Z cc own nL ws rm ret) {x : Int64} {y : Int32} (hd : decode cc pc = .ok (.lshl, 1)) (kk : WW M Q G Z nL σ (pc + 1) lv (.long (x <<< (y.toInt64 &&& 63)) :: st)) : WW M Q G Z nL σ pc lv (.int y :: .long x :: st) := fun H locs ls hP hS h => lv_lshl X.1 X.2.1 hd rfl (kk H locs ls hP hS h)
theorem ww_lshr (X : gX M G Z cc own nL ws rm ret) {x : Int64} {y : Int32} (hd : decode cc pc = .ok (.lshr, 1)) (kk : WW M Q G Z nL σ (pc + 1) lv (.long (x >>> (y.toInt64 &&& 63)) :: st)) : WW M Q G Z nL σ pc lv (.int y :: .long x :: st) := fun H locs ls hP hS h => lv_lshr X.1 X.2.1 hd rfl (kk H locs ls hP hS h)
theorem ww_ineg (X : gX M G Z cc own nL ws rm ret) {x : Int32} (hd : decode cc pc = .ok (.ineg, 1)) (kk : WW M Q G Z nL σ (pc + 1) lv (.int (-x) :: st)) : WW M Q G Z nL σ pc lv (.int x :: st) := fun H locs ls hP hS h => lv_ineg X.1 X.2.1 hd (kk H locs ls hP hS h)
theorem ww_lneg (X : gX M G Z cc own nL ws rm ret) {x : Int64} (hd : decode cc pc = .ok (.lneg, 1)) (kk : WW M Q G Z nL σ (pc + 1) lv (.long (-x) :: st)) : WW M Q G Z nL σ pc lv (.long x :: st) := fun H locs ls hP hS h => lv_lneg X.1 X.2.1 hd (kk H locs ls hP hS h)
theorem ww_i2l (X : gX M G Z cc own nL ws rm ret) {x : Int32} (hd : decode cc pc = .ok (.i2l, 1)) (kk : WW M Q G Z nL σ (pc + 1) lv (.long x.toInt64 :: st)) : WW M Q G Z nL σ pc lv (.int x :: st) := fun H locs ls hP hS h => lv_i2l X.1 X.2.1 hd rfl (kk H locs ls hP hS h)
theorem ww_l2i (X : gX M G Z cc own nL ws rm ret) {x : Int64} (hd : decode cc pc = .ok (.l2i, 1)) (kk : WW M Q G Z nL σ (pc + 1) lv (.int x.toInt32 :: st)) : WW M Q G Z nL σ pc lv (.long x :: st) := fun H locs ls hP hS h => lv_l2i X.1 X.2.1 hd rfl (kk H locs ls hP hS h)
def irm (x y : Int32) : Int32 := x - x / y * y
def lrm (x y : Int64) : Int64 := x - x / y * y
theorem ww_idiv (X : gX M G Z cc own nL ws rm ret) {x y : Int32} (hd : decode cc pc = .ok (.idiv, 1)) (hn : ¬ y = 0) (kk : WW M Q G Z nL σ (pc + 1) lv (.int (x / y) :: st)) : WW M Q G Z nL σ pc lv (.int y :: .int x :: st) := fun H locs ls hP hS h => lv_idiv X.1 X.2.1 hd hn (kk H locs ls hP hS h)
theorem ww_idivG (X : gX M G Z cc own nL ws rm ret) {x y : Int32} {E : Option α} (hd : decode cc pc = .ok (.idiv, 1)) (hF : gd (decide (¬ y = 0)) E = some out) (kk : ¬ y = 0 → E = some out → WW M Q G Z nL σ (pc + 1) lv (.int (x / y) :: st)) : WW M Q G Z nL σ pc lv (.int y :: .int x :: st) := by
  obtain ⟨hb, hE⟩ := gd_some hF
  have hn := of_decide_eq_true hb
  exact fun H locs ls hP hS h => lv_idiv X.1 X.2.1 hd hn (kk hn hE H locs ls hP hS h)
theorem ww_irem (X : gX M G Z cc own nL ws rm ret) {x y : Int32} (hd : decode cc pc = .ok (.irem, 1)) (hn : ¬ y = 0) (kk : WW M Q G Z nL σ (pc + 1) lv (.int (irm x y) :: st)) : WW M Q G Z nL σ pc lv (.int y :: .int x :: st) := fun H locs ls hP hS h => lv_irem X.1 X.2.1 hd hn (kk H locs ls hP hS h)
theorem ww_iremG (X : gX M G Z cc own nL ws rm ret) {x y : Int32} {E : Option α} (hd : decode cc pc = .ok (.irem, 1)) (hF : gd (decide (¬ y = 0)) E = some out) (kk : ¬ y = 0 → E = some out → WW M Q G Z nL σ (pc + 1) lv (.int (irm x y) :: st)) : WW M Q G Z nL σ pc lv (.int y :: .int x :: st) := by
  obtain ⟨hb, hE⟩ := gd_some hF
  have hn := of_decide_eq_true hb
  exact fun H locs ls hP hS h => lv_irem X.1 X.2.1 hd hn (kk hn hE H locs ls hP hS h)
theorem ww_ldiv (X : gX M G Z cc own nL ws rm ret) {x y : Int64} (hd : decode cc pc = .ok (.ldiv, 1)) (hn : ¬ y = 0) (kk : WW M Q G Z nL σ (pc + 1) lv (.long (x / y) :: st)) : WW M Q G Z nL σ pc lv (.long y :: .long x :: st) := fun H locs ls hP hS h => lv_ldiv X.1 X.2.1 hd hn (kk H locs ls hP hS h)
theorem ww_ldivG (X : gX M G Z cc own nL ws rm ret) {x y : Int64} {E : Option α} (hd : decode cc pc = .ok (.ldiv, 1)) (hF : gd (decide (¬ y = 0)) E = some out) (kk : ¬ y = 0 → E = some out → WW M Q G Z nL σ (pc + 1) lv (.long (x / y) :: st)) : WW M Q G Z nL σ pc lv (.long y :: .long x :: st) := by
  obtain ⟨hb, hE⟩ := gd_some hF
  have hn := of_decide_eq_true hb
  exact fun H locs ls hP hS h => lv_ldiv X.1 X.2.1 hd hn (kk hn hE H locs ls hP hS h)
theorem ww_lrem (X : gX M G Z cc own nL ws rm ret) {x y : Int64} (hd : decode cc pc = .ok (.lrem, 1)) (hn : ¬ y = 0) (kk : WW M Q G Z nL σ (pc + 1) lv (.long (lrm x y) :: st)) : WW M Q G Z nL σ pc lv (.long y :: .long x :: st) := fun H locs ls hP hS h => lv_lrem X.1 X.2.1 hd hn (kk H locs ls hP hS h)
theorem ww_lremG (X : gX M G Z cc own nL ws rm ret) {x y : Int64} {E : Option α} (hd : decode cc pc = .ok (.lrem, 1)) (hF : gd (decide (¬ y = 0)) E = some out) (kk : ¬ y = 0 → E = some out → WW M Q G Z nL σ (pc + 1) lv (.long (lrm x y) :: st)) : WW M Q G Z nL σ pc lv (.long y :: .long x :: st) := by
  obtain ⟨hb, hE⟩ := gd_some hF
  have hn := of_decide_eq_true hb
  exact fun H locs ls hP hS h => lv_lrem X.1 X.2.1 hd hn (kk hn hE H locs ls hP hS h)
theorem ww_dup (X : gX M G Z cc own nL ws rm ret) {v : Value} (hd : decode cc pc = .ok (.dup, 1)) (hc : v.category = 1) (kk : WW M Q G Z nL σ (pc + 1) lv (v :: v :: st)) : WW M Q G Z nL σ pc lv (v :: st) := fun H locs ls hP hS h => lv_dup X.1 X.2.1 hd hc (kk H locs ls hP hS h)
theorem ww_dup2_11 (X : gX M G Z cc own nL ws rm ret) {v w : Value} (hd : decode cc pc = .ok (.dup2, 1)) (hc : v.category = 1) (hc2 : w.category = 1) (kk : WW M Q G Z nL σ (pc + 1) lv (v :: w :: v :: w :: st)) : WW M Q G Z nL σ pc lv (v :: w :: st) := fun H locs ls hP hS h => lv_dup2_11 X.1 X.2.1 hd hc hc2 (kk H locs ls hP hS h)
theorem ww_dup2_2 (X : gX M G Z cc own nL ws rm ret) {v : Value} (hd : decode cc pc = .ok (.dup2, 1)) (hc : v.category = 2) (kk : WW M Q G Z nL σ (pc + 1) lv (v :: v :: st)) : WW M Q G Z nL σ pc lv (v :: st) := fun H locs ls hP hS h => lv_dup2_2 X.1 X.2.1 hd hc (kk H locs ls hP hS h)
theorem ww_pop (X : gX M G Z cc own nL ws rm ret) {v : Value} (hd : decode cc pc = .ok (.pop, 1)) (hc : v.category = 1) (kk : WW M Q G Z nL σ (pc + 1) lv st) : WW M Q G Z nL σ pc lv (v :: st) := fun H locs ls hP hS h => lv_pop X.1 X.2.1 hd hc (kk H locs ls hP hS h)
/-- a switch's case, by its value; the last one: none of them -/
theorem ww_case {x v : Int32} {dc : Decidable (x = v)} {E1 E2 : Option α} (hF : @ite _ (x = v) dc E1 E2 = some out) (k1 : x = v → E1 = some out → WW M Q G Z nL σ pc lv (.int v :: st)) (k2 : ¬ x = v → E2 = some out → WW M Q G Z nL σ pc lv (.int x :: st)) : WW M Q G Z nL σ pc lv (.int x :: st) := by
  by_cases h : x = v
  · rw [if_pos h] at hF
    have := k1 h hF
    rw [h]
    exact this
  · rw [if_neg h] at hF
    exact k2 h hF
theorem ww_tin (X : gX M G Z cc own nL ws rm ret) {dflt lo hi : Int} {offs : Array Int} {len : Nat} {x : Int32} {off : Int} {tgt : Nat} (hd : decode cc pc = .ok (.tableswitch dflt lo hi offs, len)) (h1 : ¬ x.toInt < lo) (h2 : ¬ hi < x.toInt) (ho : offs[(x.toInt - lo).toNat]? = some off) (ht : (pc : Int) + off = (tgt : Int)) (kk : WW M Q G Z nL σ tgt lv st) : WW M Q G Z nL σ pc lv (.int x :: st) := fun H locs ls hP hS h => lv_tableIn X.1 X.2.1 hd h1 h2 ho ht (kk H locs ls hP hS h)
theorem ww_tout (X : gX M G Z cc own nL ws rm ret) {dflt lo hi : Int} {offs : Array Int} {len : Nat} {x : Int32} {tgt : Nat} (hd : decode cc pc = .ok (.tableswitch dflt lo hi offs, len)) (h1 : x.toInt < lo ∨ hi < x.toInt) (ht : (pc : Int) + dflt = (tgt : Int)) (kk : WW M Q G Z nL σ tgt lv st) : WW M Q G Z nL σ pc lv (.int x :: st) := fun H locs ls hP hS h => lv_tableOut X.1 X.2.1 hd h1 ht (kk H locs ls hP hS h)
theorem gTy_at (X : gX M G Z cc own nL ws rm ret) {t : Nat} {ty : FieldType} (h : Z.2.1[t]? = some ty) : G.2.2.1[t]? = some (gTy G t, ty) := by
  rw [← X.2.2.2.2.2.2.2.1, List.getElem?_map] at h
  cases hq : G.2.2.1[t]? with
  | none => rw [hq] at h; cases h
  | some q =>
    rw [hq] at h
    have h2 : q.2 = ty := Option.some.inj h
    have h3 : gTy G t = q.1 := by unfold gTy; rw [List.getD_eq_getElem?_getD, hq]; rfl
    rw [h3, ← h2]
theorem gLay_i {k t n : Nat} {r : List Nat} (h : Z.1[k]? = some (0, t, n, r)) : (gLay G Z.1 σ)[k]? = some (G.2.1 k, .inl (gTy G t, n, .inl (σ.1 k))) := gLay_at h
theorem gLay_l {k t n : Nat} {r : List Nat} (h : Z.1[k]? = some (1, t, n, r)) : (gLay G Z.1 σ)[k]? = some (G.2.1 k, .inl (gTy G t, n, .inr (.inl (σ.2 k)))) := gLay_at h
theorem gLay_q {k t n b : Nat} (h : Z.1[k]? = some (2, t, n, [b])) : (gLay G Z.1 σ)[k]? = some (G.2.1 k, .inl (gTy G t, n, .inr (.inr (.inr (.inr (fun i => some (G.2.1 (b + i)))))))) := gLay_at h
theorem gLay_o {k ci n : Nat} {fl : List Nat} (h : Z.1[k]? = some (3, ci, n, fl)) : (gLay G Z.1 σ)[k]? = some (G.2.1 k, .inr (ci, fl.mapIdx (fun i t => gF G.2.1 (σ.1 k) (σ.2 k) i t))) := gLay_at h
theorem gLay_si {k t n : Nat} {r : List Nat} (h : Z.1[k]? = some (0, t, n, r)) (i : Nat) (x : Int32) : (gLay G Z.1 σ).set k (G.2.1 k, .inl (gTy G t, n, .inl (upd (σ.1 k) i x))) = gLay G Z.1 (gsI σ k i x) :=
  gLay_set h (by simp [gEl, gsI]) (fun j hj => by simp [gsI, hj]) (fun j hj => rfl)
theorem gLay_sl {k t n : Nat} {r : List Nat} (h : Z.1[k]? = some (1, t, n, r)) (i : Nat) (x : Int64) : (gLay G Z.1 σ).set k (G.2.1 k, .inl (gTy G t, n, .inr (.inl (vp_updL (σ.2 k) i x)))) = gLay G Z.1 (gsL σ k i x) :=
  gLay_set h (by simp [gEl, gsL]) (fun j hj => rfl) (fun j hj => by simp [gsL, hj])
theorem ww_iald (X : gX M G Z cc own nL ws rm ret) {i : Int32} {k t n : Nat} {r : List Nat} {E : Int32 → Option α} (hd : decode cc pc = .ok (.iaload, 1)) (hs : Z.1[k]? = some (0, t, n, r)) (hy : Z.2.1[t]? = some .int) (hF : gd (gb i n) (nm (σ.1 k i.toNatClampNeg) E) = some out) (kk : ∀ v : Int32, v = σ.1 k i.toNatClampNeg → gb i n = true → E v = some out → WW M Q G Z nL σ (pc + 1) lv (.int v :: st)) : WW M Q G Z nL σ pc lv (.int i :: .ref (G.2.1 k) :: st) := by
  obtain ⟨hb, hE⟩ := gd_some hF
  exact fun H locs ls hP hS h => va_iald X.1 X.2.1 X.2.2.2.2.2.1 hP k t (gLay_i hs) (gTy_at X hy) (gb_in hb) hd (kk _ rfl hb hE H locs ls hP hS h)
theorem ww_zald (X : gX M G Z cc own nL ws rm ret) {i : Int32} {k t n : Nat} {r : List Nat} {E : Int32 → Option α} (hd : decode cc pc = .ok (.baload, 1)) (hs : Z.1[k]? = some (0, t, n, r)) (hy : Z.2.1[t]? = some .boolean) (hF : gd (gb i n) (nm (σ.1 k i.toNatClampNeg) E) = some out) (kk : ∀ v : Int32, v = σ.1 k i.toNatClampNeg → gb i n = true → E v = some out → WW M Q G Z nL σ (pc + 1) lv (.int v :: st)) : WW M Q G Z nL σ pc lv (.int i :: .ref (G.2.1 k) :: st) := by
  obtain ⟨hb, hE⟩ := gd_some hF
  exact fun H locs ls hP hS h => va_zald X.1 X.2.1 X.2.2.2.2.2.1 hP k t (gLay_i hs) (gTy_at X hy) (gb_in hb) hd (kk _ rfl hb hE H locs ls hP hS h)
theorem ww_cald (X : gX M G Z cc own nL ws rm ret) {i : Int32} {k t n : Nat} {r : List Nat} {E : Int32 → Option α} (hd : decode cc pc = .ok (.caload, 1)) (hs : Z.1[k]? = some (0, t, n, r)) (hy : Z.2.1[t]? = some .char) (hF : gd (gb i n) (nm (σ.1 k i.toNatClampNeg) E) = some out) (kk : ∀ v : Int32, v = σ.1 k i.toNatClampNeg → gb i n = true → E v = some out → WW M Q G Z nL σ (pc + 1) lv (.int v :: st)) : WW M Q G Z nL σ pc lv (.int i :: .ref (G.2.1 k) :: st) := by
  obtain ⟨hb, hE⟩ := gd_some hF
  exact fun H locs ls hP hS h => va_cald X.1 X.2.1 X.2.2.2.2.2.1 hP k t (gLay_i hs) (gTy_at X hy) (gb_in hb) hd (kk _ rfl hb hE H locs ls hP hS h)
theorem ww_bald (X : gX M G Z cc own nL ws rm ret) {i : Int32} {k t n : Nat} {r : List Nat} {E : Int32 → Option α} (hd : decode cc pc = .ok (.baload, 1)) (hs : Z.1[k]? = some (0, t, n, r)) (hy : Z.2.1[t]? = some .byte) (hF : gd (gb i n) (nm (σ.1 k i.toNatClampNeg) E) = some out) (kk : ∀ v : Int32, v = σ.1 k i.toNatClampNeg → gb i n = true → E v = some out → WW M Q G Z nL σ (pc + 1) lv (.int v :: st)) : WW M Q G Z nL σ pc lv (.int i :: .ref (G.2.1 k) :: st) := by
  obtain ⟨hb, hE⟩ := gd_some hF
  exact fun H locs ls hP hS h => va_bald X.1 X.2.1 X.2.2.2.2.2.1 hP k t (gLay_i hs) (gTy_at X hy) (gb_in hb) hd (kk _ rfl hb hE H locs ls hP hS h)
theorem ww_lald (X : gX M G Z cc own nL ws rm ret) {i : Int32} {k t n : Nat} {r : List Nat} {E : Int64 → Option α} (hd : decode cc pc = .ok (.laload, 1)) (hs : Z.1[k]? = some (1, t, n, r)) (hy : Z.2.1[t]? = some .long) (hF : gd (gb i n) (nm (σ.2 k i.toNatClampNeg) E) = some out) (kk : ∀ v : Int64, v = σ.2 k i.toNatClampNeg → gb i n = true → E v = some out → WW M Q G Z nL σ (pc + 1) lv (.long v :: st)) : WW M Q G Z nL σ pc lv (.int i :: .ref (G.2.1 k) :: st) := by
  obtain ⟨hb, hE⟩ := gd_some hF
  exact fun H locs ls hP hS h => va_lald X.1 X.2.1 X.2.2.2.2.2.1 hP k t (gLay_l hs) (gTy_at X hy) (gb_in hb) hd (kk _ rfl hb hE H locs ls hP hS h)
theorem ww_aald (X : gX M G Z cc own nL ws rm ret) {i : Int32} {k t n b : Nat} {ty : FieldType} {E : Option α} (hd : decode cc pc = .ok (.aaload, 1)) (hs : Z.1[k]? = some (2, t, n, [b])) (hy : Z.2.1[t]? = some (.array ty)) (hF : gd (gb i n) E = some out) (kk : gb i n = true → E = some out → WW M Q G Z nL σ (pc + 1) lv (.ref (G.2.1 (b + i.toNatClampNeg)) :: st)) : WW M Q G Z nL σ pc lv (.int i :: .ref (G.2.1 k) :: st) := by
  obtain ⟨hb, hE⟩ := gd_some hF
  have hin := gb_in hb
  have hlt : i.toNatClampNeg < n := Nat.not_le.mp fun q => hin (Or.inr q)
  intro H locs ls hP hS h
  exact W.aald (v := .ref (G.2.1 (b + i.toNatClampNeg))) (ty := .array ty) X.1 X.2.1 (hP k _ (gLay_q hs)) ((X.2.2.2.2.2.1.2 t _ (gTy_at X hy)).1 n (fun j => .ref (G.2.1 (b + j)))) rfl (fun q => by cases q) (by show ¬ (i < 0 ∨ (arrV _ _ _).slots.size ≤ _); rw [arrV_size]; exact hin) (by show (arrV _ _ _).slots[_]? = _; rw [arrV_read _ _ hlt]; rfl) rfl rfl hd (kk hb hE H locs ls hP hS h)
theorem ww_iast (X : gX M G Z cc own nL ws rm ret) {i x : Int32} {k t n : Nat} {r : List Nat} {E : gS → Option α} (hd : decode cc pc = .ok (.iastore, 1)) (hs : Z.1[k]? = some (0, t, n, r)) (hy : Z.2.1[t]? = some .int) (hF : gd (gb i n) (nm (gsI σ k i.toNatClampNeg x) E) = some out) (kk : ∀ σ1 : gS, σ1 = gsI σ k i.toNatClampNeg x → gb i n = true → E σ1 = some out → WW M Q G Z nL σ1 (pc + 1) lv st) : WW M Q G Z nL σ pc lv (.int x :: .int i :: .ref (G.2.1 k) :: st) := by
  obtain ⟨hb, hE⟩ := gd_some hF
  exact fun H locs ls hP hS h => va_iast X.1 X.2.1 X.2.2.2.2.2.1 hP (gD X.2.2.2.2.2.2.1 σ) hS k t (gLay_i hs) (gTy_at X hy) (gb_in hb) hd (fun H1 locs1 hP1 _ hS1 => kk _ rfl hb hE H1 locs1 ls (by rw [gLay_si hs] at hP1; exact hP1) hS1 h)
theorem ww_zast (X : gX M G Z cc own nL ws rm ret) {i x : Int32} {k t n : Nat} {r : List Nat} {E : gS → Option α} (hd : decode cc pc = .ok (.bastore, 1)) (hs : Z.1[k]? = some (0, t, n, r)) (hy : Z.2.1[t]? = some .boolean) (hF : gd (gb i n) (nm (gsI σ k i.toNatClampNeg (vp_nar .boolean x)) E) = some out) (kk : ∀ σ1 : gS, σ1 = gsI σ k i.toNatClampNeg (vp_nar .boolean x) → gb i n = true → E σ1 = some out → WW M Q G Z nL σ1 (pc + 1) lv st) : WW M Q G Z nL σ pc lv (.int x :: .int i :: .ref (G.2.1 k) :: st) := by
  obtain ⟨hb, hE⟩ := gd_some hF
  exact fun H locs ls hP hS h => va_zast X.1 X.2.1 X.2.2.2.2.2.1 hP (gD X.2.2.2.2.2.2.1 σ) hS k t (gLay_i hs) (gTy_at X hy) (gb_in hb) hd (fun H1 locs1 hP1 _ hS1 => kk _ rfl hb hE H1 locs1 ls (by rw [gLay_si hs] at hP1; exact hP1) hS1 h)
theorem ww_cast (X : gX M G Z cc own nL ws rm ret) {i x : Int32} {k t n : Nat} {r : List Nat} {E : gS → Option α} (hd : decode cc pc = .ok (.castore, 1)) (hs : Z.1[k]? = some (0, t, n, r)) (hy : Z.2.1[t]? = some .char) (hF : gd (gb i n) (nm (gsI σ k i.toNatClampNeg (vp_nar .char x)) E) = some out) (kk : ∀ σ1 : gS, σ1 = gsI σ k i.toNatClampNeg (vp_nar .char x) → gb i n = true → E σ1 = some out → WW M Q G Z nL σ1 (pc + 1) lv st) : WW M Q G Z nL σ pc lv (.int x :: .int i :: .ref (G.2.1 k) :: st) := by
  obtain ⟨hb, hE⟩ := gd_some hF
  exact fun H locs ls hP hS h => va_cast X.1 X.2.1 X.2.2.2.2.2.1 hP (gD X.2.2.2.2.2.2.1 σ) hS k t (gLay_i hs) (gTy_at X hy) (gb_in hb) hd (fun H1 locs1 hP1 _ hS1 => kk _ rfl hb hE H1 locs1 ls (by rw [gLay_si hs] at hP1; exact hP1) hS1 h)
theorem ww_bast (X : gX M G Z cc own nL ws rm ret) {i x : Int32} {k t n : Nat} {r : List Nat} {E : gS → Option α} (hd : decode cc pc = .ok (.bastore, 1)) (hs : Z.1[k]? = some (0, t, n, r)) (hy : Z.2.1[t]? = some .byte) (hF : gd (gb i n) (nm (gsI σ k i.toNatClampNeg (vp_nar .byte x)) E) = some out) (kk : ∀ σ1 : gS, σ1 = gsI σ k i.toNatClampNeg (vp_nar .byte x) → gb i n = true → E σ1 = some out → WW M Q G Z nL σ1 (pc + 1) lv st) : WW M Q G Z nL σ pc lv (.int x :: .int i :: .ref (G.2.1 k) :: st) := by
  obtain ⟨hb, hE⟩ := gd_some hF
  exact fun H locs ls hP hS h => va_bast X.1 X.2.1 X.2.2.2.2.2.1 hP (gD X.2.2.2.2.2.2.1 σ) hS k t (gLay_i hs) (gTy_at X hy) (gb_in hb) hd (fun H1 locs1 hP1 _ hS1 => kk _ rfl hb hE H1 locs1 ls (by rw [gLay_si hs] at hP1; exact hP1) hS1 h)
theorem ww_last (X : gX M G Z cc own nL ws rm ret) {i : Int32} {x : Int64} {k t n : Nat} {r : List Nat} {E : gS → Option α} (hd : decode cc pc = .ok (.lastore, 1)) (hs : Z.1[k]? = some (1, t, n, r)) (hy : Z.2.1[t]? = some .long) (hF : gd (gb i n) (nm (gsL σ k i.toNatClampNeg x) E) = some out) (kk : ∀ σ1 : gS, σ1 = gsL σ k i.toNatClampNeg x → gb i n = true → E σ1 = some out → WW M Q G Z nL σ1 (pc + 1) lv st) : WW M Q G Z nL σ pc lv (.long x :: .int i :: .ref (G.2.1 k) :: st) := by
  obtain ⟨hb, hE⟩ := gd_some hF
  exact fun H locs ls hP hS h => va_last X.1 X.2.1 X.2.2.2.2.2.1 hP (gD X.2.2.2.2.2.2.1 σ) hS k t (gLay_l hs) (gTy_at X hy) (gb_in hb) hd (fun H1 locs1 hP1 _ hS1 => kk _ rfl hb hE H1 locs1 ls (by rw [gLay_sl hs] at hP1; exact hP1) hS1 h)
theorem ww_alen (X : gX M G Z cc own nL ws rm ret) {k t n : Nat} {r : List Nat} {v : Int32} {ty : FieldType} {kd : Nat} (hkd : kd < 3) (hd : decode cc pc = .ok (.arraylength, 1)) (hs : Z.1[k]? = some (kd, t, n, r)) (hy : Z.2.1[t]? = some ty) (hv : Int32.ofNat n = v) (kk : WW M Q G Z nL σ (pc + 1) lv (.int v :: st)) : WW M Q G Z nL σ pc lv (.ref (G.2.1 k) :: st) := by
  intro H locs ls hP hS h
  match kd, hkd, hs with
  | 0, _, hs => exact va_alen (x := (n, .inl (σ.1 k))) X.1 X.2.1 X.2.2.2.2.2.1 hP k t (gLay_at hs) (gTy_at X hy) hv hd (kk H locs ls hP hS h)
  | 1, _, hs => exact va_alen (x := (n, .inr (.inl (σ.2 k)))) X.1 X.2.1 X.2.2.2.2.2.1 hP k t (gLay_at hs) (gTy_at X hy) hv hd (kk H locs ls hP hS h)
  | 2, _, hs => exact va_alen (x := (n, .inr (.inr (.inr (.inr (fun i => some (G.2.1 (r.headD 0 + i)))))))) X.1 X.2.1 X.2.2.2.2.2.1 hP k t (gLay_at hs) (gTy_at X hy) hv hd (kk H locs ls hP hS h)
theorem gFl {fl : List Nat} {j t : Nat} (ad : Nat → Nat) (f : Nat → Int32) (g : Nat → Int64) (h : fl[j]? = some t) : (fl.mapIdx (fun i t => gF ad f g i t))[j]? = some (gF ad f g j t) := by
  simp [List.getElem?_mapIdx, h]
theorem ww_get (X : gX M G Z cc own nL ws rm ret) {ref C : String} {T : u_T} {N ci index k n j t : Nat} {fl : List Nat} (hd : decode cc pc = .ok (.getfield index, 3)) (hin : ∀ w ∈ u_ws C T N, w ∈ ws) (hs : Z.1[k]? = some (3, ci, n, fl)) (hc : Z.2.2[ci]? = some (C, T, N)) (hj : j < N) (hf : fl[j]? = some t) (hl : Cond.fieldLink own index ref (T j).2.1 (T j).2.2.1 ∈ ws) (hO : (T j).1 = ref) (kk : WW M Q G Z nL σ (pc + 3) lv (gF G.2.1 (σ.1 k) (σ.2 k) j t :: st)) : WW M Q G Z nL σ pc lv (.ref (G.2.1 k) :: st) := fun H locs ls hP hS h => va_get X.1 X.2.1 X.2.2.2.2.1 hin X.2.2.2.1 X.2.2.2.2.2.1 hP k (gLay_o hs) hc j hj (X.2.2.2.2.1 _ hl) (fun x hx => by rw [← hO]; exact hx) (gFl _ _ _ hf) hd (kk H locs ls hP hS h)
theorem gSet_putI {k ci n j : Nat} {fl : List Nat} (hs : Z.1[k]? = some (3, ci, n, fl)) (hf : fl[j]? = some 0) (x : Int32) : (gLay G Z.1 σ).set k (G.2.1 k, .inr (ci, (fl.mapIdx (fun i t => gF G.2.1 (σ.1 k) (σ.2 k) i t)).set j (.int x))) = gLay G Z.1 (gsI σ k j x) := by
  refine gLay_set hs ?_ (fun q hq => by simp [gsI, hq]) (fun q hq => by simp [gsI, hq])
  refine congrArg (fun z => (Sum.inr (ci, z) : va_E)) ?_
  apply List.ext_getElem?
  intro q
  rw [List.getElem?_set]
  by_cases hq : j = q
  · subst hq
    have hl : j < (fl.mapIdx (fun i t => gF G.2.1 (σ.1 k) (σ.2 k) i t)).length := by rw [List.length_mapIdx]; exact (List.getElem?_eq_some_iff.mp hf).1
    rw [if_pos rfl, if_pos hl, gFl _ _ _ hf]
    simp [gF, gsI, upd, vp_updL]
  · rw [if_neg hq]
    simp only [List.getElem?_mapIdx]
    cases fl[q]? with
    | none => rfl
    | some t =>
      match t with
      | 0 => simp [gF, gsI, upd, vp_updL]; try (exact fun e => absurd e.symm hq)
      | 1 => simp [gF, gsI, upd, vp_updL]; try (exact fun e => absurd e.symm hq)
      | t + 2 => rfl
theorem ww_putI (X : gX M G Z cc own nL ws rm ret) {ref C : String} {T : u_T} {N ci index k n j : Nat} {fl : List Nat} {x : Int32} {E : gS → Option α} (hd : decode cc pc = .ok (.putfield index, 3)) (hin : ∀ w ∈ u_ws C T N, w ∈ ws) (ty0 : Nat → FieldType) (hty : ∀ k, k < N → parseFieldDescriptor (T k).2.2.1 = some (ty0 k)) (hnm : ∀ a, a < N → ∀ b, b < N → a ≠ b → (T a).2.1 ≠ (T b).2.1) (hs : Z.1[k]? = some (3, ci, n, fl)) (hc : Z.2.2[ci]? = some (C, T, N)) (hj : j < N) (hf : fl[j]? = some 0) (hl : Cond.fieldLink own index ref (T j).2.1 (T j).2.2.1 ∈ ws) (hO : (T j).1 = ref) (hfin : (T j).2.2.2 = false) (hpd : parseFieldDescriptor (T j).2.2.1 = some .int) (hF : nm (gsI σ k j x) E = some out) (kk : ∀ σ1 : gS, σ1 = gsI σ k j x → E σ1 = some out → WW M Q G Z nL σ1 (pc + 3) lv st) : WW M Q G Z nL σ pc lv (.int x :: .ref (G.2.1 k) :: st) := fun H locs ls hP hS h => va_put X.1 X.2.1 X.2.2.2.2.1 hin ty0 hty hnm X.2.2.2.1 X.2.2.2.2.2.1 hP (gD X.2.2.2.2.2.2.1 σ) hS k (gLay_o hs) hc j hj (X.2.2.2.2.1 _ hl) (fun x hx => by rw [← hO]; exact hx) hfin hpd rfl rfl (by rw [List.length_mapIdx]; exact (List.getElem?_eq_some_iff.mp hf).1) hd (fun H1 locs1 hP1 _ hS1 => kk _ rfl hF H1 locs1 ls (by rw [gSet_putI hs hf] at hP1; exact hP1) hS1 h)
theorem gSet_putL {k ci n j : Nat} {fl : List Nat} (hs : Z.1[k]? = some (3, ci, n, fl)) (hf : fl[j]? = some 1) (x : Int64) : (gLay G Z.1 σ).set k (G.2.1 k, .inr (ci, (fl.mapIdx (fun i t => gF G.2.1 (σ.1 k) (σ.2 k) i t)).set j (.long x))) = gLay G Z.1 (gsL σ k j x) := by
  refine gLay_set hs ?_ (fun q hq => by simp [gsL, hq]) (fun q hq => by simp [gsL, hq])
  refine congrArg (fun z => (Sum.inr (ci, z) : va_E)) ?_
  apply List.ext_getElem?
  intro q
  rw [List.getElem?_set]
  by_cases hq : j = q
  · subst hq
    have hl : j < (fl.mapIdx (fun i t => gF G.2.1 (σ.1 k) (σ.2 k) i t)).length := by rw [List.length_mapIdx]; exact (List.getElem?_eq_some_iff.mp hf).1
    rw [if_pos rfl, if_pos hl, gFl _ _ _ hf]
    simp [gF, gsL, upd, vp_updL]
  · rw [if_neg hq]
    simp only [List.getElem?_mapIdx]
    cases fl[q]? with
    | none => rfl
    | some t =>
      match t with
      | 0 => simp [gF, gsL, upd, vp_updL]; try (exact fun e => absurd e.symm hq)
      | 1 => simp [gF, gsL, upd, vp_updL]; try (exact fun e => absurd e.symm hq)
      | t + 2 => rfl
theorem ww_putL (X : gX M G Z cc own nL ws rm ret) {ref C : String} {T : u_T} {N ci index k n j : Nat} {fl : List Nat} {x : Int64} {E : gS → Option α} (hd : decode cc pc = .ok (.putfield index, 3)) (hin : ∀ w ∈ u_ws C T N, w ∈ ws) (ty0 : Nat → FieldType) (hty : ∀ k, k < N → parseFieldDescriptor (T k).2.2.1 = some (ty0 k)) (hnm : ∀ a, a < N → ∀ b, b < N → a ≠ b → (T a).2.1 ≠ (T b).2.1) (hs : Z.1[k]? = some (3, ci, n, fl)) (hc : Z.2.2[ci]? = some (C, T, N)) (hj : j < N) (hf : fl[j]? = some 1) (hl : Cond.fieldLink own index ref (T j).2.1 (T j).2.2.1 ∈ ws) (hO : (T j).1 = ref) (hfin : (T j).2.2.2 = false) (hpd : parseFieldDescriptor (T j).2.2.1 = some .long) (hF : nm (gsL σ k j x) E = some out) (kk : ∀ σ1 : gS, σ1 = gsL σ k j x → E σ1 = some out → WW M Q G Z nL σ1 (pc + 3) lv st) : WW M Q G Z nL σ pc lv (.long x :: .ref (G.2.1 k) :: st) := fun H locs ls hP hS h => va_put X.1 X.2.1 X.2.2.2.2.1 hin ty0 hty hnm X.2.2.2.1 X.2.2.2.2.2.1 hP (gD X.2.2.2.2.2.2.1 σ) hS k (gLay_o hs) hc j hj (X.2.2.2.2.1 _ hl) (fun x hx => by rw [← hO]; exact hx) hfin hpd rfl rfl (by rw [List.length_mapIdx]; exact (List.getElem?_eq_some_iff.mp hf).1) hd (fun H1 locs1 hP1 _ hS1 => kk _ rfl hF H1 locs1 ls (by rw [gSet_putL hs hf] at hP1; exact hP1) hS1 h)
theorem W_zretN {p : Program} {l : Launch} {e : Env} {R : Room} {s : State} {m : MethodId} {args : Array Value} {below : List Frame} {meth : Method} {c : Code} {H : Heap} {locs : List Loc} {cells slots : Nat} {cc : ByteArray} {Qc : Array Value → State → Outcome → State → Prop} {free : Addr → Prop} {v w : Int32} {ty : FieldType} (hexec : p.tables.exec = Jvm.exec) (hb : c.code = cc) (hr : meth.sig.returnType = some ty) (hn : narrow ty (.int v) = .int w)
    (hq : ∀ t : State, t.heap = H → s.WarmedH t.vm → Qc args s (.returned (some (.int w))) t) (hf : ∀ q ∈ locs, free q.base)
    {pc : Nat} {ls : Array Slot} (hdg : decode cc pc = .ok (.ireturn, 1)) (hlocks : meth.locks = false) : W p l e R s m args below meth c H locs cells slots (MQ below Qc args s cells slots free) (F0 m pc ls [.int v]) := by
  intro T hT X
  obtain ⟨fs, hret, hrun, hended, hW, hframe⟩ := X.leave (v := some (.int w)) (hlocks := hlocks) (fun h => by rw [hr] at h; cases h)
  have hmeth' : T.vm.method? m = some meth := X.method'
  refine ⟨T.setFrames fs, ?_, .returned (some (.int w)), hrun, hended, hq _ hT hW, locs, ⟨⟨_, rfl⟩, hW, hframe⟩, hf⟩
  jvm_step X.here [X.here.top, hexec, hb, hdg, hmeth', hr, hn]
  (try refine ⟨rfl, ?_⟩); (try refine ⟨rfl, ?_⟩)
  first | (intro acts; rw [hret _ acts rfl rfl rfl]) | rw [hret _ _ rfl rfl rfl]
  exact Steps.refl _
theorem ww_iret {r : Int32} {σ' : gS} (X : gX M G Z cc own nL ws rm (some .int)) {x : Int32} (hd : decode cc pc = .ok (.ireturn, 1)) (e1 : x = r) (e2 : σ = σ') : WW M (gQi M G Z r σ') G Z nL σ pc lv [.int x] := by
  subst e1; subst e2
  intro H locs ls hP hS h
  exact W.iret X.1 X.2.1 X.2.2.2.2.2.2.2.2.2.2.1 (fun t ht _ => ⟨⟨x, σ, rfl, ⟨rfl, rfl⟩, by unfold gB; rw [ht]; exact hP⟩, hS.F ht⟩) hS.2.2 hd X.2.2.2.2.2.2.2.2.1
theorem ww_zret {r : Int32} {σ' : gS} (X : gX M G Z cc own nL ws rm (some .boolean)) {x : Int32} (hd : decode cc pc = .ok (.ireturn, 1)) (e1 : vp_nar .boolean x = r) (e2 : σ = σ') : WW M (gQi M G Z r σ') G Z nL σ pc lv [.int x] := by
  subst e1; subst e2
  intro H locs ls hP hS h
  exact W_zretN X.1 X.2.1 X.2.2.2.2.2.2.2.2.2.2.1 (w := vp_nar .boolean x) rfl (fun t ht _ => ⟨⟨_, σ, rfl, ⟨rfl, rfl⟩, by unfold gB; rw [ht]; exact hP⟩, hS.F ht⟩) hS.2.2 hd X.2.2.2.2.2.2.2.2.1
theorem ww_lret {r : Int64} {σ' : gS} (X : gX M G Z cc own nL ws rm (some .long)) {x : Int64} (hd : decode cc pc = .ok (.lreturn, 1)) (e1 : x = r) (e2 : σ = σ') : WW M (gQl M G Z r σ') G Z nL σ pc lv [.long x] := by
  subst e1; subst e2
  intro H locs ls hP hS h
  exact W.lret X.1 X.2.1 X.2.2.2.2.2.2.2.2.2.2.1 (fun t ht _ => ⟨⟨x, σ, rfl, ⟨rfl, rfl⟩, by unfold gB; rw [ht]; exact hP⟩, hS.F ht⟩) hS.2.2 hd X.2.2.2.2.2.2.2.2.1
theorem ww_vret {σ' : gS} (X : gX M G Z cc own nL ws rm none) (hd : decode cc pc = .ok (.return_, 1)) (e2 : σ = σ') : WW M (gQv M G Z σ') G Z nL σ pc lv [] := by
  subst e2
  intro H locs ls hP hS h
  exact W.vret X.1 X.2.1 X.2.2.2.2.2.2.2.2.2.2.1 (fun t ht _ => ⟨⟨σ, rfl, rfl, by unfold gB; rw [ht]; exact hP⟩, hS.F ht⟩) hS.2.2 hd X.2.2.2.2.2.2.2.2.1
theorem gBlind (G : gG) (Z : gZ) (av : List Value) (σ : gS) (hk : ∀ s U : State, U.vm = s.vm → U.heap = s.heap → G.2.2.2 s → G.2.2.2 U) : FrameBlind (gPc G Z av σ) := fun a U g mk q => by
  obtain ⟨h1, h2, h3, h4⟩ := q
  exact ⟨h1, h2, va_K.moved (u := U) (U := U.calling g mk a) (Vm.Alike.refl U.vm) h3, hk U _ rfl rfl h4⟩
def bd {β γ : Type} (o : Option β) (E : β → Option γ) : Option γ := match o with
  | some r => E r
  | none => none
def bd2 {β γ : Type} (o : Option (β × gS)) (E : β → gS → Option γ) : Option γ := match o with
  | some r => E r.1 r.2
  | none => none
theorem bd_some {β γ : Type} {o : Option β} {E : β → Option γ} {x : γ} (h : bd o E = some x) : ∃ r, o = some r ∧ E r = some x := by
  cases o with
  | none => cases h
  | some r => exact ⟨r, rfl, h⟩
theorem bd2_some {β γ : Type} {o : Option (β × gS)} {E : β → gS → Option γ} {x : γ} (h : bd2 o E = some x) : ∃ r σ', o = some (r, σ') ∧ E r σ' = some x := by
  cases o with
  | none => cases h
  | some r => exact ⟨r.1, r.2, rfl, h⟩
theorem ww_callVi (X : gX M G Z cc own nL ws rm ret) {y : MethodName} {bytes : ByteArray} {maxL n index : Nat} {rt : Option FieldType} {wsy ws' : List Cond} {rmy : Room} {As rest st : List Value} {r : Int32} {σ1 : gS} {k ci n0 : Nat} {fl : List Nat} {q : vw_C} (hd : decode cc pc = .ok (.invokevirtual index, 3)) (hM : gCi (mL M) y wsy rmy G Z (.ref (G.2.1 k) :: As) σ r σ1) (hw : wsy = Cond.code y bytes maxL rt :: ws') (hs : Z.1[k]? = some (3, ci, n0, fl)) (hc : Z.2.2[ci]? = some q) (hT : GoodIn ws (wsV own index q.1 y wsy)) (hy : y.cls = q.1 ∧ y.cls ≠ "java/lang/invoke/MethodHandle" ∧ y.cls ≠ "java/lang/invoke/VarHandle" ∧ (parseMethodDescriptor y.desc).map (fun d => d.parameters.length) = some n) (hrc : rmy.cells = 0 ∧ rmy.slots = 0) (hfr : rmy.frames + 1 ≤ rm.frames ∧ 8 + (maxL + 11) + rmy.locals ≤ rm.locals) (hn : As.length = n) (hst : st = As.reverse ++ .ref (G.2.1 k) :: rest) (hcat : (rest.map fun v => v.category).sum ≤ 8) (kk : WW M Q G Z nL σ1 (pc + 3) lv (.int r :: rest)) : WW M Q G Z nL σ pc lv st := by
  intro H locs ls hP hS h
  refine va_calli (va_runV (As := As) (rest := rest) ⟨X.1, X.2.1, X.2.2.1, X.2.2.2.1, X.2.2.2.2.1⟩ hM (cwV n X.2.2.2.2.1 hT hw hrc.1 hrc.2 hy (by rw [X.2.2.2.2.2.2.2.2.2.1]; exact hfr)) ⟨gBlind G Z _ σ X.2.2.2.2.2.2.1.2.2, va_recv X.2.2.2.2.2.1 hP hc (gLay_o hs), fun U hU hW => ⟨rfl, by rw [hU]; exact hP, va_K.moved hW.alike X.2.2.2.2.2.1, X.2.2.2.2.2.2.1.2.1 _ U hW (by rw [hU]; exact hS.1) (fun q h1 h2 => by rw [hU]; exact hS.2.1 q h1 h2) X.2.2.2.2.2.2.2.2.2.2.2⟩⟩ rfl hn h.1 hst (lv_room hcat) hd ⟨Nat.zero_le _, Nat.zero_le _⟩) hS (fun q _ h => h) (fun q h => h) (fun r9 u t H1 locs1 ht hvm hw9 hB hz hk hS1 => ?_)
  obtain ⟨rfl, rfl⟩ := hw9
  exact kk H1 locs1 ls (by unfold gB at hB; rw [ht] at hB; exact hB) hS1 h
theorem ww_callSi (X : gX M G Z cc own nL ws rm ret) {y : MethodName} {bytes : ByteArray} {maxL n index : Nat} {rt : Option FieldType} {wsy ws' : List Cond} {rmy : Room} {As rest st : List Value} {r : Int32} {σ1 : gS} (hd : decode cc pc = .ok (.invokestatic index, 3)) (hM : gCi (mL M) y wsy rmy G Z (As) σ r σ1) (hw : wsy = Cond.code y bytes maxL rt :: ws') (hT : GoodIn ws (va_wsS own index y wsy)) (hy : y.cls ≠ "java/lang/invoke/MethodHandle" ∧ y.cls ≠ "java/lang/invoke/VarHandle" ∧ (parseMethodDescriptor y.desc).map (fun d => d.parameters.length) = some n) (hrc : rmy.cells = 0 ∧ rmy.slots = 0) (hfr : rmy.frames + 1 ≤ rm.frames ∧ 8 + (maxL + 11) + rmy.locals ≤ rm.locals) (hn : As.length = n) (hst : st = As.reverse ++ rest) (hcat : (rest.map fun v => v.category).sum ≤ 8) (kk : WW M Q G Z nL σ1 (pc + 3) lv (.int r :: rest)) : WW M Q G Z nL σ pc lv st := by
  intro H locs ls hP hS h
  refine va_calli (va_runS (As := As) (rest := rest) ⟨X.1, X.2.1, X.2.2.1, X.2.2.2.1, X.2.2.2.2.1⟩ hM (va_cwS n X.2.2.2.2.1 hT hw hrc.1 hrc.2 hy (by rw [X.2.2.2.2.2.2.2.2.2.1]; exact hfr)) ⟨gBlind G Z _ σ X.2.2.2.2.2.2.1.2.2, fun U hU hW => ⟨rfl, by rw [hU]; exact hP, va_K.moved hW.alike X.2.2.2.2.2.1, X.2.2.2.2.2.2.1.2.1 _ U hW (by rw [hU]; exact hS.1) (fun q h1 h2 => by rw [hU]; exact hS.2.1 q h1 h2) X.2.2.2.2.2.2.2.2.2.2.2⟩⟩ rfl hn h.1 hst (lv_room hcat) hd ⟨Nat.zero_le _, Nat.zero_le _⟩) hS (fun q _ h => h) (fun q h => h) (fun r9 u t H1 locs1 ht hvm hw9 hB hz hk hS1 => ?_)
  obtain ⟨rfl, rfl⟩ := hw9
  exact kk H1 locs1 ls (by unfold gB at hB; rw [ht] at hB; exact hB) hS1 h
theorem ww_callVl (X : gX M G Z cc own nL ws rm ret) {y : MethodName} {bytes : ByteArray} {maxL n index : Nat} {rt : Option FieldType} {wsy ws' : List Cond} {rmy : Room} {As rest st : List Value} {r : Int64} {σ1 : gS} {k ci n0 : Nat} {fl : List Nat} {q : vw_C} (hd : decode cc pc = .ok (.invokevirtual index, 3)) (hM : gCl (mL M) y wsy rmy G Z (.ref (G.2.1 k) :: As) σ r σ1) (hw : wsy = Cond.code y bytes maxL rt :: ws') (hs : Z.1[k]? = some (3, ci, n0, fl)) (hc : Z.2.2[ci]? = some q) (hT : GoodIn ws (wsV own index q.1 y wsy)) (hy : y.cls = q.1 ∧ y.cls ≠ "java/lang/invoke/MethodHandle" ∧ y.cls ≠ "java/lang/invoke/VarHandle" ∧ (parseMethodDescriptor y.desc).map (fun d => d.parameters.length) = some n) (hrc : rmy.cells = 0 ∧ rmy.slots = 0) (hfr : rmy.frames + 1 ≤ rm.frames ∧ 8 + (maxL + 11) + rmy.locals ≤ rm.locals) (hn : As.length = n) (hst : st = As.reverse ++ .ref (G.2.1 k) :: rest) (hcat : (rest.map fun v => v.category).sum ≤ 8) (kk : WW M Q G Z nL σ1 (pc + 3) lv (.long r :: rest)) : WW M Q G Z nL σ pc lv st := by
  intro H locs ls hP hS h
  refine va_calll (va_runV (As := As) (rest := rest) ⟨X.1, X.2.1, X.2.2.1, X.2.2.2.1, X.2.2.2.2.1⟩ hM (cwV n X.2.2.2.2.1 hT hw hrc.1 hrc.2 hy (by rw [X.2.2.2.2.2.2.2.2.2.1]; exact hfr)) ⟨gBlind G Z _ σ X.2.2.2.2.2.2.1.2.2, va_recv X.2.2.2.2.2.1 hP hc (gLay_o hs), fun U hU hW => ⟨rfl, by rw [hU]; exact hP, va_K.moved hW.alike X.2.2.2.2.2.1, X.2.2.2.2.2.2.1.2.1 _ U hW (by rw [hU]; exact hS.1) (fun q h1 h2 => by rw [hU]; exact hS.2.1 q h1 h2) X.2.2.2.2.2.2.2.2.2.2.2⟩⟩ rfl hn h.1 hst (lv_room hcat) hd ⟨Nat.zero_le _, Nat.zero_le _⟩) hS (fun q _ h => h) (fun q h => h) (fun r9 u t H1 locs1 ht hvm hw9 hB hz hk hS1 => ?_)
  obtain ⟨rfl, rfl⟩ := hw9
  exact kk H1 locs1 ls (by unfold gB at hB; rw [ht] at hB; exact hB) hS1 h
theorem ww_callSl (X : gX M G Z cc own nL ws rm ret) {y : MethodName} {bytes : ByteArray} {maxL n index : Nat} {rt : Option FieldType} {wsy ws' : List Cond} {rmy : Room} {As rest st : List Value} {r : Int64} {σ1 : gS} (hd : decode cc pc = .ok (.invokestatic index, 3)) (hM : gCl (mL M) y wsy rmy G Z (As) σ r σ1) (hw : wsy = Cond.code y bytes maxL rt :: ws') (hT : GoodIn ws (va_wsS own index y wsy)) (hy : y.cls ≠ "java/lang/invoke/MethodHandle" ∧ y.cls ≠ "java/lang/invoke/VarHandle" ∧ (parseMethodDescriptor y.desc).map (fun d => d.parameters.length) = some n) (hrc : rmy.cells = 0 ∧ rmy.slots = 0) (hfr : rmy.frames + 1 ≤ rm.frames ∧ 8 + (maxL + 11) + rmy.locals ≤ rm.locals) (hn : As.length = n) (hst : st = As.reverse ++ rest) (hcat : (rest.map fun v => v.category).sum ≤ 8) (kk : WW M Q G Z nL σ1 (pc + 3) lv (.long r :: rest)) : WW M Q G Z nL σ pc lv st := by
  intro H locs ls hP hS h
  refine va_calll (va_runS (As := As) (rest := rest) ⟨X.1, X.2.1, X.2.2.1, X.2.2.2.1, X.2.2.2.2.1⟩ hM (va_cwS n X.2.2.2.2.1 hT hw hrc.1 hrc.2 hy (by rw [X.2.2.2.2.2.2.2.2.2.1]; exact hfr)) ⟨gBlind G Z _ σ X.2.2.2.2.2.2.1.2.2, fun U hU hW => ⟨rfl, by rw [hU]; exact hP, va_K.moved hW.alike X.2.2.2.2.2.1, X.2.2.2.2.2.2.1.2.1 _ U hW (by rw [hU]; exact hS.1) (fun q h1 h2 => by rw [hU]; exact hS.2.1 q h1 h2) X.2.2.2.2.2.2.2.2.2.2.2⟩⟩ rfl hn h.1 hst (lv_room hcat) hd ⟨Nat.zero_le _, Nat.zero_le _⟩) hS (fun q _ h => h) (fun q h => h) (fun r9 u t H1 locs1 ht hvm hw9 hB hz hk hS1 => ?_)
  obtain ⟨rfl, rfl⟩ := hw9
  exact kk H1 locs1 ls (by unfold gB at hB; rw [ht] at hB; exact hB) hS1 h
theorem ww_callVv (X : gX M G Z cc own nL ws rm ret) {y : MethodName} {bytes : ByteArray} {maxL n index : Nat} {rt : Option FieldType} {wsy ws' : List Cond} {rmy : Room} {As rest st : List Value} {σ1 : gS} {k ci n0 : Nat} {fl : List Nat} {q : vw_C} (hd : decode cc pc = .ok (.invokevirtual index, 3)) (hM : gCv (mL M) y wsy rmy G Z (.ref (G.2.1 k) :: As) σ σ1) (hw : wsy = Cond.code y bytes maxL rt :: ws') (hs : Z.1[k]? = some (3, ci, n0, fl)) (hc : Z.2.2[ci]? = some q) (hT : GoodIn ws (wsV own index q.1 y wsy)) (hy : y.cls = q.1 ∧ y.cls ≠ "java/lang/invoke/MethodHandle" ∧ y.cls ≠ "java/lang/invoke/VarHandle" ∧ (parseMethodDescriptor y.desc).map (fun d => d.parameters.length) = some n) (hrc : rmy.cells = 0 ∧ rmy.slots = 0) (hfr : rmy.frames + 1 ≤ rm.frames ∧ 8 + (maxL + 11) + rmy.locals ≤ rm.locals) (hn : As.length = n) (hst : st = As.reverse ++ .ref (G.2.1 k) :: rest) (hcat : (rest.map fun v => v.category).sum ≤ 8) (kk : WW M Q G Z nL σ1 (pc + 3) lv (rest)) : WW M Q G Z nL σ pc lv st := by
  intro H locs ls hP hS h
  refine va_callv (va_runV (As := As) (rest := rest) ⟨X.1, X.2.1, X.2.2.1, X.2.2.2.1, X.2.2.2.2.1⟩ hM (cwV n X.2.2.2.2.1 hT hw hrc.1 hrc.2 hy (by rw [X.2.2.2.2.2.2.2.2.2.1]; exact hfr)) ⟨gBlind G Z _ σ X.2.2.2.2.2.2.1.2.2, va_recv X.2.2.2.2.2.1 hP hc (gLay_o hs), fun U hU hW => ⟨rfl, by rw [hU]; exact hP, va_K.moved hW.alike X.2.2.2.2.2.1, X.2.2.2.2.2.2.1.2.1 _ U hW (by rw [hU]; exact hS.1) (fun q h1 h2 => by rw [hU]; exact hS.2.1 q h1 h2) X.2.2.2.2.2.2.2.2.2.2.2⟩⟩ rfl hn h.1 hst (lv_room hcat) hd ⟨Nat.zero_le _, Nat.zero_le _⟩) hS (fun q _ h => h) (fun q h => h) (fun u t H1 locs1 ht hvm hw9 hB hz hk hS1 => ?_)
  obtain rfl := hw9
  exact kk H1 locs1 ls (by unfold gB at hB; rw [ht] at hB; exact hB) hS1 h
theorem ww_callSv (X : gX M G Z cc own nL ws rm ret) {y : MethodName} {bytes : ByteArray} {maxL n index : Nat} {rt : Option FieldType} {wsy ws' : List Cond} {rmy : Room} {As rest st : List Value} {σ1 : gS} (hd : decode cc pc = .ok (.invokestatic index, 3)) (hM : gCv (mL M) y wsy rmy G Z (As) σ σ1) (hw : wsy = Cond.code y bytes maxL rt :: ws') (hT : GoodIn ws (va_wsS own index y wsy)) (hy : y.cls ≠ "java/lang/invoke/MethodHandle" ∧ y.cls ≠ "java/lang/invoke/VarHandle" ∧ (parseMethodDescriptor y.desc).map (fun d => d.parameters.length) = some n) (hrc : rmy.cells = 0 ∧ rmy.slots = 0) (hfr : rmy.frames + 1 ≤ rm.frames ∧ 8 + (maxL + 11) + rmy.locals ≤ rm.locals) (hn : As.length = n) (hst : st = As.reverse ++ rest) (hcat : (rest.map fun v => v.category).sum ≤ 8) (kk : WW M Q G Z nL σ1 (pc + 3) lv (rest)) : WW M Q G Z nL σ pc lv st := by
  intro H locs ls hP hS h
  refine va_callv (va_runS (As := As) (rest := rest) ⟨X.1, X.2.1, X.2.2.1, X.2.2.2.1, X.2.2.2.2.1⟩ hM (va_cwS n X.2.2.2.2.1 hT hw hrc.1 hrc.2 hy (by rw [X.2.2.2.2.2.2.2.2.2.1]; exact hfr)) ⟨gBlind G Z _ σ X.2.2.2.2.2.2.1.2.2, fun U hU hW => ⟨rfl, by rw [hU]; exact hP, va_K.moved hW.alike X.2.2.2.2.2.1, X.2.2.2.2.2.2.1.2.1 _ U hW (by rw [hU]; exact hS.1) (fun q h1 h2 => by rw [hU]; exact hS.2.1 q h1 h2) X.2.2.2.2.2.2.2.2.2.2.2⟩⟩ rfl hn h.1 hst (lv_room hcat) hd ⟨Nat.zero_le _, Nat.zero_le _⟩) hS (fun q _ h => h) (fun q h => h) (fun u t H1 locs1 ht hvm hw9 hB hz hk hS1 => ?_)
  obtain rfl := hw9
  exact kk H1 locs1 ls (by unfold gB at hB; rw [ht] at hB; exact hB) hS1 h
theorem ww_mmin (X : gX M G Z cc own nL ws rm ret) {x y : Int32} {index : Nat} (hd : decode cc pc = .ok (.invokestatic index, 3)) (hl : Cond.methodLink own index Lib.Math.min.name ∈ ws) (h1 : Cond.static Lib.Math.min.name ∈ ws) (h2 : Cond.initialized "java/lang/Math" ∈ ws) (h3 : Cond.code Lib.Math.min.name Lib.Math.min.code 2 (some .int) ∈ ws) (hfr : 1 ≤ rm.frames ∧ (st.map fun v => v.category).sum + 13 ≤ rm.locals) (kk : WW M Q G Z nL σ (pc + 3) lv (.int (if y < x then y else x) :: st)) : WW M Q G Z nL σ pc lv (.int y :: .int x :: st) := fun H locs ls hP hS h => va_mmin X.1 X.2.1 (X.2.2.1.trans h.1.symm) X.2.2.2.1 (X.2.2.2.2.1 _ hl) (X.2.2.2.2.1 _ h1) (X.2.2.2.2.1 _ h2) (X.2.2.2.2.1 _ h3) (by rw [X.2.2.2.2.2.2.2.2.2.1]; exact hfr.1) (by rw [X.2.2.2.2.2.2.2.2.2.1]; exact hfr.2) (Nat.zero_le _) (Nat.zero_le _) hd (kk H locs ls hP hS h)
theorem ww_mmax (X : gX M G Z cc own nL ws rm ret) {x y : Int32} {index : Nat} (hd : decode cc pc = .ok (.invokestatic index, 3)) (hl : Cond.methodLink own index Lib.Math.max.name ∈ ws) (h1 : Cond.static Lib.Math.max.name ∈ ws) (h2 : Cond.initialized "java/lang/Math" ∈ ws) (h3 : Cond.code Lib.Math.max.name Lib.Math.max.code 2 (some .int) ∈ ws) (hfr : 1 ≤ rm.frames ∧ (st.map fun v => v.category).sum + 13 ≤ rm.locals) (kk : WW M Q G Z nL σ (pc + 3) lv (.int (if x < y then y else x) :: st)) : WW M Q G Z nL σ pc lv (.int y :: .int x :: st) := fun H locs ls hP hS h => va_mmax X.1 X.2.1 (X.2.2.1.trans h.1.symm) X.2.2.2.1 (X.2.2.2.2.1 _ hl) (X.2.2.2.2.1 _ h1) (X.2.2.2.2.1 _ h2) (X.2.2.2.2.1 _ h3) (by rw [X.2.2.2.2.2.2.2.2.2.1]; exact hfr.1) (by rw [X.2.2.2.2.2.2.2.2.2.1]; exact hfr.2) (Nat.zero_le _) (Nat.zero_le _) hd (kk H locs ls hP hS h)
theorem ww_mabs (X : gX M G Z cc own nL ws rm ret) {x : Int32} {index : Nat} (hd : decode cc pc = .ok (.invokestatic index, 3)) (hl : Cond.methodLink own index Lib.Math.abs.name ∈ ws) (h1 : Cond.static Lib.Math.abs.name ∈ ws) (h2 : Cond.initialized "java/lang/Math" ∈ ws) (h3 : Cond.code Lib.Math.abs.name Lib.Math.abs.code 1 (some .int) ∈ ws) (hfr : 1 ≤ rm.frames ∧ (st.map fun v => v.category).sum + 13 ≤ rm.locals) (kk : WW M Q G Z nL σ (pc + 3) lv (.int (if 0 ≤ x then x else 0 - x) :: st)) : WW M Q G Z nL σ pc lv (.int x :: st) := fun H locs ls hP hS h => va_mabs X.1 X.2.1 (X.2.2.1.trans h.1.symm) X.2.2.2.1 (X.2.2.2.2.1 _ hl) (X.2.2.2.2.1 _ h1) (X.2.2.2.2.1 _ h2) (X.2.2.2.2.1 _ h3) (by rw [X.2.2.2.2.2.2.2.2.2.1]; exact hfr.1) (by rw [X.2.2.2.2.2.2.2.2.2.1]; exact hfr.2) (Nat.zero_le _) (Nat.zero_le _) hd (kk H locs ls hP hS h)
def gcp (σ : gS) (a b : Nat) (sp dp n : Nat) : gS := (fun k => if k = b then va_cpy (σ.1 a) (σ.1 b) sp dp n else σ.1 k, σ.2)
theorem gLay_cp {a b t n : Nat} {r : List Nat} (h : Z.1[b]? = some (0, t, n, r)) (sp dp m : Nat) : (gLay G Z.1 σ).set b (G.2.1 b, .inl (gTy G t, n, .inl (va_cpy (σ.1 a) (σ.1 b) sp dp m))) = gLay G Z.1 (gcp σ a b sp dp m) :=
  gLay_set h (by simp [gEl, gcp]) (fun j hj => by simp [gcp, hj]) (fun j hj => rfl)
def gcb (sp dp n : Int32) (n0 n1 : Nat) : Bool := decide (¬ sp < 0 ∧ ¬ dp < 0 ∧ ¬ n < 0 ∧ sp.toNatClampNeg + n.toNatClampNeg ≤ n0 ∧ dp.toNatClampNeg + n.toNatClampNeg ≤ n1)
theorem ww_copyi (X : gX M G Z cc own nL ws rm ret) {index a b t n0 n1 : Nat} {r0 r1 : List Nat} {sp dp n : Int32} {E : gS → Option α} (hd : decode cc pc = .ok (.invokestatic index, 3)) (hl : Cond.methodLink own index arraycopyName ∈ ws) (h1 : Cond.native arraycopyName ∈ ws) (h2 : Cond.static arraycopyName ∈ ws) (h3 : Cond.initialized "java/lang/System" ∈ ws) (hs0 : Z.1[a]? = some (0, t, n0, r0)) (hs1 : Z.1[b]? = some (0, t, n1, r1)) (hy : Z.2.1[t]? = some .int) (hfr : 1 ≤ rm.frames ∧ (st.map fun v => v.category).sum + (nativeFrameWords "java/lang/System" "arraycopy" 5 + 11) ≤ rm.locals)
    (hF : gd (gcb sp dp n n0 n1) (nm (gcp σ a b sp.toNatClampNeg dp.toNatClampNeg n.toNatClampNeg) E) = some out) (kk : ∀ σ1 : gS, σ1 = gcp σ a b sp.toNatClampNeg dp.toNatClampNeg n.toNatClampNeg → gcb sp dp n n0 n1 = true → E σ1 = some out → WW M Q G Z nL σ1 (pc + 3) lv st) : WW M Q G Z nL σ pc lv (.int n :: .int dp :: .ref (G.2.1 b) :: .int sp :: .ref (G.2.1 a) :: st) := by
  obtain ⟨hb, hE⟩ := gd_some hF
  have hb2 : ¬ sp < 0 ∧ ¬ dp < 0 ∧ ¬ n < 0 ∧ sp.toNatClampNeg + n.toNatClampNeg ≤ n0 ∧ dp.toNatClampNeg + n.toNatClampNeg ≤ n1 := by unfold gcb at hb; exact of_decide_eq_true hb
  obtain ⟨g1, g2, g3, g4, g5⟩ := hb2
  intro H locs ls hP hS h
  exact va_copyi X.1 X.2.1 (X.2.2.1.trans h.1.symm) X.2.2.2.1 (X.2.2.2.2.1 _ hl) (X.2.2.2.2.1 _ h1) (X.2.2.2.2.1 _ h2) (X.2.2.2.2.1 _ h3) X.2.2.2.2.2.1 hP (gD X.2.2.2.2.2.2.1 σ) hS a b t t (gLay_i hs0) (gLay_i hs1) (gTy_at X hy) (gTy_at X hy) rfl g1 g2 g3 g4 g5 (fun i hi => rfl) (by rw [X.2.2.2.2.2.2.2.2.2.1]; exact hfr.1) (by rw [X.2.2.2.2.2.2.2.2.2.1]; exact hfr.2) hd (fun H1 locs1 hP1 _ hS1 => kk _ rfl hb hE H1 locs1 ls (by rw [gLay_cp hs1] at hP1; exact hP1) hS1 h)
theorem ww_callNi (X : gX M G Z cc own nL ws rm ret) {y : MethodName} {host : String} {bytes : ByteArray} {maxL n index : Nat} {rt : Option FieldType} {wsy ws' : List Cond} {rmy : Room} {As rest st : List Value} {r : Int32} {σ1 : gS} (hd : decode cc pc = .ok (.invokestatic index, 3)) (hM : gCi (mL M) y wsy rmy G Z As σ r σ1) (hw : wsy = Cond.code y bytes maxL rt :: ws') (hN : ∀ s, G.2.2.2 s → va_Nw (.methodLinkNest own index y host) s) (hT : GoodIn ws wsy) (hsta : Cond.static y ∈ ws) (hini : Cond.initialized y.cls ∈ ws) (hy : y.cls ≠ "java/lang/invoke/MethodHandle" ∧ y.cls ≠ "java/lang/invoke/VarHandle" ∧ (parseMethodDescriptor y.desc).map (fun d => d.parameters.length) = some n) (hrc : rmy.cells = 0 ∧ rmy.slots = 0) (hfr : rmy.frames + 1 ≤ rm.frames ∧ 8 + (maxL + 11) + rmy.locals ≤ rm.locals) (hn : As.length = n) (hst : st = As.reverse ++ rest) (hcat : (rest.map fun v => v.category).sum ≤ 8) (kk : WW M Q G Z nL σ1 (pc + 3) lv (.int r :: rest)) : WW M Q G Z nL σ pc lv st := by
  intro H locs ls hP hS h
  refine va_calli (va_runSN (As := As) (rest := rest) ⟨X.1, X.2.1, X.2.2.1, X.2.2.2.1, X.2.2.2.2.1⟩ hM ⟨va_cnB n X.2.2.2.2.1 hT hw hrc.1 hrc.2 (hN _ X.2.2.2.2.2.2.2.2.2.2.2) (X.2.2.2.2.1 _ hini) hy (by rw [X.2.2.2.2.2.2.2.2.2.1]; exact hfr), X.2.2.2.2.1 _ hsta, trivial⟩ ⟨gBlind G Z _ σ X.2.2.2.2.2.2.1.2.2, fun U hU hW => ⟨rfl, by rw [hU]; exact hP, va_K.moved hW.alike X.2.2.2.2.2.1, X.2.2.2.2.2.2.1.2.1 _ U hW (by rw [hU]; exact hS.1) (fun q h1 h2 => by rw [hU]; exact hS.2.1 q h1 h2) X.2.2.2.2.2.2.2.2.2.2.2⟩⟩ rfl hn h.1 hst (lv_room hcat) hd ⟨Nat.zero_le _, Nat.zero_le _⟩) hS (fun q _ h => h) (fun q h => h) (fun r9 u t H1 locs1 ht hvm hw9 hB hz hk hS1 => ?_)
  obtain ⟨rfl, rfl⟩ := hw9
  exact kk H1 locs1 ls (by unfold gB at hB; rw [ht] at hB; exact hB) hS1 h
theorem ww_callNl (X : gX M G Z cc own nL ws rm ret) {y : MethodName} {host : String} {bytes : ByteArray} {maxL n index : Nat} {rt : Option FieldType} {wsy ws' : List Cond} {rmy : Room} {As rest st : List Value} {r : Int64} {σ1 : gS} (hd : decode cc pc = .ok (.invokestatic index, 3)) (hM : gCl (mL M) y wsy rmy G Z As σ r σ1) (hw : wsy = Cond.code y bytes maxL rt :: ws') (hN : ∀ s, G.2.2.2 s → va_Nw (.methodLinkNest own index y host) s) (hT : GoodIn ws wsy) (hsta : Cond.static y ∈ ws) (hini : Cond.initialized y.cls ∈ ws) (hy : y.cls ≠ "java/lang/invoke/MethodHandle" ∧ y.cls ≠ "java/lang/invoke/VarHandle" ∧ (parseMethodDescriptor y.desc).map (fun d => d.parameters.length) = some n) (hrc : rmy.cells = 0 ∧ rmy.slots = 0) (hfr : rmy.frames + 1 ≤ rm.frames ∧ 8 + (maxL + 11) + rmy.locals ≤ rm.locals) (hn : As.length = n) (hst : st = As.reverse ++ rest) (hcat : (rest.map fun v => v.category).sum ≤ 8) (kk : WW M Q G Z nL σ1 (pc + 3) lv (.long r :: rest)) : WW M Q G Z nL σ pc lv st := by
  intro H locs ls hP hS h
  refine va_calll (va_runSN (As := As) (rest := rest) ⟨X.1, X.2.1, X.2.2.1, X.2.2.2.1, X.2.2.2.2.1⟩ hM ⟨va_cnB n X.2.2.2.2.1 hT hw hrc.1 hrc.2 (hN _ X.2.2.2.2.2.2.2.2.2.2.2) (X.2.2.2.2.1 _ hini) hy (by rw [X.2.2.2.2.2.2.2.2.2.1]; exact hfr), X.2.2.2.2.1 _ hsta, trivial⟩ ⟨gBlind G Z _ σ X.2.2.2.2.2.2.1.2.2, fun U hU hW => ⟨rfl, by rw [hU]; exact hP, va_K.moved hW.alike X.2.2.2.2.2.1, X.2.2.2.2.2.2.1.2.1 _ U hW (by rw [hU]; exact hS.1) (fun q h1 h2 => by rw [hU]; exact hS.2.1 q h1 h2) X.2.2.2.2.2.2.2.2.2.2.2⟩⟩ rfl hn h.1 hst (lv_room hcat) hd ⟨Nat.zero_le _, Nat.zero_le _⟩) hS (fun q _ h => h) (fun q h => h) (fun r9 u t H1 locs1 ht hvm hw9 hB hz hk hS1 => ?_)
  obtain ⟨rfl, rfl⟩ := hw9
  exact kk H1 locs1 ls (by unfold gB at hB; rw [ht] at hB; exact hB) hS1 h
theorem ww_callNv (X : gX M G Z cc own nL ws rm ret) {y : MethodName} {host : String} {bytes : ByteArray} {maxL n index : Nat} {rt : Option FieldType} {wsy ws' : List Cond} {rmy : Room} {As rest st : List Value} {σ1 : gS} (hd : decode cc pc = .ok (.invokestatic index, 3)) (hM : gCv (mL M) y wsy rmy G Z As σ σ1) (hw : wsy = Cond.code y bytes maxL rt :: ws') (hN : ∀ s, G.2.2.2 s → va_Nw (.methodLinkNest own index y host) s) (hT : GoodIn ws wsy) (hsta : Cond.static y ∈ ws) (hini : Cond.initialized y.cls ∈ ws) (hy : y.cls ≠ "java/lang/invoke/MethodHandle" ∧ y.cls ≠ "java/lang/invoke/VarHandle" ∧ (parseMethodDescriptor y.desc).map (fun d => d.parameters.length) = some n) (hrc : rmy.cells = 0 ∧ rmy.slots = 0) (hfr : rmy.frames + 1 ≤ rm.frames ∧ 8 + (maxL + 11) + rmy.locals ≤ rm.locals) (hn : As.length = n) (hst : st = As.reverse ++ rest) (hcat : (rest.map fun v => v.category).sum ≤ 8) (kk : WW M Q G Z nL σ1 (pc + 3) lv (rest)) : WW M Q G Z nL σ pc lv st := by
  intro H locs ls hP hS h
  refine va_callv (va_runSN (As := As) (rest := rest) ⟨X.1, X.2.1, X.2.2.1, X.2.2.2.1, X.2.2.2.2.1⟩ hM ⟨va_cnB n X.2.2.2.2.1 hT hw hrc.1 hrc.2 (hN _ X.2.2.2.2.2.2.2.2.2.2.2) (X.2.2.2.2.1 _ hini) hy (by rw [X.2.2.2.2.2.2.2.2.2.1]; exact hfr), X.2.2.2.2.1 _ hsta, trivial⟩ ⟨gBlind G Z _ σ X.2.2.2.2.2.2.1.2.2, fun U hU hW => ⟨rfl, by rw [hU]; exact hP, va_K.moved hW.alike X.2.2.2.2.2.1, X.2.2.2.2.2.2.1.2.1 _ U hW (by rw [hU]; exact hS.1) (fun q h1 h2 => by rw [hU]; exact hS.2.1 q h1 h2) X.2.2.2.2.2.2.2.2.2.2.2⟩⟩ rfl hn h.1 hst (lv_room hcat) hd ⟨Nat.zero_le _, Nat.zero_le _⟩) hS (fun q _ h => h) (fun q h => h) (fun u t H1 locs1 ht hvm hw9 hB hz hk hS1 => ?_)
  obtain rfl := hw9
  exact kk H1 locs1 ls (by unfold gB at hB; rw [ht] at hB; exact hB) hS1 h
def lpc {S β : Type} : Nat → ((S → Option β) → S → Option β) → S → Option β
  | 0, _, _ => none
  | n + 1, B, s => B (lpc n B) s
theorem lpc_ind {S β : Type} {B : (S → Option β) → S → Option β} {o : β} {P : S → Prop} (step : ∀ (rec : S → Option β) (s : S), (∀ s', rec s' = some o → P s') → B rec s = some o → P s) : ∀ (n : Nat) (s : S), lpc n B s = some o → P s
  | 0, s, h => by cases h
  | n + 1, s, h => step (lpc n B) s (fun s' h' => lpc_ind step n s' h') h
end GR
