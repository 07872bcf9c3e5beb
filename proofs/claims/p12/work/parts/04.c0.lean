section GE
variable {M : gM} {Q : State → Prop} {G : gG} {Z : gZ} {cc : ByteArray} {own : String} {nL : Nat} {ws : List Cond} {rm : Room} {ret : Option FieldType} {σ : gS} {pc : Nat} {lv : List (Nat × Value)} {st : List Value} {α : Type} {out : α}
/-- where the constants outside the world stand: strings, their bytes, others -/
noncomputable abbrev gEx : Type := (Nat → Nat) × (Nat → Nat) × (Nat → Nat)
/-- a constant of which only 'a reference or null' is known: 0 is null -/
noncomputable def gOv (ex : gEx) : Value := match ex.2.2 0 with
  | 0 => .null
  | n + 1 => .ref n
theorem gXk (X : gX M G Z cc own nL ws rm ret) : G.2.2.2 (mS M) := X.2.2.2.2.2.2.2.2.2.2.2
theorem gEnterF {l : Launch} {y : MethodName} {ws ws' : List Cond} {rm : Room} {cc : ByteArray} {maxL : Nat} {ret : Option FieldType} {G : gG} {Z : gZ} {av : List Value} {lv : List (Nat × Value)} {σ : gS} {Qc : Array Value → State → Outcome → State → Prop}
    (hy : plainFor y = true) (hw : ws = Cond.code y cc maxL ret :: ws') (hrc : rm.cells = 0 ∧ rm.slots = 0) (hG : gOK G Z.1) (hT : G.2.2.1.map (fun q => q.2) = Z.2.1) (hlen : (lg_sl av).length ≤ maxL) (hlv : lv_args 0 av = lv)
    (body : ∀ M : gM, gX M G Z cc y.cls maxL ws rm ret → mL M = l → WW M (MQ (mB M) Qc (mA M) (mS M) 0 0 (gA G Z.1)) G Z maxL σ 0 lv []) :
    Met l y ws rm (gPc G Z av σ) Qc 0 0 (gA G Z.1) := by
  refine va_MetF (cc := cc) (maxL := maxL) (ret := ret) hy hw ?_
  intro p e s m args below meth c s₁ B hml hv
  obtain ⟨rfl, hP, hK, hE⟩ := hv
  have hl := lv_entry av (n := maxL) hlen
  rw [lg_entry_eq]
  rw [hlv] at hl
  exact body (p, l, e, (headSpec ws rm).room, s, m, av.toArray, below, meth, c) ⟨B.exec, B.bytes, hml, findClass_of_methodNamed B.named, atoms_spec (ws := ws) B.pre, hK, hG, hT, B.notSynchronized, rfl, B.returns, hE⟩ rfl s.heap [] _ hP va_S.rf hl
theorem ww_getE (X : gX M G Z cc own nL ws rm ret) {o ref n d : String} {index q : Nat} {v : Value} (hd : decode cc pc = .ok (.getfield index, 3)) (hE : va_OF o n d v q (gA G Z.1) (mS M) (mS M).heap) (hl : Cond.fieldLink own index ref n d ∈ ws) (hO : o = ref) (kk : WW M Q G Z nL σ (pc + 3) lv (v :: st)) : WW M Q G Z nL σ pc lv (.ref q :: st) := fun H locs ls hP hS h => vk_getf X.1 X.2.1 hE hS X.2.2.2.1 (X.2.2.2.2.1 _ hl) (fun x hx => by rw [← hO]; exact hx) hd (kk H locs ls hP hS h)
theorem ww_lenE (X : gX M G Z cc own nL ws rm ret) {ty : FieldType} {t N : Nat} {f : Nat → Value} {v : Int32} (hd : decode cc pc = .ok (.arraylength, 1)) (hT : va_T ty t N f (gA G Z.1) (mS M) (mS M).heap) (hv : Int32.ofNat N = v) (kk : WW M Q G Z nL σ (pc + 1) lv (.int v :: st)) : WW M Q G Z nL σ pc lv (.ref t :: st) := fun H locs ls hP hS h => va_tlen X.1 X.2.1 hT hS hv hd (kk H locs ls hP hS h)
theorem ww_tbE (X : gX M G Z cc own nL ws rm ret) {t N : Nat} {g : Nat → Int32} {i : Int32} {E : Int32 → Option α} (hd : decode cc pc = .ok (.baload, 1)) (hT : va_T .byte t N (fun j => .int (g j)) (gA G Z.1) (mS M) (mS M).heap) (hF : gd (gb i N) (nm (g i.toNatClampNeg) E) = some out) (kk : ∀ v : Int32, v = g i.toNatClampNeg → gb i N = true → E v = some out → WW M Q G Z nL σ (pc + 1) lv (.int v :: st)) : WW M Q G Z nL σ pc lv (.int i :: .ref t :: st) := by
  obtain ⟨hb, hE⟩ := gd_some hF
  exact fun H locs ls hP hS h => va_tb X.1 X.2.1 hT hS (gb_in hb) rfl hd (kk _ rfl hb hE H locs ls hP hS h)
theorem ww_tiE (X : gX M G Z cc own nL ws rm ret) {t N : Nat} {g : Nat → Int32} {i : Int32} {E : Int32 → Option α} (hd : decode cc pc = .ok (.iaload, 1)) (hT : va_T .int t N (fun j => .int (g j)) (gA G Z.1) (mS M) (mS M).heap) (hF : gd (gb i N) (nm (g i.toNatClampNeg) E) = some out) (kk : ∀ v : Int32, v = g i.toNatClampNeg → gb i N = true → E v = some out → WW M Q G Z nL σ (pc + 1) lv (.int v :: st)) : WW M Q G Z nL σ pc lv (.int i :: .ref t :: st) := by
  obtain ⟨hb, hE⟩ := gd_some hF
  exact fun H locs ls hP hS h => va_ti X.1 X.2.1 hT hS (gb_in hb) rfl hd (kk _ rfl hb hE H locs ls hP hS h)
theorem ww_getsE (X : gX M G Z cc own nL ws rm ret) {C ref n d : String} {index : Nat} {v : Value} (hd : decode cc pc = .ok (.getstatic index, 3)) (hZ : va_Z C n d v (gA G Z.1) (mS M) (mS M).heap) (hl : Cond.fieldLink own index ref n d ∈ ws) (hO : C = ref) (kk : WW M Q G Z nL σ (pc + 3) lv (v :: st)) : WW M Q G Z nL σ pc lv st := fun H locs ls hP hS h => va_gets X.1 X.2.1 hZ hS X.2.2.2.1 (X.2.2.2.2.1 _ hl) (fun x hx => by rw [← hO]; exact hx) hd (kk H locs ls hP hS h)
theorem ww_getsNE (X : gX M G Z cc own nL ws rm ret) {C ref n d host : String} {index : Nat} {v : Value} (hd : decode cc pc = .ok (.getstatic index, 3)) (hZ : va_Z C n d v (gA G Z.1) (mS M) (mS M).heap) (hl : va_Nw (.fieldLinkNest own index ref n d host) (mS M)) (hO : C = ref) (kk : WW M Q G Z nL σ (pc + 3) lv (v :: st)) : WW M Q G Z nL σ pc lv st := fun H locs ls hP hS h => va_getsN X.1 X.2.1 hZ hS X.2.2.2.1 (va_Nw.use rfl hl) (fun x hx => by rw [← hO]; exact hx) hd (kk H locs ls hP hS h)
theorem ww_ldcS (X : gX M G Z cc own nL ws rm ret) {tx : String} {index q : Nat} (hd : decode cc pc = .ok (.ldc index, 2)) (hR : vk_R own index tx q (mS M)) (kk : WW M Q G Z nL σ (pc + 2) lv (.ref q :: st)) : WW M Q G Z nL σ pc lv st := fun H locs ls hP hS h => va_ldcS X.1 X.2.1 X.2.2.2.1 hR hd (kk H locs ls hP hS h)
theorem ww_i2c (X : gX M G Z cc own nL ws rm ret) {x : Int32} (hd : decode cc pc = .ok (.i2c, 1)) (kk : WW M Q G Z nL σ (pc + 1) lv (.int (x.toUInt32 % 65536).toInt32 :: st)) : WW M Q G Z nL σ pc lv (.int x :: st) := fun H locs ls hP hS h => lv_i2c X.1 X.2.1 hd rfl (kk H locs ls hP hS h)
theorem ww_nret {ty : FieldType} {r : Int32} {σ' : gS} (X : gX M G Z cc own nL ws rm (some ty)) {x : Int32} (hd : decode cc pc = .ok (.ireturn, 1)) (hn : narrow ty (.int x) = .int (vp_nar ty x)) (e1 : vp_nar ty x = r) (e2 : σ = σ') : WW M (gQi M G Z r σ') G Z nL σ pc lv [.int x] := by
  subst e1; subst e2
  intro H locs ls hP hS h
  exact W_zretN X.1 X.2.1 X.2.2.2.2.2.2.2.2.2.2.1 (w := vp_nar ty x) hn (fun t ht _ => ⟨⟨_, σ, rfl, ⟨rfl, rfl⟩, by unfold gB; rw [ht]; exact hP⟩, hS.F ht⟩) hS.2.2 hd X.2.2.2.2.2.2.2.2.1
theorem ww_callXi (X : gX M G Z cc own nL ws rm ret) {y : MethodName} {C : String} {bytes : ByteArray} {maxL n index b : Nat} {rt : Option FieldType} {wsy ws' : List Cond} {rmy : Room} {As rest st : List Value} {r : Int32} {σ1 : gS} (hd : decode cc pc = .ok (.invokevirtual index, 3)) (hM : gCi (mL M) y wsy rmy G Z (.ref b :: As) σ r σ1) (hw : wsy = Cond.code y bytes maxL rt :: ws') (hO : va_O C b (gA G Z.1) (mS M) (mS M).heap) (hT : GoodIn ws (wsV own index C y wsy)) (hy : y.cls = C ∧ y.cls ≠ "java/lang/invoke/MethodHandle" ∧ y.cls ≠ "java/lang/invoke/VarHandle" ∧ (parseMethodDescriptor y.desc).map (fun d => d.parameters.length) = some n) (hrc : rmy.cells = 0 ∧ rmy.slots = 0) (hfr : rmy.frames + 1 ≤ rm.frames ∧ 8 + (maxL + 11) + rmy.locals ≤ rm.locals) (hn : As.length = n) (hst : st = As.reverse ++ .ref b :: rest) (hcat : (rest.map fun v => v.category).sum ≤ 8) (kk : WW M Q G Z nL σ1 (pc + 3) lv (.int r :: rest)) : WW M Q G Z nL σ pc lv st := by
  intro H locs ls hP hS h
  refine va_calli (va_runV (As := As) (rest := rest) ⟨X.1, X.2.1, X.2.2.1, X.2.2.2.1, X.2.2.2.2.1⟩ hM (cwV n X.2.2.2.2.1 hT hw hrc.1 hrc.2 hy (by rw [X.2.2.2.2.2.2.2.2.2.1]; exact hfr)) ⟨gBlind G Z _ σ X.2.2.2.2.2.2.1.2.2, va_Orecv hO hS, fun U hU hW => ⟨rfl, by rw [hU]; exact hP, va_K.moved hW.alike X.2.2.2.2.2.1, X.2.2.2.2.2.2.1.2.1 _ U hW (by rw [hU]; exact hS.1) (fun q h1 h2 => by rw [hU]; exact hS.2.1 q h1 h2) (gXk X)⟩⟩ rfl hn h.1 hst (lv_room hcat) hd ⟨Nat.zero_le _, Nat.zero_le _⟩) hS (fun q _ h => h) (fun q h => h) (fun r9 u t H1 locs1 ht hvm hw9 hB hz hk hS1 => ?_)
  obtain ⟨rfl, rfl⟩ := hw9
  exact kk H1 locs1 ls (by unfold gB at hB; rw [ht] at hB; exact hB) hS1 h
theorem ww_copyS (X : gX M G Z cc own nL ws rm ret) {index a b t : Nat} {sp dp n : Int32} {E : gS → Option α} (hd : decode cc pc = .ok (.invokestatic index, 3)) (hl : Cond.methodLink own index arraycopyName ∈ ws) (h1 : Cond.native arraycopyName ∈ ws) (h2 : Cond.static arraycopyName ∈ ws) (h3 : Cond.initialized "java/lang/System" ∈ ws) (hy : Z.2.1[t]? = some .int) (hfr : 1 ≤ rm.frames ∧ (st.map fun v => v.category).sum + (nativeFrameWords "java/lang/System" "arraycopy" 5 + 11) ≤ rm.locals)
    (hF : gd (gis Z.1 0 t a) (gd (gis Z.1 0 t b) (gd (gcb sp dp n (gsz Z.1 0 t a) (gsz Z.1 0 t b)) (nm (gcp σ a b sp.toNatClampNeg dp.toNatClampNeg n.toNatClampNeg) E))) = some out) (kk : ∀ σ1 : gS, σ1 = gcp σ a b sp.toNatClampNeg dp.toNatClampNeg n.toNatClampNeg → E σ1 = some out → WW M Q G Z nL σ1 (pc + 3) lv st) : WW M Q G Z nL σ pc lv (.int n :: .int dp :: .ref (G.2.1 b) :: .int sp :: .ref (G.2.1 a) :: st) := by
  obtain ⟨ha, hF⟩ := gd_some hF
  obtain ⟨hb, hF⟩ := gd_some hF
  obtain ⟨r0, hs0⟩ := gsz_at (of_decide_eq_true ha)
  obtain ⟨r1, hs1⟩ := gsz_at (of_decide_eq_true hb)
  exact ww_copyi X hd hl h1 h2 h3 hs0 hs1 hy hfr hF (fun σ1 e _ h => kk σ1 e h)
end GE
/-! the shape of the world zC -/
noncomputable def zC : gZ := ([(3, 9, 0, [3, 0, 4, 26, 48, 49, 61, 73, 85, 92, 98, 139, 142, 199, 201, 0, 0]), (0, 0, 1600, []), (3, 8, 0, [5, 6, 10, 11, 12, 13, 14, 17, 18, 19, 22, 23]), (0, 0, 6, []), (2, 1, 3, [5]), (0, 0, 20, []), (0, 0, 20, []), (0, 0, 20, []), (0, 0, 12, []), (0, 0, 12, []), (0, 0, 60, []), (0, 0, 60, []), (2, 1, 2, [13]), (0, 0, 60, []), (0, 0, 60, []), (0, 0, 60, []), (0, 0, 20, []), (2, 1, 2, [18]), (0, 0, 20, []), (0, 0, 20, []), (0, 0, 12, []), (2, 1, 2, [22]), (0, 0, 12, []), (0, 0, 12, []), (3, 8, 0, [27, 28, 32, 33, 34, 35, 36, 39, 40, 41, 44, 45]), (0, 0, 6, []), (2, 1, 3, [27]), (0, 0, 20, []), (0, 0, 20, []), (0, 0, 20, []), (0, 0, 12, []), (0, 0, 12, []), (0, 0, 60, []), (0, 0, 60, []), (2, 1, 2, [35]), (0, 0, 60, []), (0, 0, 60, []), (0, 0, 60, []), (0, 0, 20, []), (2, 1, 2, [40]), (0, 0, 20, []), (0, 0, 20, []), (0, 0, 12, []), (2, 1, 2, [44]), (0, 0, 12, []), (0, 0, 12, []), (3, 3, 0, [3, 26, 0, 0, 0, 0, 0, 0, 0, 0, 0, 0, 0, 0]), (3, 5, 0, [4, 0, 50, 51, 54, 57, 60]), (0, 0, 12, []), (2, 1, 2, [50]), (0, 0, 12, []), (0, 0, 12, []), (2, 1, 2, [53]), (0, 0, 20, []), (0, 0, 20, []), (2, 1, 2, [56]), (0, 0, 6, []), (0, 0, 6, []), (0, 0, 60, []), (3, 5, 0, [4, 0, 62, 63, 66, 69, 72]), (0, 0, 12, []), (2, 1, 2, [62]), (0, 0, 12, []), (0, 0, 12, []), (2, 1, 2, [65]), (0, 0, 20, []), (0, 0, 20, []), (2, 1, 2, [68]), (0, 0, 6, []), (0, 0, 6, []), (0, 0, 60, []), (3, 5, 0, [4, 0, 74, 75, 78, 81, 84]), (0, 0, 12, []), (2, 1, 2, [74]), (0, 0, 12, []), (0, 0, 12, []), (2, 1, 2, [77]), (0, 0, 20, []), (0, 0, 20, []), (2, 1, 2, [80]), (0, 0, 6, []), (0, 0, 6, []), (0, 0, 60, []), (3, 6, 0, [4, 49, 86, 87, 88, 89]), (0, 0, 12, []), (0, 0, 20, []), (0, 0, 20, []), (2, 1, 2, [88]), (0, 0, 20, []), (0, 0, 20, []), (3, 1, 0, [4, 49, 93, 94, 95]), (1, 2, 20, []), (1, 2, 20, []), (2, 1, 2, [94]), (0, 0, 60, []), (0, 0, 60, []), (3, 4, 0, [4, 49, 99, 100, 0]), (0, 0, 38, []), (2, 3, 38, [99]), (1, 2, 39, []), (1, 2, 39, []), (1, 2, 39, []), (1, 2, 39, []), (1, 2, 39, []), (1, 2, 39, []), (1, 2, 39, []), (1, 2, 39, []), (1, 2, 39, []), (1, 2, 39, []), (1, 2, 39, []), (1, 2, 39, []), (1, 2, 39, []), (1, 2, 39, []), (1, 2, 39, []), (1, 2, 39, []), (1, 2, 39, []), (1, 2, 39, []), (1, 2, 39, []), (1, 2, 39, []), (1, 2, 39, []), (1, 2, 39, []), (1, 2, 39, []), (1, 2, 39, []), (1, 2, 39, []), (1, 2, 39, []), (1, 2, 39, []), (1, 2, 39, []), (1, 2, 39, []), (1, 2, 39, []), (1, 2, 39, []), (1, 2, 39, []), (1, 2, 39, []), (1, 2, 39, []), (1, 2, 39, []), (1, 2, 39, []), (1, 2, 39, []), (1, 2, 39, []), (3, 2, 0, [4, 49, 140, 141]), (0, 0, 32, []), (0, 0, 32, []), (3, 7, 0, [4, 49, 143, 156, 169, 182, 195, 196, 197, 198, 0, 0, 0]), (2, 1, 12, [142]), (0, 0, 20, []), (0, 0, 20, []), (0, 0, 20, []), (0, 0, 20, []), (0, 0, 20, []), (0, 0, 20, []), (0, 0, 20, []), (0, 0, 20, []), (0, 0, 20, []), (0, 0, 20, []), (0, 0, 20, []), (0, 0, 20, []), (2, 1, 12, [155]), (0, 0, 12, []), (0, 0, 12, []), (0, 0, 12, []), (0, 0, 12, []), (0, 0, 12, []), (0, 0, 12, []), (0, 0, 12, []), (0, 0, 12, []), (0, 0, 12, []), (0, 0, 12, []), (0, 0, 12, []), (0, 0, 12, []), (2, 1, 12, [168]), (0, 0, 12, []), (0, 0, 12, []), (0, 0, 12, []), (0, 0, 12, []), (0, 0, 12, []), (0, 0, 12, []), (0, 0, 12, []), (0, 0, 12, []), (0, 0, 12, []), (0, 0, 12, []), (0, 0, 12, []), (0, 0, 12, []), (2, 1, 12, [181]), (0, 0, 12, []), (0, 0, 12, []), (0, 0, 12, []), (0, 0, 12, []), (0, 0, 12, []), (0, 0, 12, []), (0, 0, 12, []), (0, 0, 12, []), (0, 0, 12, []), (0, 0, 12, []), (0, 0, 12, []), (0, 0, 12, []), (0, 0, 12, []), (0, 0, 12, []), (0, 0, 12, []), (0, 0, 60, []), (3, 0, 0, [4, 200, 0, 0]), (0, 0, 378, []), (0, 0, 60, [])], [.int, (.array .int), .long, (.array .long)], vwCl)
theorem shzC_0 : zC.1[0]? = some (3, 9, 0, [3, 0, 4, 26, 48, 49, 61, 73, 85, 92, 98, 139, 142, 199, 201, 0, 0]) := rfl
theorem shzC_1 : zC.1[1]? = some (0, 0, 1600, []) := rfl
theorem shzC_2 : zC.1[2]? = some (3, 8, 0, [5, 6, 10, 11, 12, 13, 14, 17, 18, 19, 22, 23]) := rfl
theorem shzC_3 : zC.1[3]? = some (0, 0, 6, []) := rfl
theorem shzC_4 : zC.1[4]? = some (2, 1, 3, [5]) := rfl
theorem shzC_5 : zC.1[5]? = some (0, 0, 20, []) := rfl
theorem shzC_6 : zC.1[6]? = some (0, 0, 20, []) := rfl
theorem shzC_7 : zC.1[7]? = some (0, 0, 20, []) := rfl
theorem shzC_8 : zC.1[8]? = some (0, 0, 12, []) := rfl
theorem shzC_9 : zC.1[9]? = some (0, 0, 12, []) := rfl
theorem shzC_10 : zC.1[10]? = some (0, 0, 60, []) := rfl
theorem shzC_11 : zC.1[11]? = some (0, 0, 60, []) := rfl
theorem shzC_12 : zC.1[12]? = some (2, 1, 2, [13]) := rfl
theorem shzC_13 : zC.1[13]? = some (0, 0, 60, []) := rfl
theorem shzC_14 : zC.1[14]? = some (0, 0, 60, []) := rfl
theorem shzC_15 : zC.1[15]? = some (0, 0, 60, []) := rfl
theorem shzC_16 : zC.1[16]? = some (0, 0, 20, []) := rfl
theorem shzC_17 : zC.1[17]? = some (2, 1, 2, [18]) := rfl
theorem shzC_18 : zC.1[18]? = some (0, 0, 20, []) := rfl
theorem shzC_19 : zC.1[19]? = some (0, 0, 20, []) := rfl
theorem shzC_20 : zC.1[20]? = some (0, 0, 12, []) := rfl
theorem shzC_21 : zC.1[21]? = some (2, 1, 2, [22]) := rfl
theorem shzC_22 : zC.1[22]? = some (0, 0, 12, []) := rfl
theorem shzC_23 : zC.1[23]? = some (0, 0, 12, []) := rfl
theorem shzC_24 : zC.1[24]? = some (3, 8, 0, [27, 28, 32, 33, 34, 35, 36, 39, 40, 41, 44, 45]) := rfl
theorem shzC_25 : zC.1[25]? = some (0, 0, 6, []) := rfl
theorem shzC_26 : zC.1[26]? = some (2, 1, 3, [27]) := rfl
theorem shzC_27 : zC.1[27]? = some (0, 0, 20, []) := rfl
theorem shzC_28 : zC.1[28]? = some (0, 0, 20, []) := rfl
theorem shzC_29 : zC.1[29]? = some (0, 0, 20, []) := rfl
theorem shzC_30 : zC.1[30]? = some (0, 0, 12, []) := rfl
theorem shzC_31 : zC.1[31]? = some (0, 0, 12, []) := rfl
theorem shzC_32 : zC.1[32]? = some (0, 0, 60, []) := rfl
theorem shzC_33 : zC.1[33]? = some (0, 0, 60, []) := rfl
theorem shzC_34 : zC.1[34]? = some (2, 1, 2, [35]) := rfl
theorem shzC_35 : zC.1[35]? = some (0, 0, 60, []) := rfl
theorem shzC_36 : zC.1[36]? = some (0, 0, 60, []) := rfl
theorem shzC_37 : zC.1[37]? = some (0, 0, 60, []) := rfl
theorem shzC_38 : zC.1[38]? = some (0, 0, 20, []) := rfl
theorem shzC_39 : zC.1[39]? = some (2, 1, 2, [40]) := rfl
theorem shzC_40 : zC.1[40]? = some (0, 0, 20, []) := rfl
theorem shzC_41 : zC.1[41]? = some (0, 0, 20, []) := rfl
theorem shzC_42 : zC.1[42]? = some (0, 0, 12, []) := rfl
theorem shzC_43 : zC.1[43]? = some (2, 1, 2, [44]) := rfl
theorem shzC_44 : zC.1[44]? = some (0, 0, 12, []) := rfl
theorem shzC_45 : zC.1[45]? = some (0, 0, 12, []) := rfl
theorem shzC_46 : zC.1[46]? = some (3, 3, 0, [3, 26, 0, 0, 0, 0, 0, 0, 0, 0, 0, 0, 0, 0]) := rfl
theorem shzC_47 : zC.1[47]? = some (3, 5, 0, [4, 0, 50, 51, 54, 57, 60]) := rfl
theorem shzC_48 : zC.1[48]? = some (0, 0, 12, []) := rfl
theorem shzC_49 : zC.1[49]? = some (2, 1, 2, [50]) := rfl
theorem shzC_50 : zC.1[50]? = some (0, 0, 12, []) := rfl
theorem shzC_51 : zC.1[51]? = some (0, 0, 12, []) := rfl
theorem shzC_52 : zC.1[52]? = some (2, 1, 2, [53]) := rfl
theorem shzC_53 : zC.1[53]? = some (0, 0, 20, []) := rfl
theorem shzC_54 : zC.1[54]? = some (0, 0, 20, []) := rfl
theorem shzC_55 : zC.1[55]? = some (2, 1, 2, [56]) := rfl
theorem shzC_56 : zC.1[56]? = some (0, 0, 6, []) := rfl
theorem shzC_57 : zC.1[57]? = some (0, 0, 6, []) := rfl
theorem shzC_58 : zC.1[58]? = some (0, 0, 60, []) := rfl
theorem shzC_59 : zC.1[59]? = some (3, 5, 0, [4, 0, 62, 63, 66, 69, 72]) := rfl
theorem shzC_60 : zC.1[60]? = some (0, 0, 12, []) := rfl
theorem shzC_61 : zC.1[61]? = some (2, 1, 2, [62]) := rfl
theorem shzC_62 : zC.1[62]? = some (0, 0, 12, []) := rfl
theorem shzC_63 : zC.1[63]? = some (0, 0, 12, []) := rfl
theorem shzC_64 : zC.1[64]? = some (2, 1, 2, [65]) := rfl
theorem shzC_65 : zC.1[65]? = some (0, 0, 20, []) := rfl
theorem shzC_66 : zC.1[66]? = some (0, 0, 20, []) := rfl
theorem shzC_67 : zC.1[67]? = some (2, 1, 2, [68]) := rfl
theorem shzC_68 : zC.1[68]? = some (0, 0, 6, []) := rfl
theorem shzC_69 : zC.1[69]? = some (0, 0, 6, []) := rfl
theorem shzC_70 : zC.1[70]? = some (0, 0, 60, []) := rfl
theorem shzC_71 : zC.1[71]? = some (3, 5, 0, [4, 0, 74, 75, 78, 81, 84]) := rfl
theorem shzC_72 : zC.1[72]? = some (0, 0, 12, []) := rfl
theorem shzC_73 : zC.1[73]? = some (2, 1, 2, [74]) := rfl
theorem shzC_74 : zC.1[74]? = some (0, 0, 12, []) := rfl
theorem shzC_75 : zC.1[75]? = some (0, 0, 12, []) := rfl
theorem shzC_76 : zC.1[76]? = some (2, 1, 2, [77]) := rfl
theorem shzC_77 : zC.1[77]? = some (0, 0, 20, []) := rfl
theorem shzC_78 : zC.1[78]? = some (0, 0, 20, []) := rfl
theorem shzC_79 : zC.1[79]? = some (2, 1, 2, [80]) := rfl
theorem shzC_80 : zC.1[80]? = some (0, 0, 6, []) := rfl
theorem shzC_81 : zC.1[81]? = some (0, 0, 6, []) := rfl
theorem shzC_82 : zC.1[82]? = some (0, 0, 60, []) := rfl
theorem shzC_83 : zC.1[83]? = some (3, 6, 0, [4, 49, 86, 87, 88, 89]) := rfl
theorem shzC_84 : zC.1[84]? = some (0, 0, 12, []) := rfl
theorem shzC_85 : zC.1[85]? = some (0, 0, 20, []) := rfl
theorem shzC_86 : zC.1[86]? = some (0, 0, 20, []) := rfl
theorem shzC_87 : zC.1[87]? = some (2, 1, 2, [88]) := rfl
theorem shzC_88 : zC.1[88]? = some (0, 0, 20, []) := rfl
theorem shzC_89 : zC.1[89]? = some (0, 0, 20, []) := rfl
theorem shzC_90 : zC.1[90]? = some (3, 1, 0, [4, 49, 93, 94, 95]) := rfl
theorem shzC_91 : zC.1[91]? = some (1, 2, 20, []) := rfl
theorem shzC_92 : zC.1[92]? = some (1, 2, 20, []) := rfl
theorem shzC_93 : zC.1[93]? = some (2, 1, 2, [94]) := rfl
theorem shzC_94 : zC.1[94]? = some (0, 0, 60, []) := rfl
theorem shzC_95 : zC.1[95]? = some (0, 0, 60, []) := rfl
theorem shzC_96 : zC.1[96]? = some (3, 4, 0, [4, 49, 99, 100, 0]) := rfl
theorem shzC_97 : zC.1[97]? = some (0, 0, 38, []) := rfl
theorem shzC_98 : zC.1[98]? = some (2, 3, 38, [99]) := rfl
theorem shzC_99 : zC.1[99]? = some (1, 2, 39, []) := rfl
theorem shzC_100 : zC.1[100]? = some (1, 2, 39, []) := rfl
theorem shzC_101 : zC.1[101]? = some (1, 2, 39, []) := rfl
theorem shzC_102 : zC.1[102]? = some (1, 2, 39, []) := rfl
theorem shzC_103 : zC.1[103]? = some (1, 2, 39, []) := rfl
theorem shzC_104 : zC.1[104]? = some (1, 2, 39, []) := rfl
theorem shzC_105 : zC.1[105]? = some (1, 2, 39, []) := rfl
theorem shzC_106 : zC.1[106]? = some (1, 2, 39, []) := rfl
theorem shzC_107 : zC.1[107]? = some (1, 2, 39, []) := rfl
theorem shzC_108 : zC.1[108]? = some (1, 2, 39, []) := rfl
theorem shzC_109 : zC.1[109]? = some (1, 2, 39, []) := rfl
theorem shzC_110 : zC.1[110]? = some (1, 2, 39, []) := rfl
theorem shzC_111 : zC.1[111]? = some (1, 2, 39, []) := rfl
theorem shzC_112 : zC.1[112]? = some (1, 2, 39, []) := rfl
theorem shzC_113 : zC.1[113]? = some (1, 2, 39, []) := rfl
theorem shzC_114 : zC.1[114]? = some (1, 2, 39, []) := rfl
theorem shzC_115 : zC.1[115]? = some (1, 2, 39, []) := rfl
theorem shzC_116 : zC.1[116]? = some (1, 2, 39, []) := rfl
theorem shzC_117 : zC.1[117]? = some (1, 2, 39, []) := rfl
theorem shzC_118 : zC.1[118]? = some (1, 2, 39, []) := rfl
theorem shzC_119 : zC.1[119]? = some (1, 2, 39, []) := rfl
theorem shzC_120 : zC.1[120]? = some (1, 2, 39, []) := rfl
theorem shzC_121 : zC.1[121]? = some (1, 2, 39, []) := rfl
theorem shzC_122 : zC.1[122]? = some (1, 2, 39, []) := rfl
theorem shzC_123 : zC.1[123]? = some (1, 2, 39, []) := rfl
theorem shzC_124 : zC.1[124]? = some (1, 2, 39, []) := rfl
theorem shzC_125 : zC.1[125]? = some (1, 2, 39, []) := rfl
theorem shzC_126 : zC.1[126]? = some (1, 2, 39, []) := rfl
theorem shzC_127 : zC.1[127]? = some (1, 2, 39, []) := rfl
theorem shzC_128 : zC.1[128]? = some (1, 2, 39, []) := rfl
theorem shzC_129 : zC.1[129]? = some (1, 2, 39, []) := rfl
theorem shzC_130 : zC.1[130]? = some (1, 2, 39, []) := rfl
theorem shzC_131 : zC.1[131]? = some (1, 2, 39, []) := rfl
theorem shzC_132 : zC.1[132]? = some (1, 2, 39, []) := rfl
theorem shzC_133 : zC.1[133]? = some (1, 2, 39, []) := rfl
theorem shzC_134 : zC.1[134]? = some (1, 2, 39, []) := rfl
theorem shzC_135 : zC.1[135]? = some (1, 2, 39, []) := rfl
theorem shzC_136 : zC.1[136]? = some (1, 2, 39, []) := rfl
theorem shzC_137 : zC.1[137]? = some (3, 2, 0, [4, 49, 140, 141]) := rfl
theorem shzC_138 : zC.1[138]? = some (0, 0, 32, []) := rfl
theorem shzC_139 : zC.1[139]? = some (0, 0, 32, []) := rfl
theorem shzC_140 : zC.1[140]? = some (3, 7, 0, [4, 49, 143, 156, 169, 182, 195, 196, 197, 198, 0, 0, 0]) := rfl
theorem shzC_141 : zC.1[141]? = some (2, 1, 12, [142]) := rfl
theorem shzC_142 : zC.1[142]? = some (0, 0, 20, []) := rfl
theorem shzC_143 : zC.1[143]? = some (0, 0, 20, []) := rfl
theorem shzC_144 : zC.1[144]? = some (0, 0, 20, []) := rfl
theorem shzC_145 : zC.1[145]? = some (0, 0, 20, []) := rfl
theorem shzC_146 : zC.1[146]? = some (0, 0, 20, []) := rfl
theorem shzC_147 : zC.1[147]? = some (0, 0, 20, []) := rfl
theorem shzC_148 : zC.1[148]? = some (0, 0, 20, []) := rfl
theorem shzC_149 : zC.1[149]? = some (0, 0, 20, []) := rfl
theorem shzC_150 : zC.1[150]? = some (0, 0, 20, []) := rfl
theorem shzC_151 : zC.1[151]? = some (0, 0, 20, []) := rfl
theorem shzC_152 : zC.1[152]? = some (0, 0, 20, []) := rfl
theorem shzC_153 : zC.1[153]? = some (0, 0, 20, []) := rfl
theorem shzC_154 : zC.1[154]? = some (2, 1, 12, [155]) := rfl
theorem shzC_155 : zC.1[155]? = some (0, 0, 12, []) := rfl
theorem shzC_156 : zC.1[156]? = some (0, 0, 12, []) := rfl
theorem shzC_157 : zC.1[157]? = some (0, 0, 12, []) := rfl
theorem shzC_158 : zC.1[158]? = some (0, 0, 12, []) := rfl
theorem shzC_159 : zC.1[159]? = some (0, 0, 12, []) := rfl
theorem shzC_160 : zC.1[160]? = some (0, 0, 12, []) := rfl
theorem shzC_161 : zC.1[161]? = some (0, 0, 12, []) := rfl
theorem shzC_162 : zC.1[162]? = some (0, 0, 12, []) := rfl
theorem shzC_163 : zC.1[163]? = some (0, 0, 12, []) := rfl
theorem shzC_164 : zC.1[164]? = some (0, 0, 12, []) := rfl
theorem shzC_165 : zC.1[165]? = some (0, 0, 12, []) := rfl
theorem shzC_166 : zC.1[166]? = some (0, 0, 12, []) := rfl
theorem shzC_167 : zC.1[167]? = some (2, 1, 12, [168]) := rfl
theorem shzC_168 : zC.1[168]? = some (0, 0, 12, []) := rfl
theorem shzC_169 : zC.1[169]? = some (0, 0, 12, []) := rfl
theorem shzC_170 : zC.1[170]? = some (0, 0, 12, []) := rfl
theorem shzC_171 : zC.1[171]? = some (0, 0, 12, []) := rfl
theorem shzC_172 : zC.1[172]? = some (0, 0, 12, []) := rfl
theorem shzC_173 : zC.1[173]? = some (0, 0, 12, []) := rfl
theorem shzC_174 : zC.1[174]? = some (0, 0, 12, []) := rfl
theorem shzC_175 : zC.1[175]? = some (0, 0, 12, []) := rfl
theorem shzC_176 : zC.1[176]? = some (0, 0, 12, []) := rfl
theorem shzC_177 : zC.1[177]? = some (0, 0, 12, []) := rfl
theorem shzC_178 : zC.1[178]? = some (0, 0, 12, []) := rfl
theorem shzC_179 : zC.1[179]? = some (0, 0, 12, []) := rfl
theorem shzC_180 : zC.1[180]? = some (2, 1, 12, [181]) := rfl
theorem shzC_181 : zC.1[181]? = some (0, 0, 12, []) := rfl
theorem shzC_182 : zC.1[182]? = some (0, 0, 12, []) := rfl
theorem shzC_183 : zC.1[183]? = some (0, 0, 12, []) := rfl
theorem shzC_184 : zC.1[184]? = some (0, 0, 12, []) := rfl
theorem shzC_185 : zC.1[185]? = some (0, 0, 12, []) := rfl
theorem shzC_186 : zC.1[186]? = some (0, 0, 12, []) := rfl
theorem shzC_187 : zC.1[187]? = some (0, 0, 12, []) := rfl
theorem shzC_188 : zC.1[188]? = some (0, 0, 12, []) := rfl
theorem shzC_189 : zC.1[189]? = some (0, 0, 12, []) := rfl
theorem shzC_190 : zC.1[190]? = some (0, 0, 12, []) := rfl
theorem shzC_191 : zC.1[191]? = some (0, 0, 12, []) := rfl
theorem shzC_192 : zC.1[192]? = some (0, 0, 12, []) := rfl
theorem shzC_193 : zC.1[193]? = some (0, 0, 12, []) := rfl
theorem shzC_194 : zC.1[194]? = some (0, 0, 12, []) := rfl
theorem shzC_195 : zC.1[195]? = some (0, 0, 12, []) := rfl
theorem shzC_196 : zC.1[196]? = some (0, 0, 60, []) := rfl
theorem shzC_197 : zC.1[197]? = some (3, 0, 0, [4, 200, 0, 0]) := rfl
theorem shzC_198 : zC.1[198]? = some (0, 0, 378, []) := rfl
theorem shzC_199 : zC.1[199]? = some (0, 0, 60, []) := rfl
theorem clzC_0 : zC.2.2[0]? = some (RX0, TX0, 4) := rfl
theorem clzC_1 : zC.2.2[1]? = some (RX1, TX1, 5) := rfl
theorem clzC_2 : zC.2.2[2]? = some (RX2, TX2, 4) := rfl
theorem clzC_3 : zC.2.2[3]? = some (RX3, TX3, 14) := rfl
theorem clzC_4 : zC.2.2[4]? = some (RX4, TX4, 5) := rfl
theorem clzC_5 : zC.2.2[5]? = some (RX5, TX5, 7) := rfl
theorem clzC_6 : zC.2.2[6]? = some (RX6, TX6, 6) := rfl
theorem clzC_7 : zC.2.2[7]? = some (RX7, TX7, 13) := rfl
theorem clzC_8 : zC.2.2[8]? = some (RX8, TX8, 12) := rfl
theorem clzC_9 : zC.2.2[9]? = some (RX9, TX9, 17) := rfl
theorem clzC_10 : zC.2.2[10]? = some (RX10, TX10, 57) := rfl
theorem rwzC_4 : ∀ j, j < 3 → zC.1[5 + j]? = some (0, 0, 20, []) := by decide +kernel
theorem rwzC_12 : ∀ j, j < 2 → zC.1[13 + j]? = some (0, 0, 60, []) := by decide +kernel
theorem rwzC_17 : ∀ j, j < 2 → zC.1[18 + j]? = some (0, 0, 20, []) := by decide +kernel
theorem rwzC_21 : ∀ j, j < 2 → zC.1[22 + j]? = some (0, 0, 12, []) := by decide +kernel
theorem rwzC_26 : ∀ j, j < 3 → zC.1[27 + j]? = some (0, 0, 20, []) := by decide +kernel
theorem rwzC_34 : ∀ j, j < 2 → zC.1[35 + j]? = some (0, 0, 60, []) := by decide +kernel
theorem rwzC_39 : ∀ j, j < 2 → zC.1[40 + j]? = some (0, 0, 20, []) := by decide +kernel
theorem rwzC_43 : ∀ j, j < 2 → zC.1[44 + j]? = some (0, 0, 12, []) := by decide +kernel
theorem rwzC_49 : ∀ j, j < 2 → zC.1[50 + j]? = some (0, 0, 12, []) := by decide +kernel
theorem rwzC_52 : ∀ j, j < 2 → zC.1[53 + j]? = some (0, 0, 20, []) := by decide +kernel
theorem rwzC_55 : ∀ j, j < 2 → zC.1[56 + j]? = some (0, 0, 6, []) := by decide +kernel
theorem rwzC_61 : ∀ j, j < 2 → zC.1[62 + j]? = some (0, 0, 12, []) := by decide +kernel
theorem rwzC_64 : ∀ j, j < 2 → zC.1[65 + j]? = some (0, 0, 20, []) := by decide +kernel
theorem rwzC_67 : ∀ j, j < 2 → zC.1[68 + j]? = some (0, 0, 6, []) := by decide +kernel
theorem rwzC_73 : ∀ j, j < 2 → zC.1[74 + j]? = some (0, 0, 12, []) := by decide +kernel
theorem rwzC_76 : ∀ j, j < 2 → zC.1[77 + j]? = some (0, 0, 20, []) := by decide +kernel
theorem rwzC_79 : ∀ j, j < 2 → zC.1[80 + j]? = some (0, 0, 6, []) := by decide +kernel
theorem rwzC_87 : ∀ j, j < 2 → zC.1[88 + j]? = some (0, 0, 20, []) := by decide +kernel
theorem rwzC_93 : ∀ j, j < 2 → zC.1[94 + j]? = some (0, 0, 60, []) := by decide +kernel
theorem rwzC_98 : ∀ j, j < 38 → zC.1[99 + j]? = some (1, 2, 39, []) := by decide +kernel
theorem rwzC_141 : ∀ j, j < 12 → zC.1[142 + j]? = some (0, 0, 20, []) := by decide +kernel
theorem rwzC_154 : ∀ j, j < 12 → zC.1[155 + j]? = some (0, 0, 12, []) := by decide +kernel
theorem rwzC_167 : ∀ j, j < 12 → zC.1[168 + j]? = some (0, 0, 12, []) := by decide +kernel
theorem rwzC_180 : ∀ j, j < 12 → zC.1[181 + j]? = some (0, 0, 12, []) := by decide +kernel
noncomputable def lenC : List Nat := [5, 7, 5, 3, 7, 6, 2, 4, 3, 2, 6, 3]
noncomputable def bytL : List (List Int32) := [[115, 116, 114, 105, 112], [112, 105, 99, 116, 117, 114, 101], [112, 111, 105, 110, 116], [114, 111, 119], [99, 111, 110, 116, 114, 111, 108], [99, 101, 110, 116, 114, 101], [105, 110], [116, 117, 114, 110], [97, 110, 121], [97, 116], [119, 101, 105, 103, 104, 116], [115, 101, 116]]
noncomputable def bytC (i : Nat) (j : Nat) : Int32 := (bytL.getD i []).getD j 0
noncomputable def staL : List (List Int32) := [[6, 12, 20, 60, 10]]
noncomputable def staC (i : Nat) (j : Nat) : Int32 := (staL.getD i []).getD j 0
/-- what the class needs of constants outside its world, and of its nest -/
noncomputable def kC (ex : gEx) (A : Nat → Prop) (s : State) : Prop :=
  vk_S 12 lenC bytL ex.1 ex.2.1 A s s.heap ∧
  va_Z "java/lang/String" "COMPACT_STRINGS" "Z" (.int 1) A s s.heap ∧
  va_Z "jdk/internal/util/Preconditions" "SIOOBE_FORMATTER" "Ljava/util/function/BiFunction;" (gOv ex) A s s.heap ∧
  va_Z "PictureBlock" "MOST" "[I" (.ref (ex.2.2 1)) A s s.heap ∧
  va_T .int (ex.2.2 1) 5 (fun j => .int (staC 0 j)) A s s.heap ∧
  vk_R "PictureBlock$Reader" 111 "strip" (ex.1 0) s ∧
  vk_R "PictureBlock$Reader" 117 "picture" (ex.1 1) s ∧
  vk_R "PictureBlock$Reader" 119 "point" (ex.1 2) s ∧
  vk_R "PictureBlock$Reader" 121 "row" (ex.1 3) s ∧
  vk_R "PictureBlock$Reader" 123 "control" (ex.1 4) s ∧
  vk_R "PictureBlock$Reader" 125 "centre" (ex.1 5) s ∧
  vk_R "PictureBlock$Reader" 127 "in" (ex.1 6) s ∧
  vk_R "PictureBlock$Reader" 129 "turn" (ex.1 7) s ∧
  vk_R "PictureBlock$Reader" 131 "any" (ex.1 8) s ∧
  vk_R "PictureBlock$Reader" 133 "at" (ex.1 9) s ∧
  vk_R "PictureBlock$Reader" 134 "weight" (ex.1 10) s ∧
  vk_R "PictureBlock$Reader" 136 "set" (ex.1 11) s ∧
  va_Nw (.fieldLinkNest "PictureBlock$Told" 60 "PictureBlock" "MOST" "[I" "PictureBlock") s ∧
  va_Nw (.methodLinkNest "PictureBlock$Stand" 37 yX9_copyAll "PictureBlock") s ∧
  va_Nw (.methodLinkNest "PictureBlock$Told" 56 yX9_copyAll "PictureBlock") s
theorem eC_str {ex : gEx} {A : Nat → Prop} {s : State} (h : kC ex A s) : vk_S 12 lenC bytL ex.1 ex.2.1 A s s.heap := h.1
theorem eC_compact {ex : gEx} {A : Nat → Prop} {s : State} (h : kC ex A s) : va_Z "java/lang/String" "COMPACT_STRINGS" "Z" (.int 1) A s s.heap := h.2.1
theorem eC_fmt {ex : gEx} {A : Nat → Prop} {s : State} (h : kC ex A s) : va_Z "jdk/internal/util/Preconditions" "SIOOBE_FORMATTER" "Ljava/util/function/BiFunction;" (gOv ex) A s s.heap := h.2.2.1
theorem eC_sref0 {ex : gEx} {A : Nat → Prop} {s : State} (h : kC ex A s) : va_Z "PictureBlock" "MOST" "[I" (.ref (ex.2.2 1)) A s s.heap := h.2.2.2.1
theorem eC_stat0 {ex : gEx} {A : Nat → Prop} {s : State} (h : kC ex A s) : va_T .int (ex.2.2 1) 5 (fun j => .int (staC 0 j)) A s s.heap := h.2.2.2.2.1
theorem eC_ref0 {ex : gEx} {A : Nat → Prop} {s : State} (h : kC ex A s) : vk_R "PictureBlock$Reader" 111 "strip" (ex.1 0) s := h.2.2.2.2.2.1
theorem eC_ref1 {ex : gEx} {A : Nat → Prop} {s : State} (h : kC ex A s) : vk_R "PictureBlock$Reader" 117 "picture" (ex.1 1) s := h.2.2.2.2.2.2.1
theorem eC_ref2 {ex : gEx} {A : Nat → Prop} {s : State} (h : kC ex A s) : vk_R "PictureBlock$Reader" 119 "point" (ex.1 2) s := h.2.2.2.2.2.2.2.1
theorem eC_ref3 {ex : gEx} {A : Nat → Prop} {s : State} (h : kC ex A s) : vk_R "PictureBlock$Reader" 121 "row" (ex.1 3) s := h.2.2.2.2.2.2.2.2.1
theorem eC_ref4 {ex : gEx} {A : Nat → Prop} {s : State} (h : kC ex A s) : vk_R "PictureBlock$Reader" 123 "control" (ex.1 4) s := h.2.2.2.2.2.2.2.2.2.1
theorem eC_ref5 {ex : gEx} {A : Nat → Prop} {s : State} (h : kC ex A s) : vk_R "PictureBlock$Reader" 125 "centre" (ex.1 5) s := h.2.2.2.2.2.2.2.2.2.2.1
theorem eC_ref6 {ex : gEx} {A : Nat → Prop} {s : State} (h : kC ex A s) : vk_R "PictureBlock$Reader" 127 "in" (ex.1 6) s := h.2.2.2.2.2.2.2.2.2.2.2.1
theorem eC_ref7 {ex : gEx} {A : Nat → Prop} {s : State} (h : kC ex A s) : vk_R "PictureBlock$Reader" 129 "turn" (ex.1 7) s := h.2.2.2.2.2.2.2.2.2.2.2.2.1
theorem eC_ref8 {ex : gEx} {A : Nat → Prop} {s : State} (h : kC ex A s) : vk_R "PictureBlock$Reader" 131 "any" (ex.1 8) s := h.2.2.2.2.2.2.2.2.2.2.2.2.2.1
theorem eC_ref9 {ex : gEx} {A : Nat → Prop} {s : State} (h : kC ex A s) : vk_R "PictureBlock$Reader" 133 "at" (ex.1 9) s := h.2.2.2.2.2.2.2.2.2.2.2.2.2.2.1
theorem eC_ref10 {ex : gEx} {A : Nat → Prop} {s : State} (h : kC ex A s) : vk_R "PictureBlock$Reader" 134 "weight" (ex.1 10) s := h.2.2.2.2.2.2.2.2.2.2.2.2.2.2.2.1
theorem eC_ref11 {ex : gEx} {A : Nat → Prop} {s : State} (h : kC ex A s) : vk_R "PictureBlock$Reader" 136 "set" (ex.1 11) s := h.2.2.2.2.2.2.2.2.2.2.2.2.2.2.2.2.1
theorem eC_nfX8_isFull_60 {ex : gEx} {A : Nat → Prop} {s : State} (h : kC ex A s) : va_Nw (.fieldLinkNest "PictureBlock$Told" 60 "PictureBlock" "MOST" "[I" "PictureBlock") s := h.2.2.2.2.2.2.2.2.2.2.2.2.2.2.2.2.2.1
theorem eC_nmX5_takeFrom_37 {ex : gEx} {A : Nat → Prop} {s : State} (h : kC ex A s) : va_Nw (.methodLinkNest "PictureBlock$Stand" 37 yX9_copyAll "PictureBlock") s := h.2.2.2.2.2.2.2.2.2.2.2.2.2.2.2.2.2.2.1
theorem eC_nmX8_takeFrom_56 {ex : gEx} {A : Nat → Prop} {s : State} (h : kC ex A s) : va_Nw (.methodLinkNest "PictureBlock$Told" 56 yX9_copyAll "PictureBlock") s := h.2.2.2.2.2.2.2.2.2.2.2.2.2.2.2.2.2.2.2
theorem eC_value {ex : gEx} {A : Nat → Prop} {s : State} (h : kC ex A s) (i : Nat) (hi : i < 12) : va_OF "java/lang/String" "value" "[B" (.ref (ex.2.1 i)) (ex.1 i) A s s.heap := (h.1.1 i hi).2.2.1
theorem eC_coder {ex : gEx} {A : Nat → Prop} {s : State} (h : kC ex A s) (i : Nat) (hi : i < 12) : va_OF "java/lang/String" "coder" "B" (.int 0) (ex.1 i) A s s.heap := (h.1.1 i hi).2.1
theorem eC_bytes {ex : gEx} {A : Nat → Prop} {s : State} (h : kC ex A s) (i : Nat) (hi : i < 12) : va_T .byte (ex.2.1 i) (lenC.getD i 0) (fun j => .int (bytC i j)) A s s.heap := (h.1.1 i hi).2.2.2
theorem inX0_areDriftsRight_RX0 : ∀ w ∈ u_ws RX0 TX0 4, w ∈ wsX0_areDriftsRight := fun w h => List.mem_cons_of_mem _ (List.mem_append_left _ (List.mem_append_left _ (List.mem_append_right _ h)))
theorem inX0_areDriftsRight_RX5 : ∀ w ∈ u_ws RX5 TX5 7, w ∈ wsX0_areDriftsRight := fun w h => List.mem_cons_of_mem _ (List.mem_append_right _ h)
theorem inX0_areDriftsRight_RX8 : ∀ w ∈ u_ws RX8 TX8 12, w ∈ wsX0_areDriftsRight := fun w h => List.mem_cons_of_mem _ (List.mem_append_left _ (List.mem_append_right _ h))
theorem inX0_arePicturesRight_RX0 : ∀ w ∈ u_ws RX0 TX0 4, w ∈ wsX0_arePicturesRight := fun w h => List.mem_cons_of_mem _ (List.mem_append_left _ (List.mem_append_left _ (List.mem_append_right _ h)))
theorem inX0_arePicturesRight_RX5 : ∀ w ∈ u_ws RX5 TX5 7, w ∈ wsX0_arePicturesRight := fun w h => List.mem_cons_of_mem _ (List.mem_append_right _ h)
theorem inX0_arePicturesRight_RX8 : ∀ w ∈ u_ws RX8 TX8 12, w ∈ wsX0_arePicturesRight := fun w h => List.mem_cons_of_mem _ (List.mem_append_left _ (List.mem_append_right _ h))
theorem inX0_arePointsRight_RX0 : ∀ w ∈ u_ws RX0 TX0 4, w ∈ wsX0_arePointsRight := fun w h => List.mem_cons_of_mem _ (List.mem_append_left _ (List.mem_append_left _ (List.mem_append_right _ h)))
theorem inX0_arePointsRight_RX5 : ∀ w ∈ u_ws RX5 TX5 7, w ∈ wsX0_arePointsRight := fun w h => List.mem_cons_of_mem _ (List.mem_append_right _ h)
theorem inX0_arePointsRight_RX8 : ∀ w ∈ u_ws RX8 TX8 12, w ∈ wsX0_arePointsRight := fun w h => List.mem_cons_of_mem _ (List.mem_append_left _ (List.mem_append_right _ h))
theorem inX0_areRowsRight_RX0 : ∀ w ∈ u_ws RX0 TX0 4, w ∈ wsX0_areRowsRight := fun w h => List.mem_cons_of_mem _ (List.mem_append_left _ (List.mem_append_left _ (List.mem_append_right _ h)))
theorem inX0_areRowsRight_RX5 : ∀ w ∈ u_ws RX5 TX5 7, w ∈ wsX0_areRowsRight := fun w h => List.mem_cons_of_mem _ (List.mem_append_right _ h)
theorem inX0_areRowsRight_RX8 : ∀ w ∈ u_ws RX8 TX8 12, w ∈ wsX0_areRowsRight := fun w h => List.mem_cons_of_mem _ (List.mem_append_left _ (List.mem_append_right _ h))
theorem inX0_dueLength_RX0 : ∀ w ∈ u_ws RX0 TX0 4, w ∈ wsX0_dueLength := fun w h => List.mem_cons_of_mem _ (List.mem_append_left _ (List.mem_append_right _ h))
theorem inX0_dueLength_RX8 : ∀ w ∈ u_ws RX8 TX8 12, w ∈ wsX0_dueLength := fun w h => List.mem_cons_of_mem _ (List.mem_append_right _ h)
theorem inX0_read_RX5 : ∀ w ∈ u_ws RX5 TX5 7, w ∈ wsX0_read := fun w h => List.mem_cons_of_mem _ (List.mem_append_left _ (List.mem_append_left _ (List.mem_append_right _ h)))
theorem inX0_take_RX0 : ∀ w ∈ u_ws RX0 TX0 4, w ∈ wsX0_take := fun w h => List.mem_cons_of_mem _ (List.mem_append_left _ (List.mem_append_right _ h))
theorem inX0_take_RX5 : ∀ w ∈ u_ws RX5 TX5 7, w ∈ wsX0_take := fun w h => List.mem_cons_of_mem _ (List.mem_append_left _ (List.mem_append_left _ (List.mem_append_right _ h)))
theorem inX0_take_RX8 : ∀ w ∈ u_ws RX8 TX8 12, w ∈ wsX0_take := fun w h => List.mem_cons_of_mem _ (List.mem_append_right _ h)
theorem inX0_takePair_RX0 : ∀ w ∈ u_ws RX0 TX0 4, w ∈ wsX0_takePair := fun w h => List.mem_cons_of_mem _ (List.mem_append_right _ h)
theorem inX0_write_RX0 : ∀ w ∈ u_ws RX0 TX0 4, w ∈ wsX0_write := fun w h => List.mem_cons_of_mem _ (List.mem_append_left _ (List.mem_append_left _ (List.mem_append_right _ h)))
theorem inX0_write_RX5 : ∀ w ∈ u_ws RX5 TX5 7, w ∈ wsX0_write := fun w h => List.mem_cons_of_mem _ (List.mem_append_left _ (List.mem_append_right _ h))
theorem inX0_write_RX8 : ∀ w ∈ u_ws RX8 TX8 12, w ∈ wsX0_write := fun w h => List.mem_cons_of_mem _ (List.mem_append_right _ h)
theorem inX0_writeByte_RX0 : ∀ w ∈ u_ws RX0 TX0 4, w ∈ wsX0_writeByte := fun w h => List.mem_cons_of_mem _ (List.mem_append_right _ h)
theorem inX1_addPull_RX1 : ∀ w ∈ u_ws RX1 TX1 5, w ∈ wsX1_addPull := fun w h => List.mem_cons_of_mem _ (List.mem_append_right _ h)
theorem inX1_clearPulls_RX1 : ∀ w ∈ u_ws RX1 TX1 5, w ∈ wsX1_clearPulls := fun w h => List.mem_cons_of_mem _ (List.mem_append_right _ h)
theorem inX1_moveDrifts_RX1 : ∀ w ∈ u_ws RX1 TX1 5, w ∈ wsX1_moveDrifts := fun w h => List.mem_cons_of_mem _ (List.mem_append_left _ (List.mem_append_left _ (List.mem_append_right _ h)))
theorem inX1_moveDrifts_RX5 : ∀ w ∈ u_ws RX5 TX5 7, w ∈ wsX1_moveDrifts := fun w h => List.mem_cons_of_mem _ (List.mem_append_right _ h)
theorem inX1_moveDrifts_RX8 : ∀ w ∈ u_ws RX8 TX8 12, w ∈ wsX1_moveDrifts := fun w h => List.mem_cons_of_mem _ (List.mem_append_left _ (List.mem_append_right _ h))
theorem inX1_moveEach_RX1 : ∀ w ∈ u_ws RX1 TX1 5, w ∈ wsX1_moveEach := fun w h => List.mem_cons_of_mem _ (List.mem_append_right _ h)
theorem inX1_movePictures_RX1 : ∀ w ∈ u_ws RX1 TX1 5, w ∈ wsX1_movePictures := fun w h => List.mem_cons_of_mem _ (List.mem_append_left _ (List.mem_append_left _ (List.mem_append_right _ h)))
theorem inX1_movePictures_RX5 : ∀ w ∈ u_ws RX5 TX5 7, w ∈ wsX1_movePictures := fun w h => List.mem_cons_of_mem _ (List.mem_append_right _ h)
theorem inX1_movePictures_RX8 : ∀ w ∈ u_ws RX8 TX8 12, w ∈ wsX1_movePictures := fun w h => List.mem_cons_of_mem _ (List.mem_append_left _ (List.mem_append_right _ h))
theorem inX1_movePoints_RX1 : ∀ w ∈ u_ws RX1 TX1 5, w ∈ wsX1_movePoints := fun w h => List.mem_cons_of_mem _ (List.mem_append_left _ (List.mem_append_left _ (List.mem_append_right _ h)))
theorem inX1_movePoints_RX5 : ∀ w ∈ u_ws RX5 TX5 7, w ∈ wsX1_movePoints := fun w h => List.mem_cons_of_mem _ (List.mem_append_right _ h)
theorem inX1_movePoints_RX8 : ∀ w ∈ u_ws RX8 TX8 12, w ∈ wsX1_movePoints := fun w h => List.mem_cons_of_mem _ (List.mem_append_left _ (List.mem_append_right _ h))
theorem inX1_settle_RX1 : ∀ w ∈ u_ws RX1 TX1 5, w ∈ wsX1_settle := fun w h => List.mem_cons_of_mem _ (List.mem_append_left _ (List.mem_append_left _ (List.mem_append_right _ h)))
theorem inX1_settle_RX8 : ∀ w ∈ u_ws RX8 TX8 12, w ∈ wsX1_settle := fun w h => List.mem_cons_of_mem _ (List.mem_append_left _ (List.mem_append_right _ h))
theorem inX2_canShow_RX2 : ∀ w ∈ u_ws RX2 TX2 4, w ∈ wsX2_canShow := fun w h => List.mem_cons_of_mem _ (List.mem_append_left _ (List.mem_append_left _ (List.mem_append_right _ h)))
theorem inX2_canShow_RX8 : ∀ w ∈ u_ws RX8 TX8 12, w ∈ wsX2_canShow := fun w h => List.mem_cons_of_mem _ (List.mem_append_left _ (List.mem_append_right _ h))
theorem inX2_countLoose_RX2 : ∀ w ∈ u_ws RX2 TX2 4, w ∈ wsX2_countLoose := fun w h => List.mem_cons_of_mem _ (List.mem_append_left _ (List.mem_append_left _ (List.mem_append_right _ h)))
theorem inX2_countLoose_RX8 : ∀ w ∈ u_ws RX8 TX8 12, w ∈ wsX2_countLoose := fun w h => List.mem_cons_of_mem _ (List.mem_append_left _ (List.mem_append_right _ h))
theorem inX2_countParts_RX2 : ∀ w ∈ u_ws RX2 TX2 4, w ∈ wsX2_countParts := fun w h => List.mem_cons_of_mem _ (List.mem_append_left _ (List.mem_append_left _ (List.mem_append_right _ h)))
theorem inX2_countParts_RX8 : ∀ w ∈ u_ws RX8 TX8 12, w ∈ wsX2_countParts := fun w h => List.mem_cons_of_mem _ (List.mem_append_left _ (List.mem_append_right _ h))
theorem inX2_firstCentre_RX2 : ∀ w ∈ u_ws RX2 TX2 4, w ∈ wsX2_firstCentre := fun w h => List.mem_cons_of_mem _ (List.mem_append_left _ (List.mem_append_right _ h))
theorem inX2_firstCentre_RX8 : ∀ w ∈ u_ws RX8 TX8 12, w ∈ wsX2_firstCentre := fun w h => List.mem_cons_of_mem _ (List.mem_append_right _ h)
theorem inX2_isJoined_RX2 : ∀ w ∈ u_ws RX2 TX2 4, w ∈ wsX2_isJoined := fun w h => List.mem_cons_of_mem _ (List.mem_append_left _ (List.mem_append_left _ (List.mem_append_right _ h)))
theorem inX2_isLoose_RX2 : ∀ w ∈ u_ws RX2 TX2 4, w ∈ wsX2_isLoose := fun w h => List.mem_cons_of_mem _ (List.mem_append_right _ h)
theorem inX2_join_RX2 : ∀ w ∈ u_ws RX2 TX2 4, w ∈ wsX2_join := fun w h => List.mem_cons_of_mem _ (List.mem_append_right _ h)
theorem inX2_joinAll_RX2 : ∀ w ∈ u_ws RX2 TX2 4, w ∈ wsX2_joinAll := fun w h => List.mem_cons_of_mem _ (List.mem_append_left _ (List.mem_append_left _ (List.mem_append_right _ h)))
theorem inX2_joinAll_RX8 : ∀ w ∈ u_ws RX8 TX8 12, w ∈ wsX2_joinAll := fun w h => List.mem_cons_of_mem _ (List.mem_append_left _ (List.mem_append_right _ h))
theorem inX3_fail_RX3 : ∀ w ∈ u_ws RX3 TX3 14, w ∈ wsX3_fail := fun w h => List.mem_cons_of_mem _ (List.mem_append_right _ h)
theorem inX3_isNoRun_RX3 : ∀ w ∈ u_ws RX3 TX3 14, w ∈ wsX3_isNoRun := fun w h => List.mem_cons_of_mem _ (List.mem_append_right _ h)
theorem inX3_isWord_RX3 : ∀ w ∈ u_ws RX3 TX3 14, w ∈ wsX3_isWord := fun w h => List.mem_cons_of_mem _ (List.mem_append_right _ h)
theorem inX3_markRun_RX3 : ∀ w ∈ u_ws RX3 TX3 14, w ∈ wsX3_markRun := fun w h => List.mem_cons_of_mem _ (List.mem_append_right _ h)
theorem inX3_passRun_RX3 : ∀ w ∈ u_ws RX3 TX3 14, w ∈ wsX3_passRun := fun w h => List.mem_cons_of_mem _ (List.mem_append_right _ h)
theorem inX3_read_RX3 : ∀ w ∈ u_ws RX3 TX3 14, w ∈ wsX3_read := fun w h => List.mem_cons_of_mem _ (List.mem_append_left _ (List.mem_append_right _ h))
theorem inX3_readAt_RX3 : ∀ w ∈ u_ws RX3 TX3 14, w ∈ wsX3_readAt := fun w h => List.mem_cons_of_mem _ (List.mem_append_right _ h)
theorem inX3_readCentre_RX3 : ∀ w ∈ u_ws RX3 TX3 14, w ∈ wsX3_readCentre := fun w h => List.mem_cons_of_mem _ (List.mem_append_left _ (List.mem_append_right _ h))
theorem inX3_readCentre_RX8 : ∀ w ∈ u_ws RX8 TX8 12, w ∈ wsX3_readCentre := fun w h => List.mem_cons_of_mem _ (List.mem_append_right _ h)
theorem inX3_readControl_RX3 : ∀ w ∈ u_ws RX3 TX3 14, w ∈ wsX3_readControl := fun w h => List.mem_cons_of_mem _ (List.mem_append_left _ (List.mem_append_right _ h))
theorem inX3_readControl_RX8 : ∀ w ∈ u_ws RX8 TX8 12, w ∈ wsX3_readControl := fun w h => List.mem_cons_of_mem _ (List.mem_append_right _ h)
theorem inX3_readName_RX3 : ∀ w ∈ u_ws RX3 TX3 14, w ∈ wsX3_readName := fun w h => List.mem_cons_of_mem _ (List.mem_append_left _ (List.mem_append_right _ h))
theorem inX3_readNamed_RX3 : ∀ w ∈ u_ws RX3 TX3 14, w ∈ wsX3_readNamed := fun w h => List.mem_cons_of_mem _ (List.mem_append_left _ (List.mem_append_right _ h))
theorem inX3_readNumber_RX3 : ∀ w ∈ u_ws RX3 TX3 14, w ∈ wsX3_readNumber := fun w h => List.mem_cons_of_mem _ (List.mem_append_right _ h)
theorem inX3_readPicture_RX3 : ∀ w ∈ u_ws RX3 TX3 14, w ∈ wsX3_readPicture := fun w h => List.mem_cons_of_mem _ (List.mem_append_left _ (List.mem_append_right _ h))
theorem inX3_readRow_RX3 : ∀ w ∈ u_ws RX3 TX3 14, w ∈ wsX3_readRow := fun w h => List.mem_cons_of_mem _ (List.mem_append_left _ (List.mem_append_right _ h))
theorem inX3_readSemicolon_RX3 : ∀ w ∈ u_ws RX3 TX3 14, w ∈ wsX3_readSemicolon := fun w h => List.mem_cons_of_mem _ (List.mem_append_right _ h)
theorem inX3_readStatement_RX3 : ∀ w ∈ u_ws RX3 TX3 14, w ∈ wsX3_readStatement := fun w h => List.mem_cons_of_mem _ (List.mem_append_left _ (List.mem_append_right _ h))
theorem inX3_readTurn_RX3 : ∀ w ∈ u_ws RX3 TX3 14, w ∈ wsX3_readTurn := fun w h => List.mem_cons_of_mem _ (List.mem_append_right _ h)
theorem inX3_readWord_RX3 : ∀ w ∈ u_ws RX3 TX3 14, w ∈ wsX3_readWord := fun w h => List.mem_cons_of_mem _ (List.mem_append_right _ h)
theorem inX3_skipBlanks_RX3 : ∀ w ∈ u_ws RX3 TX3 14, w ∈ wsX3_skipBlanks := fun w h => List.mem_cons_of_mem _ (List.mem_append_right _ h)
theorem inX4_addHold_RX4 : ∀ w ∈ u_ws RX4 TX4 5, w ∈ wsX4_addHold := fun w h => List.mem_cons_of_mem _ (List.mem_append_right _ h)
theorem inX4_addTerm_RX4 : ∀ w ∈ u_ws RX4 TX4 5, w ∈ wsX4_addTerm := fun w h => List.mem_cons_of_mem _ (List.mem_append_right _ h)
theorem inX4_driftOf_RX4 : ∀ w ∈ u_ws RX4 TX4 5, w ∈ wsX4_driftOf := fun w h => List.mem_cons_of_mem _ (List.mem_append_left _ (List.mem_append_right _ h))
theorem inX4_driftOf_RX8 : ∀ w ∈ u_ws RX8 TX8 12, w ∈ wsX4_driftOf := fun w h => List.mem_cons_of_mem _ (List.mem_append_right _ h)
theorem inX4_eliminate_RX4 : ∀ w ∈ u_ws RX4 TX4 5, w ∈ wsX4_eliminate := fun w h => List.mem_cons_of_mem _ (List.mem_append_right _ h)
theorem inX4_fill_RX4 : ∀ w ∈ u_ws RX4 TX4 5, w ∈ wsX4_fill := fun w h => List.mem_cons_of_mem _ (List.mem_append_left _ (List.mem_append_left _ (List.mem_append_right _ h)))
theorem inX4_fill_RX8 : ∀ w ∈ u_ws RX8 TX8 12, w ∈ wsX4_fill := fun w h => List.mem_cons_of_mem _ (List.mem_append_left _ (List.mem_append_right _ h))
theorem inX4_numberUnknowns_RX4 : ∀ w ∈ u_ws RX4 TX4 5, w ∈ wsX4_numberUnknowns := fun w h => List.mem_cons_of_mem _ (List.mem_append_left _ (List.mem_append_left _ (List.mem_append_right _ h)))
theorem inX4_numberUnknowns_RX8 : ∀ w ∈ u_ws RX8 TX8 12, w ∈ wsX4_numberUnknowns := fun w h => List.mem_cons_of_mem _ (List.mem_append_left _ (List.mem_append_right _ h))
theorem inX4_solveFor_RX4 : ∀ w ∈ u_ws RX4 TX4 5, w ∈ wsX4_solveFor := fun w h => List.mem_cons_of_mem _ (List.mem_append_left _ (List.mem_append_left _ (List.mem_append_right _ h)))
theorem inX4_subtractLine_RX4 : ∀ w ∈ u_ws RX4 TX4 5, w ∈ wsX4_subtractLine := fun w h => List.mem_cons_of_mem _ (List.mem_append_right _ h)
theorem inX4_swapLines_RX4 : ∀ w ∈ u_ws RX4 TX4 5, w ∈ wsX4_swapLines := fun w h => List.mem_cons_of_mem _ (List.mem_append_right _ h)
theorem inX5_centreAt_RX5 : ∀ w ∈ u_ws RX5 TX5 7, w ∈ wsX5_centreAt := fun w h => List.mem_cons_of_mem _ (List.mem_append_left _ (List.mem_append_right _ h))
theorem inX5_centreAt_RX8 : ∀ w ∈ u_ws RX8 TX8 12, w ∈ wsX5_centreAt := fun w h => List.mem_cons_of_mem _ (List.mem_append_right _ h)
theorem inX5_countFixed_RX5 : ∀ w ∈ u_ws RX5 TX5 7, w ∈ wsX5_countFixed := fun w h => List.mem_cons_of_mem _ (List.mem_append_left _ (List.mem_append_right _ h))
theorem inX5_countFixed_RX8 : ∀ w ∈ u_ws RX8 TX8 12, w ∈ wsX5_countFixed := fun w h => List.mem_cons_of_mem _ (List.mem_append_right _ h)
theorem inX5_countRows_RX5 : ∀ w ∈ u_ws RX5 TX5 7, w ∈ wsX5_countRows := fun w h => List.mem_cons_of_mem _ (List.mem_append_left _ (List.mem_append_right _ h))
theorem inX5_countRows_RX8 : ∀ w ∈ u_ws RX8 TX8 12, w ∈ wsX5_countRows := fun w h => List.mem_cons_of_mem _ (List.mem_append_right _ h)
theorem inX5_doubtOf_RX5 : ∀ w ∈ u_ws RX5 TX5 7, w ∈ wsX5_doubtOf := fun w h => List.mem_cons_of_mem _ (List.mem_append_left _ (List.mem_append_right _ h))
theorem inX5_doubtOf_RX8 : ∀ w ∈ u_ws RX8 TX8 12, w ∈ wsX5_doubtOf := fun w h => List.mem_cons_of_mem _ (List.mem_append_right _ h)
theorem inX5_fixedAt_RX5 : ∀ w ∈ u_ws RX5 TX5 7, w ∈ wsX5_fixedAt := fun w h => List.mem_cons_of_mem _ (List.mem_append_left _ (List.mem_append_right _ h))
theorem inX5_fixedAt_RX8 : ∀ w ∈ u_ws RX8 TX8 12, w ∈ wsX5_fixedAt := fun w h => List.mem_cons_of_mem _ (List.mem_append_right _ h)
theorem inX5_isFixed_RX5 : ∀ w ∈ u_ws RX5 TX5 7, w ∈ wsX5_isFixed := fun w h => List.mem_cons_of_mem _ (List.mem_append_left _ (List.mem_append_right _ h))
theorem inX5_isFixed_RX8 : ∀ w ∈ u_ws RX8 TX8 12, w ∈ wsX5_isFixed := fun w h => List.mem_cons_of_mem _ (List.mem_append_right _ h)
theorem inX5_miss_RX5 : ∀ w ∈ u_ws RX5 TX5 7, w ∈ wsX5_miss := fun w h => List.mem_cons_of_mem _ (List.mem_append_left _ (List.mem_append_right _ h))
theorem inX5_miss_RX8 : ∀ w ∈ u_ws RX8 TX8 12, w ∈ wsX5_miss := fun w h => List.mem_cons_of_mem _ (List.mem_append_right _ h)
theorem inX5_placeFixed_RX5 : ∀ w ∈ u_ws RX5 TX5 7, w ∈ wsX5_placeFixed := fun w h => List.mem_cons_of_mem _ (List.mem_append_left _ (List.mem_append_right _ h))
theorem inX5_placeFixed_RX8 : ∀ w ∈ u_ws RX8 TX8 12, w ∈ wsX5_placeFixed := fun w h => List.mem_cons_of_mem _ (List.mem_append_right _ h)
theorem inX5_putAt_RX5 : ∀ w ∈ u_ws RX5 TX5 7, w ∈ wsX5_putAt := fun w h => List.mem_cons_of_mem _ (List.mem_append_left _ (List.mem_append_right _ h))
theorem inX5_putAt_RX8 : ∀ w ∈ u_ws RX8 TX8 12, w ∈ wsX5_putAt := fun w h => List.mem_cons_of_mem _ (List.mem_append_right _ h)
theorem inX5_squares_RX5 : ∀ w ∈ u_ws RX5 TX5 7, w ∈ wsX5_squares := fun w h => List.mem_cons_of_mem _ (List.mem_append_left _ (List.mem_append_right _ h))
theorem inX5_squares_RX8 : ∀ w ∈ u_ws RX8 TX8 12, w ∈ wsX5_squares := fun w h => List.mem_cons_of_mem _ (List.mem_append_right _ h)
theorem inX5_takeFrom_RX5 : ∀ w ∈ u_ws RX5 TX5 7, w ∈ wsX5_takeFrom := fun w h => List.mem_cons_of_mem _ (List.mem_append_right _ h)
theorem inX5_turned_RX5 : ∀ w ∈ u_ws RX5 TX5 7, w ∈ wsX5_turned := fun w h => List.mem_cons_of_mem _ (List.mem_append_left _ (List.mem_append_right _ h))
theorem inX5_turned_RX8 : ∀ w ∈ u_ws RX8 TX8 12, w ∈ wsX5_turned := fun w h => List.mem_cons_of_mem _ (List.mem_append_right _ h)
theorem inX5_uses_RX5 : ∀ w ∈ u_ws RX5 TX5 7, w ∈ wsX5_uses := fun w h => List.mem_cons_of_mem _ (List.mem_append_right _ h)
theorem inX6_begin_RX6 : ∀ w ∈ u_ws RX6 TX6 6, w ∈ wsX6_begin := fun w h => List.mem_cons_of_mem _ (List.mem_append_left _ (List.mem_append_left _ (List.mem_append_right _ h)))
theorem inX6_begin_RX8 : ∀ w ∈ u_ws RX8 TX8 12, w ∈ wsX6_begin := fun w h => List.mem_cons_of_mem _ (List.mem_append_left _ (List.mem_append_right _ h))
theorem inX6_findLinked_RX6 : ∀ w ∈ u_ws RX6 TX6 6, w ∈ wsX6_findLinked := fun w h => List.mem_cons_of_mem _ (List.mem_append_left _ (List.mem_append_left _ (List.mem_append_right _ h)))
theorem inX6_findLinked_RX8 : ∀ w ∈ u_ws RX8 TX8 12, w ∈ wsX6_findLinked := fun w h => List.mem_cons_of_mem _ (List.mem_append_left _ (List.mem_append_right _ h))
theorem inX6_findUnstarted_RX6 : ∀ w ∈ u_ws RX6 TX6 6, w ∈ wsX6_findUnstarted := fun w h => List.mem_cons_of_mem _ (List.mem_append_left _ (List.mem_append_right _ h))
theorem inX6_findUnstarted_RX8 : ∀ w ∈ u_ws RX8 TX8 12, w ∈ wsX6_findUnstarted := fun w h => List.mem_cons_of_mem _ (List.mem_append_right _ h)
theorem inX6_firstLink_RX6 : ∀ w ∈ u_ws RX6 TX6 6, w ∈ wsX6_firstLink := fun w h => List.mem_cons_of_mem _ (List.mem_append_left _ (List.mem_append_right _ h))
theorem inX6_firstLink_RX8 : ∀ w ∈ u_ws RX8 TX8 12, w ∈ wsX6_firstLink := fun w h => List.mem_cons_of_mem _ (List.mem_append_right _ h)
theorem inX6_gatherOwn_RX6 : ∀ w ∈ u_ws RX6 TX6 6, w ∈ wsX6_gatherOwn := fun w h => List.mem_cons_of_mem _ (List.mem_append_left _ (List.mem_append_left _ (List.mem_append_right _ h)))
theorem inX6_gatherOwn_RX8 : ∀ w ∈ u_ws RX8 TX8 12, w ∈ wsX6_gatherOwn := fun w h => List.mem_cons_of_mem _ (List.mem_append_left _ (List.mem_append_right _ h))
theorem inX6_gatherStarted_RX6 : ∀ w ∈ u_ws RX6 TX6 6, w ∈ wsX6_gatherStarted := fun w h => List.mem_cons_of_mem _ (List.mem_append_left _ (List.mem_append_left _ (List.mem_append_right _ h)))
theorem inX6_gatherStarted_RX8 : ∀ w ∈ u_ws RX8 TX8 12, w ∈ wsX6_gatherStarted := fun w h => List.mem_cons_of_mem _ (List.mem_append_left _ (List.mem_append_right _ h))
theorem inX6_putPoints_RX5 : ∀ w ∈ u_ws RX5 TX5 7, w ∈ wsX6_putPoints := fun w h => List.mem_cons_of_mem _ (List.mem_append_right _ h)
theorem inX6_putPoints_RX6 : ∀ w ∈ u_ws RX6 TX6 6, w ∈ wsX6_putPoints := fun w h => List.mem_cons_of_mem _ (List.mem_append_left _ (List.mem_append_left _ (List.mem_append_right _ h)))
theorem inX6_putPoints_RX8 : ∀ w ∈ u_ws RX8 TX8 12, w ∈ wsX6_putPoints := fun w h => List.mem_cons_of_mem _ (List.mem_append_left _ (List.mem_append_right _ h))
theorem inX6_reset_RX5 : ∀ w ∈ u_ws RX5 TX5 7, w ∈ wsX6_reset := fun w h => List.mem_cons_of_mem _ (List.mem_append_left _ (List.mem_append_right _ h))
theorem inX6_reset_RX6 : ∀ w ∈ u_ws RX6 TX6 6, w ∈ wsX6_reset := fun w h => List.mem_cons_of_mem _ (List.mem_append_left _ (List.mem_append_left _ (List.mem_append_right _ h)))
theorem inX6_reset_RX8 : ∀ w ∈ u_ws RX8 TX8 12, w ∈ wsX6_reset := fun w h => List.mem_cons_of_mem _ (List.mem_append_right _ h)
theorem inX6_startLinked_RX5 : ∀ w ∈ u_ws RX5 TX5 7, w ∈ wsX6_startLinked := fun w h => List.mem_cons_of_mem _ (List.mem_append_right _ h)
theorem inX6_startLinked_RX6 : ∀ w ∈ u_ws RX6 TX6 6, w ∈ wsX6_startLinked := fun w h => List.mem_cons_of_mem _ (List.mem_append_left _ (List.mem_append_left _ (List.mem_append_right _ h)))
theorem inX6_startLinked_RX8 : ∀ w ∈ u_ws RX8 TX8 12, w ∈ wsX6_startLinked := fun w h => List.mem_cons_of_mem _ (List.mem_append_left _ (List.mem_append_right _ h))
theorem inX6_unlikeness_RX6 : ∀ w ∈ u_ws RX6 TX6 6, w ∈ wsX6_unlikeness := fun w h => List.mem_cons_of_mem _ (List.mem_append_left _ (List.mem_append_right _ h))
theorem inX6_unlikeness_RX8 : ∀ w ∈ u_ws RX8 TX8 12, w ∈ wsX6_unlikeness := fun w h => List.mem_cons_of_mem _ (List.mem_append_right _ h)
theorem inX7_addBranch_RX7 : ∀ w ∈ u_ws RX7 TX7 13, w ∈ wsX7_addBranch := fun w h => List.mem_cons_of_mem _ (List.mem_append_left _ (List.mem_append_right _ h))
theorem inX7_addBranch_RX8 : ∀ w ∈ u_ws RX8 TX8 12, w ∈ wsX7_addBranch := fun w h => List.mem_cons_of_mem _ (List.mem_append_right _ h)
theorem inX7_countPlanned_RX7 : ∀ w ∈ u_ws RX7 TX7 13, w ∈ wsX7_countPlanned := fun w h => List.mem_cons_of_mem _ (List.mem_append_left _ (List.mem_append_right _ h))
theorem inX7_countPlanned_RX8 : ∀ w ∈ u_ws RX8 TX8 12, w ∈ wsX7_countPlanned := fun w h => List.mem_cons_of_mem _ (List.mem_append_right _ h)
theorem inX7_findGap_RX7 : ∀ w ∈ u_ws RX7 TX7 13, w ∈ wsX7_findGap := fun w h => List.mem_cons_of_mem _ (List.mem_append_left _ (List.mem_append_right _ h))
theorem inX7_findGap_RX8 : ∀ w ∈ u_ws RX8 TX8 12, w ∈ wsX7_findGap := fun w h => List.mem_cons_of_mem _ (List.mem_append_right _ h)
theorem inX7_growTree_RX7 : ∀ w ∈ u_ws RX7 TX7 13, w ∈ wsX7_growTree := fun w h => List.mem_cons_of_mem _ (List.mem_append_left _ (List.mem_append_right _ h))
theorem inX7_growTree_RX8 : ∀ w ∈ u_ws RX8 TX8 12, w ∈ wsX7_growTree := fun w h => List.mem_cons_of_mem _ (List.mem_append_right _ h)
theorem inX7_isLoop_RX7 : ∀ w ∈ u_ws RX7 TX7 13, w ∈ wsX7_isLoop := fun w h => List.mem_cons_of_mem _ (List.mem_append_right _ h)
theorem inX7_markPlanned_RX7 : ∀ w ∈ u_ws RX7 TX7 13, w ∈ wsX7_markPlanned := fun w h => List.mem_cons_of_mem _ (List.mem_append_left _ (List.mem_append_right _ h))
theorem inX7_markPlanned_RX8 : ∀ w ∈ u_ws RX8 TX8 12, w ∈ wsX7_markPlanned := fun w h => List.mem_cons_of_mem _ (List.mem_append_right _ h)
theorem inX7_stepOf_RX7 : ∀ w ∈ u_ws RX7 TX7 13, w ∈ wsX7_stepOf := fun w h => List.mem_cons_of_mem _ (List.mem_append_right _ h)
theorem inX7_survey_RX7 : ∀ w ∈ u_ws RX7 TX7 13, w ∈ wsX7_survey := fun w h => List.mem_cons_of_mem _ (List.mem_append_left _ (List.mem_append_left _ (List.mem_append_right _ h)))
theorem inX7_survey_RX8 : ∀ w ∈ u_ws RX8 TX8 12, w ∈ wsX7_survey := fun w h => List.mem_cons_of_mem _ (List.mem_append_left _ (List.mem_append_right _ h))
theorem inX7_surveyTie_RX7 : ∀ w ∈ u_ws RX7 TX7 13, w ∈ wsX7_surveyTie := fun w h => List.mem_cons_of_mem _ (List.mem_append_left _ (List.mem_append_left _ (List.mem_append_right _ h)))
theorem inX7_surveyTie_RX8 : ∀ w ∈ u_ws RX8 TX8 12, w ∈ wsX7_surveyTie := fun w h => List.mem_cons_of_mem _ (List.mem_append_left _ (List.mem_append_right _ h))
theorem inX7_takeGap_RX7 : ∀ w ∈ u_ws RX7 TX7 13, w ∈ wsX7_takeGap := fun w h => List.mem_cons_of_mem _ (List.mem_append_right _ h)
theorem inX8_addCentre_RX8 : ∀ w ∈ u_ws RX8 TX8 12, w ∈ wsX8_addCentre := fun w h => List.mem_cons_of_mem _ (List.mem_append_right _ h)
theorem inX8_addControl_RX8 : ∀ w ∈ u_ws RX8 TX8 12, w ∈ wsX8_addControl := fun w h => List.mem_cons_of_mem _ (List.mem_append_right _ h)
theorem inX8_addNamed_RX8 : ∀ w ∈ u_ws RX8 TX8 12, w ∈ wsX8_addNamed := fun w h => List.mem_cons_of_mem _ (List.mem_append_right _ h)
theorem inX8_addPicture_RX8 : ∀ w ∈ u_ws RX8 TX8 12, w ∈ wsX8_addPicture := fun w h => List.mem_cons_of_mem _ (List.mem_append_right _ h)
theorem inX8_addRow_RX8 : ∀ w ∈ u_ws RX8 TX8 12, w ∈ wsX8_addRow := fun w h => List.mem_cons_of_mem _ (List.mem_append_right _ h)
theorem inX8_clear_RX8 : ∀ w ∈ u_ws RX8 TX8 12, w ∈ wsX8_clear := fun w h => List.mem_cons_of_mem _ (List.mem_append_right _ h)
theorem inX8_drifts_RX8 : ∀ w ∈ u_ws RX8 TX8 12, w ∈ wsX8_drifts := fun w h => List.mem_cons_of_mem _ (List.mem_append_right _ h)
theorem inX8_exists_RX8 : ∀ w ∈ u_ws RX8 TX8 12, w ∈ wsX8_exists := fun w h => List.mem_cons_of_mem _ (List.mem_append_right _ h)
theorem inX8_find_RX8 : ∀ w ∈ u_ws RX8 TX8 12, w ∈ wsX8_find := fun w h => List.mem_cons_of_mem _ (List.mem_append_right _ h)
theorem inX8_findRow_RX8 : ∀ w ∈ u_ws RX8 TX8 12, w ∈ wsX8_findRow := fun w h => List.mem_cons_of_mem _ (List.mem_append_right _ h)
theorem inX8_isFull_RX8 : ∀ w ∈ u_ws RX8 TX8 12, w ∈ wsX8_isFull := fun w h => List.mem_cons_of_mem _ (List.mem_append_right _ h)
theorem inX8_setMeasured_RX8 : ∀ w ∈ u_ws RX8 TX8 12, w ∈ wsX8_setMeasured := fun w h => List.mem_cons_of_mem _ (List.mem_append_right _ h)
theorem inX8_takeFrom_RX8 : ∀ w ∈ u_ws RX8 TX8 12, w ∈ wsX8_takeFrom := fun w h => List.mem_cons_of_mem _ (List.mem_append_right _ h)
theorem inX8_turnedBy_RX8 : ∀ w ∈ u_ws RX8 TX8 12, w ∈ wsX8_turnedBy := fun w h => List.mem_cons_of_mem _ (List.mem_append_right _ h)
theorem inX9_alters_RX8 : ∀ w ∈ u_ws RX8 TX8 12, w ∈ wsX9_alters := fun w h => List.mem_cons_of_mem _ (List.mem_append_left _ (List.mem_append_left _ (List.mem_append_right _ h)))
theorem inX9_alters_RX9 : ∀ w ∈ u_ws RX9 TX9 17, w ∈ wsX9_alters := fun w h => List.mem_cons_of_mem _ (List.mem_append_left _ (List.mem_append_left _ (List.mem_append_left _ (List.mem_append_right _ h))))
theorem inX9_areUnlike_RX9 : ∀ w ∈ u_ws RX9 TX9 17, w ∈ wsX9_areUnlike := fun w h => List.mem_cons_of_mem _ (List.mem_append_left _ (List.mem_append_right _ h))
theorem inX9_blind_RX8 : ∀ w ∈ u_ws RX8 TX8 12, w ∈ wsX9_blind := fun w h => List.mem_cons_of_mem _ (List.mem_append_left _ (List.mem_append_left _ (List.mem_append_right _ h)))
theorem inX9_blind_RX9 : ∀ w ∈ u_ws RX9 TX9 17, w ∈ wsX9_blind := fun w h => List.mem_cons_of_mem _ (List.mem_append_left _ (List.mem_append_left _ (List.mem_append_left _ (List.mem_append_right _ h))))
theorem inX9_block_RX3 : ∀ w ∈ u_ws RX3 TX3 14, w ∈ wsX9_block := fun w h => List.mem_cons_of_mem _ (List.mem_append_left _ (List.mem_append_left _ (List.mem_append_left _ (List.mem_append_right _ h))))
theorem inX9_block_RX5 : ∀ w ∈ u_ws RX5 TX5 7, w ∈ wsX9_block := fun w h => List.mem_cons_of_mem _ (List.mem_append_left _ (List.mem_append_left _ (List.mem_append_right _ h)))
theorem inX9_block_RX9 : ∀ w ∈ u_ws RX9 TX9 17, w ∈ wsX9_block := fun w h => List.mem_cons_of_mem _ (List.mem_append_left _ (List.mem_append_left _ (List.mem_append_left _ (List.mem_append_left _ (List.mem_append_right _ h)))))
theorem inX9_canMeasure_RX9 : ∀ w ∈ u_ws RX9 TX9 17, w ∈ wsX9_canMeasure := fun w h => List.mem_cons_of_mem _ (List.mem_append_left _ (List.mem_append_right _ h))
theorem inX9_clean_RX9 : ∀ w ∈ u_ws RX9 TX9 17, w ∈ wsX9_clean := fun w h => List.mem_cons_of_mem _ (List.mem_append_left _ (List.mem_append_left _ (List.mem_append_left _ (List.mem_append_left _ (List.mem_append_right _ h)))))
theorem inX9_countDropped_RX8 : ∀ w ∈ u_ws RX8 TX8 12, w ∈ wsX9_countDropped := fun w h => List.mem_cons_of_mem _ (List.mem_append_left _ (List.mem_append_right _ h))
theorem inX9_countDropped_RX9 : ∀ w ∈ u_ws RX9 TX9 17, w ∈ wsX9_countDropped := fun w h => List.mem_cons_of_mem _ (List.mem_append_left _ (List.mem_append_left _ (List.mem_append_right _ h)))
theorem inX9_countMoved_RX5 : ∀ w ∈ u_ws RX5 TX5 7, w ∈ wsX9_countMoved := fun w h => List.mem_cons_of_mem _ (List.mem_append_right _ h)
theorem inX9_countMoved_RX8 : ∀ w ∈ u_ws RX8 TX8 12, w ∈ wsX9_countMoved := fun w h => List.mem_cons_of_mem _ (List.mem_append_left _ (List.mem_append_right _ h))
theorem inX9_countMoved_RX9 : ∀ w ∈ u_ws RX9 TX9 17, w ∈ wsX9_countMoved := fun w h => List.mem_cons_of_mem _ (List.mem_append_left _ (List.mem_append_left _ (List.mem_append_right _ h)))
theorem inX9_differ_RX9 : ∀ w ∈ u_ws RX9 TX9 17, w ∈ wsX9_differ := fun w h => List.mem_cons_of_mem _ (List.mem_append_left _ (List.mem_append_left _ (List.mem_append_left _ (List.mem_append_left _ (List.mem_append_right _ h)))))
theorem inX9_doubt_RX9 : ∀ w ∈ u_ws RX9 TX9 17, w ∈ wsX9_doubt := fun w h => List.mem_cons_of_mem _ (List.mem_append_left _ (List.mem_append_left _ (List.mem_append_right _ h)))
theorem inX9_drift_RX5 : ∀ w ∈ u_ws RX5 TX5 7, w ∈ wsX9_drift := fun w h => List.mem_cons_of_mem _ (List.mem_append_left _ (List.mem_append_right _ h))
theorem inX9_drift_RX9 : ∀ w ∈ u_ws RX9 TX9 17, w ∈ wsX9_drift := fun w h => List.mem_cons_of_mem _ (List.mem_append_left _ (List.mem_append_left _ (List.mem_append_right _ h)))
theorem inX9_drop_RX5 : ∀ w ∈ u_ws RX5 TX5 7, w ∈ wsX9_drop := fun w h => List.mem_cons_of_mem _ (List.mem_append_left _ (List.mem_append_right _ h))
theorem inX9_drop_RX9 : ∀ w ∈ u_ws RX9 TX9 17, w ∈ wsX9_drop := fun w h => List.mem_cons_of_mem _ (List.mem_append_left _ (List.mem_append_left _ (List.mem_append_right _ h)))
theorem inX9_dropAbove_RX5 : ∀ w ∈ u_ws RX5 TX5 7, w ∈ wsX9_dropAbove := fun w h => List.mem_cons_of_mem _ (List.mem_append_left _ (List.mem_append_left _ (List.mem_append_left _ (List.mem_append_right _ h))))
theorem inX9_dropAbove_RX9 : ∀ w ∈ u_ws RX9 TX9 17, w ∈ wsX9_dropAbove := fun w h => List.mem_cons_of_mem _ (List.mem_append_left _ (List.mem_append_left _ (List.mem_append_left _ (List.mem_append_left _ (List.mem_append_right _ h)))))
theorem inX9_end_RX9 : ∀ w ∈ u_ws RX9 TX9 17, w ∈ wsX9_end := fun w h => List.mem_cons_of_mem _ (List.mem_append_right _ h)
theorem inX9_fault_RX9 : ∀ w ∈ u_ws RX9 TX9 17, w ∈ wsX9_fault := fun w h => List.mem_cons_of_mem _ (List.mem_append_right _ h)
theorem inX9_feed_RX9 : ∀ w ∈ u_ws RX9 TX9 17, w ∈ wsX9_feed := fun w h => List.mem_cons_of_mem _ (List.mem_append_right _ h)
theorem inX9_findWorst_RX8 : ∀ w ∈ u_ws RX8 TX8 12, w ∈ wsX9_findWorst := fun w h => List.mem_cons_of_mem _ (List.mem_append_left _ (List.mem_append_left _ (List.mem_append_right _ h)))
theorem inX9_findWorst_RX9 : ∀ w ∈ u_ws RX9 TX9 17, w ∈ wsX9_findWorst := fun w h => List.mem_cons_of_mem _ (List.mem_append_left _ (List.mem_append_left _ (List.mem_append_left _ (List.mem_append_right _ h))))
theorem inX9_gap_RX7 : ∀ w ∈ u_ws RX7 TX7 13, w ∈ wsX9_gap := fun w h => List.mem_cons_of_mem _ (List.mem_append_left _ (List.mem_append_left _ (List.mem_append_right _ h)))
theorem inX9_gap_RX9 : ∀ w ∈ u_ws RX9 TX9 17, w ∈ wsX9_gap := fun w h => List.mem_cons_of_mem _ (List.mem_append_left _ (List.mem_append_left _ (List.mem_append_left _ (List.mem_append_right _ h))))
theorem inX9_hang_RX9 : ∀ w ∈ u_ws RX9 TX9 17, w ∈ wsX9_hang := fun w h => List.mem_cons_of_mem _ (List.mem_append_left _ (List.mem_append_left _ (List.mem_append_left _ (List.mem_append_right _ h))))
theorem inX9_has_RX5 : ∀ w ∈ u_ws RX5 TX5 7, w ∈ wsX9_has := fun w h => List.mem_cons_of_mem _ (List.mem_append_right _ h)
theorem inX9_has_RX8 : ∀ w ∈ u_ws RX8 TX8 12, w ∈ wsX9_has := fun w h => List.mem_cons_of_mem _ (List.mem_append_left _ (List.mem_append_right _ h))
theorem inX9_has_RX9 : ∀ w ∈ u_ws RX9 TX9 17, w ∈ wsX9_has := fun w h => List.mem_cons_of_mem _ (List.mem_append_left _ (List.mem_append_left _ (List.mem_append_right _ h)))
theorem inX9_image_RX9 : ∀ w ∈ u_ws RX9 TX9 17, w ∈ wsX9_image := fun w h => List.mem_cons_of_mem _ (List.mem_append_left _ (List.mem_append_left _ (List.mem_append_left _ (List.mem_append_right _ h))))
theorem inX9_letter_RX8 : ∀ w ∈ u_ws RX8 TX8 12, w ∈ wsX9_letter := fun w h => List.mem_cons_of_mem _ (List.mem_append_right _ h)
theorem inX9_letter_RX9 : ∀ w ∈ u_ws RX9 TX9 17, w ∈ wsX9_letter := fun w h => List.mem_cons_of_mem _ (List.mem_append_left _ (List.mem_append_right _ h))
theorem inX9_loop_RX9 : ∀ w ∈ u_ws RX9 TX9 17, w ∈ wsX9_loop := fun w h => List.mem_cons_of_mem _ (List.mem_append_left _ (List.mem_append_left _ (List.mem_append_left _ (List.mem_append_right _ h))))
theorem inX9_measure_RX9 : ∀ w ∈ u_ws RX9 TX9 17, w ∈ wsX9_measure := fun w h => List.mem_cons_of_mem _ (List.mem_append_left _ (List.mem_append_right _ h))
theorem inX9_needs_RX9 : ∀ w ∈ u_ws RX9 TX9 17, w ∈ wsX9_needs := fun w h => List.mem_cons_of_mem _ (List.mem_append_left _ (List.mem_append_left _ (List.mem_append_left _ (List.mem_append_right _ h))))
theorem inX9_octet_RX0 : ∀ w ∈ u_ws RX0 TX0 4, w ∈ wsX9_octet := fun w h => List.mem_cons_of_mem _ (List.mem_append_right _ h)
theorem inX9_octet_RX9 : ∀ w ∈ u_ws RX9 TX9 17, w ∈ wsX9_octet := fun w h => List.mem_cons_of_mem _ (List.mem_append_left _ (List.mem_append_right _ h))
theorem inX9_on_RX9 : ∀ w ∈ u_ws RX9 TX9 17, w ∈ wsX9_on := fun w h => List.mem_cons_of_mem _ (List.mem_append_left _ (List.mem_append_left _ (List.mem_append_left _ (List.mem_append_right _ h))))
theorem inX9_parts_RX9 : ∀ w ∈ u_ws RX9 TX9 17, w ∈ wsX9_parts := fun w h => List.mem_cons_of_mem _ (List.mem_append_left _ (List.mem_append_left _ (List.mem_append_left _ (List.mem_append_right _ h))))
theorem inX9_picture_RX5 : ∀ w ∈ u_ws RX5 TX5 7, w ∈ wsX9_picture := fun w h => List.mem_cons_of_mem _ (List.mem_append_left _ (List.mem_append_right _ h))
theorem inX9_picture_RX8 : ∀ w ∈ u_ws RX8 TX8 12, w ∈ wsX9_picture := fun w h => List.mem_cons_of_mem _ (List.mem_append_left _ (List.mem_append_left _ (List.mem_append_right _ h)))
theorem inX9_picture_RX9 : ∀ w ∈ u_ws RX9 TX9 17, w ∈ wsX9_picture := fun w h => List.mem_cons_of_mem _ (List.mem_append_left _ (List.mem_append_left _ (List.mem_append_left _ (List.mem_append_right _ h))))
theorem inX9_placeBySet_RX5 : ∀ w ∈ u_ws RX5 TX5 7, w ∈ wsX9_placeBySet := fun w h => List.mem_cons_of_mem _ (List.mem_append_left _ (List.mem_append_left _ (List.mem_append_left _ (List.mem_append_right _ h))))
theorem inX9_placeBySet_RX9 : ∀ w ∈ u_ws RX9 TX9 17, w ∈ wsX9_placeBySet := fun w h => List.mem_cons_of_mem _ (List.mem_append_left _ (List.mem_append_left _ (List.mem_append_left _ (List.mem_append_left _ (List.mem_append_right _ h)))))
theorem inX9_plan_RX9 : ∀ w ∈ u_ws RX9 TX9 17, w ∈ wsX9_plan := fun w h => List.mem_cons_of_mem _ (List.mem_append_left _ (List.mem_append_left _ (List.mem_append_left _ (List.mem_append_right _ h))))
theorem inX9_point_RX5 : ∀ w ∈ u_ws RX5 TX5 7, w ∈ wsX9_point := fun w h => List.mem_cons_of_mem _ (List.mem_append_left _ (List.mem_append_left _ (List.mem_append_right _ h)))
theorem inX9_point_RX8 : ∀ w ∈ u_ws RX8 TX8 12, w ∈ wsX9_point := fun w h => List.mem_cons_of_mem _ (List.mem_append_left _ (List.mem_append_right _ h))
theorem inX9_point_RX9 : ∀ w ∈ u_ws RX9 TX9 17, w ∈ wsX9_point := fun w h => List.mem_cons_of_mem _ (List.mem_append_left _ (List.mem_append_left _ (List.mem_append_left _ (List.mem_append_right _ h))))
theorem inX9_putBack_RX5 : ∀ w ∈ u_ws RX5 TX5 7, w ∈ wsX9_putBack := fun w h => List.mem_cons_of_mem _ (List.mem_append_right _ h)
theorem inX9_putBack_RX8 : ∀ w ∈ u_ws RX8 TX8 12, w ∈ wsX9_putBack := fun w h => List.mem_cons_of_mem _ (List.mem_append_left _ (List.mem_append_right _ h))
theorem inX9_putBack_RX9 : ∀ w ∈ u_ws RX9 TX9 17, w ∈ wsX9_putBack := fun w h => List.mem_cons_of_mem _ (List.mem_append_left _ (List.mem_append_left _ (List.mem_append_right _ h)))
theorem inX9_rounds_RX9 : ∀ w ∈ u_ws RX9 TX9 17, w ∈ wsX9_rounds := fun w h => List.mem_cons_of_mem _ (List.mem_append_left _ (List.mem_append_left _ (List.mem_append_left _ (List.mem_append_right _ h))))
theorem inX9_row_RX5 : ∀ w ∈ u_ws RX5 TX5 7, w ∈ wsX9_row := fun w h => List.mem_cons_of_mem _ (List.mem_append_left _ (List.mem_append_right _ h))
theorem inX9_row_RX8 : ∀ w ∈ u_ws RX8 TX8 12, w ∈ wsX9_row := fun w h => List.mem_cons_of_mem _ (List.mem_append_left _ (List.mem_append_left _ (List.mem_append_right _ h)))
theorem inX9_row_RX9 : ∀ w ∈ u_ws RX9 TX9 17, w ∈ wsX9_row := fun w h => List.mem_cons_of_mem _ (List.mem_append_left _ (List.mem_append_left _ (List.mem_append_left _ (List.mem_append_right _ h))))
theorem inX9_sets_RX5 : ∀ w ∈ u_ws RX5 TX5 7, w ∈ wsX9_sets := fun w h => List.mem_cons_of_mem _ (List.mem_append_left _ (List.mem_append_right _ h))
theorem inX9_sets_RX9 : ∀ w ∈ u_ws RX9 TX9 17, w ∈ wsX9_sets := fun w h => List.mem_cons_of_mem _ (List.mem_append_left _ (List.mem_append_left _ (List.mem_append_right _ h)))
theorem inX9_slips_RX8 : ∀ w ∈ u_ws RX8 TX8 12, w ∈ wsX9_slips := fun w h => List.mem_cons_of_mem _ (List.mem_append_right _ h)
theorem inX9_slips_RX9 : ∀ w ∈ u_ws RX9 TX9 17, w ∈ wsX9_slips := fun w h => List.mem_cons_of_mem _ (List.mem_append_left _ (List.mem_append_right _ h))
theorem inX9_start_RX9 : ∀ w ∈ u_ws RX9 TX9 17, w ∈ wsX9_start := fun w h => List.mem_cons_of_mem _ (List.mem_append_left _ (List.mem_append_left _ (List.mem_append_left _ (List.mem_append_right _ h))))
theorem inX9_sum_RX9 : ∀ w ∈ u_ws RX9 TX9 17, w ∈ wsX9_sum := fun w h => List.mem_cons_of_mem _ (List.mem_append_left _ (List.mem_append_left _ (List.mem_append_right _ h)))
theorem inX9_tapeNumber_RX9 : ∀ w ∈ u_ws RX9 TX9 17, w ∈ wsX9_tapeNumber := fun w h => List.mem_cons_of_mem _ (List.mem_append_right _ h)
theorem inX9_tie_RX7 : ∀ w ∈ u_ws RX7 TX7 13, w ∈ wsX9_tie := fun w h => List.mem_cons_of_mem _ (List.mem_append_left _ (List.mem_append_left _ (List.mem_append_right _ h)))
theorem inX9_tie_RX9 : ∀ w ∈ u_ws RX9 TX9 17, w ∈ wsX9_tie := fun w h => List.mem_cons_of_mem _ (List.mem_append_left _ (List.mem_append_left _ (List.mem_append_left _ (List.mem_append_right _ h))))
theorem inX9_tree_RX7 : ∀ w ∈ u_ws RX7 TX7 13, w ∈ wsX9_tree := fun w h => List.mem_cons_of_mem _ (List.mem_append_left _ (List.mem_append_left _ (List.mem_append_right _ h)))
theorem inX9_tree_RX9 : ∀ w ∈ u_ws RX9 TX9 17, w ∈ wsX9_tree := fun w h => List.mem_cons_of_mem _ (List.mem_append_left _ (List.mem_append_left _ (List.mem_append_left _ (List.mem_append_right _ h))))
theorem inX9_whole_RX5 : ∀ w ∈ u_ws RX5 TX5 7, w ∈ wsX9_whole := fun w h => List.mem_cons_of_mem _ (List.mem_append_left _ (List.mem_append_left _ (List.mem_append_right _ h)))
theorem inX9_whole_RX9 : ∀ w ∈ u_ws RX9 TX9 17, w ∈ wsX9_whole := fun w h => List.mem_cons_of_mem _ (List.mem_append_left _ (List.mem_append_left _ (List.mem_append_left _ (List.mem_append_right _ h))))
theorem hyX9_areUnlike : yX9_areUnlike.cls = RX9 ∧ yX9_areUnlike.cls ≠ "java/lang/invoke/MethodHandle" ∧ yX9_areUnlike.cls ≠ "java/lang/invoke/VarHandle" ∧ (parseMethodDescriptor yX9_areUnlike.desc).map (fun d => d.parameters.length) = some 2 := by decide +kernel
theorem hyX9_canMeasure : yX9_canMeasure.cls = RX9 ∧ yX9_canMeasure.cls ≠ "java/lang/invoke/MethodHandle" ∧ yX9_canMeasure.cls ≠ "java/lang/invoke/VarHandle" ∧ (parseMethodDescriptor yX9_canMeasure.desc).map (fun d => d.parameters.length) = some 3 := by decide +kernel
theorem hyX9_copyAll : yX9_copyAll.cls ≠ "java/lang/invoke/MethodHandle" ∧ yX9_copyAll.cls ≠ "java/lang/invoke/VarHandle" ∧ (parseMethodDescriptor yX9_copyAll.desc).map (fun d => d.parameters.length) = some 2 := by decide +kernel
theorem hyX9_countDropped : yX9_countDropped.cls = RX9 ∧ yX9_countDropped.cls ≠ "java/lang/invoke/MethodHandle" ∧ yX9_countDropped.cls ≠ "java/lang/invoke/VarHandle" ∧ (parseMethodDescriptor yX9_countDropped.desc).map (fun d => d.parameters.length) = some 0 := by decide +kernel
theorem hyX9_countMoved : yX9_countMoved.cls = RX9 ∧ yX9_countMoved.cls ≠ "java/lang/invoke/MethodHandle" ∧ yX9_countMoved.cls ≠ "java/lang/invoke/VarHandle" ∧ (parseMethodDescriptor yX9_countMoved.desc).map (fun d => d.parameters.length) = some 1 := by decide +kernel
theorem hyX9_drawn : yX9_drawn.cls ≠ "java/lang/invoke/MethodHandle" ∧ yX9_drawn.cls ≠ "java/lang/invoke/VarHandle" ∧ (parseMethodDescriptor yX9_drawn.desc).map (fun d => d.parameters.length) = some 2 := by decide +kernel
theorem hyX9_dropAbove : yX9_dropAbove.cls = RX9 ∧ yX9_dropAbove.cls ≠ "java/lang/invoke/MethodHandle" ∧ yX9_dropAbove.cls ≠ "java/lang/invoke/VarHandle" ∧ (parseMethodDescriptor yX9_dropAbove.desc).map (fun d => d.parameters.length) = some 1 := by decide +kernel
theorem hyX9_findWorst : yX9_findWorst.cls = RX9 ∧ yX9_findWorst.cls ≠ "java/lang/invoke/MethodHandle" ∧ yX9_findWorst.cls ≠ "java/lang/invoke/VarHandle" ∧ (parseMethodDescriptor yX9_findWorst.desc).map (fun d => d.parameters.length) = some 0 := by decide +kernel
theorem hyX9_isAxis : yX9_isAxis.cls ≠ "java/lang/invoke/MethodHandle" ∧ yX9_isAxis.cls ≠ "java/lang/invoke/VarHandle" ∧ (parseMethodDescriptor yX9_isAxis.desc).map (fun d => d.parameters.length) = some 1 := by decide +kernel
theorem hyX9_keptMeasured : yX9_keptMeasured.cls ≠ "java/lang/invoke/MethodHandle" ∧ yX9_keptMeasured.cls ≠ "java/lang/invoke/VarHandle" ∧ (parseMethodDescriptor yX9_keptMeasured.desc).map (fun d => d.parameters.length) = some 1 := by decide +kernel
theorem hyX9_nextDraw : yX9_nextDraw.cls ≠ "java/lang/invoke/MethodHandle" ∧ yX9_nextDraw.cls ≠ "java/lang/invoke/VarHandle" ∧ (parseMethodDescriptor yX9_nextDraw.desc).map (fun d => d.parameters.length) = some 1 := by decide +kernel
theorem hyX9_placeBySet : yX9_placeBySet.cls = RX9 ∧ yX9_placeBySet.cls ≠ "java/lang/invoke/MethodHandle" ∧ yX9_placeBySet.cls ≠ "java/lang/invoke/VarHandle" ∧ (parseMethodDescriptor yX9_placeBySet.desc).map (fun d => d.parameters.length) = some 3 := by decide +kernel
theorem hyX9_putBack : yX9_putBack.cls = RX9 ∧ yX9_putBack.cls ≠ "java/lang/invoke/MethodHandle" ∧ yX9_putBack.cls ≠ "java/lang/invoke/VarHandle" ∧ (parseMethodDescriptor yX9_putBack.desc).map (fun d => d.parameters.length) = some 1 := by decide +kernel
theorem hyX9_tapeNumber : yX9_tapeNumber.cls = RX9 ∧ yX9_tapeNumber.cls ≠ "java/lang/invoke/MethodHandle" ∧ yX9_tapeNumber.cls ≠ "java/lang/invoke/VarHandle" ∧ (parseMethodDescriptor yX9_tapeNumber.desc).map (fun d => d.parameters.length) = some 1 := by decide +kernel
theorem hyX0_areDriftsRight : yX0_areDriftsRight.cls = RX0 ∧ yX0_areDriftsRight.cls ≠ "java/lang/invoke/MethodHandle" ∧ yX0_areDriftsRight.cls ≠ "java/lang/invoke/VarHandle" ∧ (parseMethodDescriptor yX0_areDriftsRight.desc).map (fun d => d.parameters.length) = some 1 := by decide +kernel
theorem hyX0_arePicturesRight : yX0_arePicturesRight.cls = RX0 ∧ yX0_arePicturesRight.cls ≠ "java/lang/invoke/MethodHandle" ∧ yX0_arePicturesRight.cls ≠ "java/lang/invoke/VarHandle" ∧ (parseMethodDescriptor yX0_arePicturesRight.desc).map (fun d => d.parameters.length) = some 1 := by decide +kernel
theorem hyX0_arePointsRight : yX0_arePointsRight.cls = RX0 ∧ yX0_arePointsRight.cls ≠ "java/lang/invoke/MethodHandle" ∧ yX0_arePointsRight.cls ≠ "java/lang/invoke/VarHandle" ∧ (parseMethodDescriptor yX0_arePointsRight.desc).map (fun d => d.parameters.length) = some 1 := by decide +kernel
theorem hyX0_areRowsRight : yX0_areRowsRight.cls = RX0 ∧ yX0_areRowsRight.cls ≠ "java/lang/invoke/MethodHandle" ∧ yX0_areRowsRight.cls ≠ "java/lang/invoke/VarHandle" ∧ (parseMethodDescriptor yX0_areRowsRight.desc).map (fun d => d.parameters.length) = some 1 := by decide +kernel
theorem hyX0_check : yX0_check.cls ≠ "java/lang/invoke/MethodHandle" ∧ yX0_check.cls ≠ "java/lang/invoke/VarHandle" ∧ (parseMethodDescriptor yX0_check.desc).map (fun d => d.parameters.length) = some 2 := by decide +kernel
theorem hyX0_dueLength : yX0_dueLength.cls = RX0 ∧ yX0_dueLength.cls ≠ "java/lang/invoke/MethodHandle" ∧ yX0_dueLength.cls ≠ "java/lang/invoke/VarHandle" ∧ (parseMethodDescriptor yX0_dueLength.desc).map (fun d => d.parameters.length) = some 0 := by decide +kernel
theorem hyX0_isAt : yX0_isAt.cls ≠ "java/lang/invoke/MethodHandle" ∧ yX0_isAt.cls ≠ "java/lang/invoke/VarHandle" ∧ (parseMethodDescriptor yX0_isAt.desc).map (fun d => d.parameters.length) = some 4 := by decide +kernel
theorem hyX0_isNear : yX0_isNear.cls ≠ "java/lang/invoke/MethodHandle" ∧ yX0_isNear.cls ≠ "java/lang/invoke/VarHandle" ∧ (parseMethodDescriptor yX0_isNear.desc).map (fun d => d.parameters.length) = some 2 := by decide +kernel
theorem hyX0_read : yX0_read.cls = RX0 ∧ yX0_read.cls ≠ "java/lang/invoke/MethodHandle" ∧ yX0_read.cls ≠ "java/lang/invoke/VarHandle" ∧ (parseMethodDescriptor yX0_read.desc).map (fun d => d.parameters.length) = some 3 := by decide +kernel
theorem hyX0_take : yX0_take.cls = RX0 ∧ yX0_take.cls ≠ "java/lang/invoke/MethodHandle" ∧ yX0_take.cls ≠ "java/lang/invoke/VarHandle" ∧ (parseMethodDescriptor yX0_take.desc).map (fun d => d.parameters.length) = some 2 := by decide +kernel
theorem hyX0_takePair : yX0_takePair.cls = RX0 ∧ yX0_takePair.cls ≠ "java/lang/invoke/MethodHandle" ∧ yX0_takePair.cls ≠ "java/lang/invoke/VarHandle" ∧ (parseMethodDescriptor yX0_takePair.desc).map (fun d => d.parameters.length) = some 3 := by decide +kernel
theorem hyX0_write : yX0_write.cls = RX0 ∧ yX0_write.cls ≠ "java/lang/invoke/MethodHandle" ∧ yX0_write.cls ≠ "java/lang/invoke/VarHandle" ∧ (parseMethodDescriptor yX0_write.desc).map (fun d => d.parameters.length) = some 1 := by decide +kernel
theorem hyX0_writeByte : yX0_writeByte.cls = RX0 ∧ yX0_writeByte.cls ≠ "java/lang/invoke/MethodHandle" ∧ yX0_writeByte.cls ≠ "java/lang/invoke/VarHandle" ∧ (parseMethodDescriptor yX0_writeByte.desc).map (fun d => d.parameters.length) = some 1 := by decide +kernel
theorem hyX0_writePair : yX0_writePair.cls = RX0 ∧ yX0_writePair.cls ≠ "java/lang/invoke/MethodHandle" ∧ yX0_writePair.cls ≠ "java/lang/invoke/VarHandle" ∧ (parseMethodDescriptor yX0_writePair.desc).map (fun d => d.parameters.length) = some 2 := by decide +kernel
theorem hyX1_addPull : yX1_addPull.cls = RX1 ∧ yX1_addPull.cls ≠ "java/lang/invoke/MethodHandle" ∧ yX1_addPull.cls ≠ "java/lang/invoke/VarHandle" ∧ (parseMethodDescriptor yX1_addPull.desc).map (fun d => d.parameters.length) = some 3 := by decide +kernel
theorem hyX1_clearPulls : yX1_clearPulls.cls = RX1 ∧ yX1_clearPulls.cls ≠ "java/lang/invoke/MethodHandle" ∧ yX1_clearPulls.cls ≠ "java/lang/invoke/VarHandle" ∧ (parseMethodDescriptor yX1_clearPulls.desc).map (fun d => d.parameters.length) = some 0 := by decide +kernel
theorem hyX1_makeRound : yX1_makeRound.cls = RX1 ∧ yX1_makeRound.cls ≠ "java/lang/invoke/MethodHandle" ∧ yX1_makeRound.cls ≠ "java/lang/invoke/VarHandle" ∧ (parseMethodDescriptor yX1_makeRound.desc).map (fun d => d.parameters.length) = some 0 := by decide +kernel
theorem hyX1_moveDrifts : yX1_moveDrifts.cls = RX1 ∧ yX1_moveDrifts.cls ≠ "java/lang/invoke/MethodHandle" ∧ yX1_moveDrifts.cls ≠ "java/lang/invoke/VarHandle" ∧ (parseMethodDescriptor yX1_moveDrifts.desc).map (fun d => d.parameters.length) = some 1 := by decide +kernel
theorem hyX1_moveEach : yX1_moveEach.cls = RX1 ∧ yX1_moveEach.cls ≠ "java/lang/invoke/MethodHandle" ∧ yX1_moveEach.cls ≠ "java/lang/invoke/VarHandle" ∧ (parseMethodDescriptor yX1_moveEach.desc).map (fun d => d.parameters.length) = some 2 := by decide +kernel
theorem hyX1_movePictures : yX1_movePictures.cls = RX1 ∧ yX1_movePictures.cls ≠ "java/lang/invoke/MethodHandle" ∧ yX1_movePictures.cls ≠ "java/lang/invoke/VarHandle" ∧ (parseMethodDescriptor yX1_movePictures.desc).map (fun d => d.parameters.length) = some 1 := by decide +kernel
theorem hyX1_movePoints : yX1_movePoints.cls = RX1 ∧ yX1_movePoints.cls ≠ "java/lang/invoke/MethodHandle" ∧ yX1_movePoints.cls ≠ "java/lang/invoke/VarHandle" ∧ (parseMethodDescriptor yX1_movePoints.desc).map (fun d => d.parameters.length) = some 1 := by decide +kernel
theorem hyX1_settle : yX1_settle.cls = RX1 ∧ yX1_settle.cls ≠ "java/lang/invoke/MethodHandle" ∧ yX1_settle.cls ≠ "java/lang/invoke/VarHandle" ∧ (parseMethodDescriptor yX1_settle.desc).map (fun d => d.parameters.length) = some 1 := by decide +kernel
theorem hyX2_canShow : yX2_canShow.cls = RX2 ∧ yX2_canShow.cls ≠ "java/lang/invoke/MethodHandle" ∧ yX2_canShow.cls ≠ "java/lang/invoke/VarHandle" ∧ (parseMethodDescriptor yX2_canShow.desc).map (fun d => d.parameters.length) = some 1 := by decide +kernel
theorem hyX2_countLoose : yX2_countLoose.cls = RX2 ∧ yX2_countLoose.cls ≠ "java/lang/invoke/MethodHandle" ∧ yX2_countLoose.cls ≠ "java/lang/invoke/VarHandle" ∧ (parseMethodDescriptor yX2_countLoose.desc).map (fun d => d.parameters.length) = some 1 := by decide +kernel
theorem hyX2_countParts : yX2_countParts.cls = RX2 ∧ yX2_countParts.cls ≠ "java/lang/invoke/MethodHandle" ∧ yX2_countParts.cls ≠ "java/lang/invoke/VarHandle" ∧ (parseMethodDescriptor yX2_countParts.desc).map (fun d => d.parameters.length) = some 0 := by decide +kernel
theorem hyX2_firstCentre : yX2_firstCentre.cls = RX2 ∧ yX2_firstCentre.cls ≠ "java/lang/invoke/MethodHandle" ∧ yX2_firstCentre.cls ≠ "java/lang/invoke/VarHandle" ∧ (parseMethodDescriptor yX2_firstCentre.desc).map (fun d => d.parameters.length) = some 1 := by decide +kernel
theorem hyX2_isJoined : yX2_isJoined.cls = RX2 ∧ yX2_isJoined.cls ≠ "java/lang/invoke/MethodHandle" ∧ yX2_isJoined.cls ≠ "java/lang/invoke/VarHandle" ∧ (parseMethodDescriptor yX2_isJoined.desc).map (fun d => d.parameters.length) = some 2 := by decide +kernel
theorem hyX2_isLoose : yX2_isLoose.cls = RX2 ∧ yX2_isLoose.cls ≠ "java/lang/invoke/MethodHandle" ∧ yX2_isLoose.cls ≠ "java/lang/invoke/VarHandle" ∧ (parseMethodDescriptor yX2_isLoose.desc).map (fun d => d.parameters.length) = some 1 := by decide +kernel
theorem hyX2_isPictureLoose : yX2_isPictureLoose.cls = RX2 ∧ yX2_isPictureLoose.cls ≠ "java/lang/invoke/MethodHandle" ∧ yX2_isPictureLoose.cls ≠ "java/lang/invoke/VarHandle" ∧ (parseMethodDescriptor yX2_isPictureLoose.desc).map (fun d => d.parameters.length) = some 1 := by decide +kernel
theorem hyX2_isPointLoose : yX2_isPointLoose.cls = RX2 ∧ yX2_isPointLoose.cls ≠ "java/lang/invoke/MethodHandle" ∧ yX2_isPointLoose.cls ≠ "java/lang/invoke/VarHandle" ∧ (parseMethodDescriptor yX2_isPointLoose.desc).map (fun d => d.parameters.length) = some 1 := by decide +kernel
theorem hyX2_join : yX2_join.cls = RX2 ∧ yX2_join.cls ≠ "java/lang/invoke/MethodHandle" ∧ yX2_join.cls ≠ "java/lang/invoke/VarHandle" ∧ (parseMethodDescriptor yX2_join.desc).map (fun d => d.parameters.length) = some 2 := by decide +kernel
theorem hyX2_joinAll : yX2_joinAll.cls = RX2 ∧ yX2_joinAll.cls ≠ "java/lang/invoke/MethodHandle" ∧ yX2_joinAll.cls ≠ "java/lang/invoke/VarHandle" ∧ (parseMethodDescriptor yX2_joinAll.desc).map (fun d => d.parameters.length) = some 1 := by decide +kernel
theorem hyX3_fail : yX3_fail.cls = RX3 ∧ yX3_fail.cls ≠ "java/lang/invoke/MethodHandle" ∧ yX3_fail.cls ≠ "java/lang/invoke/VarHandle" ∧ (parseMethodDescriptor yX3_fail.desc).map (fun d => d.parameters.length) = some 2 := by decide +kernel
theorem hyX3_isNoRun : yX3_isNoRun.cls = RX3 ∧ yX3_isNoRun.cls ≠ "java/lang/invoke/MethodHandle" ∧ yX3_isNoRun.cls ≠ "java/lang/invoke/VarHandle" ∧ (parseMethodDescriptor yX3_isNoRun.desc).map (fun d => d.parameters.length) = some 0 := by decide +kernel
theorem hyX3_isOwnWord : yX3_isOwnWord.cls = RX3 ∧ yX3_isOwnWord.cls ≠ "java/lang/invoke/MethodHandle" ∧ yX3_isOwnWord.cls ≠ "java/lang/invoke/VarHandle" ∧ (parseMethodDescriptor yX3_isOwnWord.desc).map (fun d => d.parameters.length) = some 0 := by decide +kernel
theorem hyX3_isWord : yX3_isWord.cls = RX3 ∧ yX3_isWord.cls ≠ "java/lang/invoke/MethodHandle" ∧ yX3_isWord.cls ≠ "java/lang/invoke/VarHandle" ∧ (parseMethodDescriptor yX3_isWord.desc).map (fun d => d.parameters.length) = some 1 := by decide +kernel
theorem hyX3_kindOfWord : yX3_kindOfWord.cls = RX3 ∧ yX3_kindOfWord.cls ≠ "java/lang/invoke/MethodHandle" ∧ yX3_kindOfWord.cls ≠ "java/lang/invoke/VarHandle" ∧ (parseMethodDescriptor yX3_kindOfWord.desc).map (fun d => d.parameters.length) = some 0 := by decide +kernel
theorem hyX3_markRun : yX3_markRun.cls = RX3 ∧ yX3_markRun.cls ≠ "java/lang/invoke/MethodHandle" ∧ yX3_markRun.cls ≠ "java/lang/invoke/VarHandle" ∧ (parseMethodDescriptor yX3_markRun.desc).map (fun d => d.parameters.length) = some 2 := by decide +kernel
theorem hyX3_passRun : yX3_passRun.cls = RX3 ∧ yX3_passRun.cls ≠ "java/lang/invoke/MethodHandle" ∧ yX3_passRun.cls ≠ "java/lang/invoke/VarHandle" ∧ (parseMethodDescriptor yX3_passRun.desc).map (fun d => d.parameters.length) = some 0 := by decide +kernel
theorem hyX3_read : yX3_read.cls = RX3 ∧ yX3_read.cls ≠ "java/lang/invoke/MethodHandle" ∧ yX3_read.cls ≠ "java/lang/invoke/VarHandle" ∧ (parseMethodDescriptor yX3_read.desc).map (fun d => d.parameters.length) = some 1 := by decide +kernel
theorem hyX3_readAt : yX3_readAt.cls = RX3 ∧ yX3_readAt.cls ≠ "java/lang/invoke/MethodHandle" ∧ yX3_readAt.cls ≠ "java/lang/invoke/VarHandle" ∧ (parseMethodDescriptor yX3_readAt.desc).map (fun d => d.parameters.length) = some 0 := by decide +kernel
theorem hyX3_readCentre : yX3_readCentre.cls = RX3 ∧ yX3_readCentre.cls ≠ "java/lang/invoke/MethodHandle" ∧ yX3_readCentre.cls ≠ "java/lang/invoke/VarHandle" ∧ (parseMethodDescriptor yX3_readCentre.desc).map (fun d => d.parameters.length) = some 0 := by decide +kernel
theorem hyX3_readControl : yX3_readControl.cls = RX3 ∧ yX3_readControl.cls ≠ "java/lang/invoke/MethodHandle" ∧ yX3_readControl.cls ≠ "java/lang/invoke/VarHandle" ∧ (parseMethodDescriptor yX3_readControl.desc).map (fun d => d.parameters.length) = some 0 := by decide +kernel
theorem hyX3_readName : yX3_readName.cls = RX3 ∧ yX3_readName.cls ≠ "java/lang/invoke/MethodHandle" ∧ yX3_readName.cls ≠ "java/lang/invoke/VarHandle" ∧ (parseMethodDescriptor yX3_readName.desc).map (fun d => d.parameters.length) = some 1 := by decide +kernel
theorem hyX3_readNamed : yX3_readNamed.cls = RX3 ∧ yX3_readNamed.cls ≠ "java/lang/invoke/MethodHandle" ∧ yX3_readNamed.cls ≠ "java/lang/invoke/VarHandle" ∧ (parseMethodDescriptor yX3_readNamed.desc).map (fun d => d.parameters.length) = some 1 := by decide +kernel
theorem hyX3_readNumber : yX3_readNumber.cls = RX3 ∧ yX3_readNumber.cls ≠ "java/lang/invoke/MethodHandle" ∧ yX3_readNumber.cls ≠ "java/lang/invoke/VarHandle" ∧ (parseMethodDescriptor yX3_readNumber.desc).map (fun d => d.parameters.length) = some 2 := by decide +kernel
theorem hyX3_readPicture : yX3_readPicture.cls = RX3 ∧ yX3_readPicture.cls ≠ "java/lang/invoke/MethodHandle" ∧ yX3_readPicture.cls ≠ "java/lang/invoke/VarHandle" ∧ (parseMethodDescriptor yX3_readPicture.desc).map (fun d => d.parameters.length) = some 0 := by decide +kernel
theorem hyX3_readRow : yX3_readRow.cls = RX3 ∧ yX3_readRow.cls ≠ "java/lang/invoke/MethodHandle" ∧ yX3_readRow.cls ≠ "java/lang/invoke/VarHandle" ∧ (parseMethodDescriptor yX3_readRow.desc).map (fun d => d.parameters.length) = some 0 := by decide +kernel
theorem hyX3_readSemicolon : yX3_readSemicolon.cls = RX3 ∧ yX3_readSemicolon.cls ≠ "java/lang/invoke/MethodHandle" ∧ yX3_readSemicolon.cls ≠ "java/lang/invoke/VarHandle" ∧ (parseMethodDescriptor yX3_readSemicolon.desc).map (fun d => d.parameters.length) = some 0 := by decide +kernel
theorem hyX3_readStatement : yX3_readStatement.cls = RX3 ∧ yX3_readStatement.cls ≠ "java/lang/invoke/MethodHandle" ∧ yX3_readStatement.cls ≠ "java/lang/invoke/VarHandle" ∧ (parseMethodDescriptor yX3_readStatement.desc).map (fun d => d.parameters.length) = some 1 := by decide +kernel
theorem hyX3_readTurn : yX3_readTurn.cls = RX3 ∧ yX3_readTurn.cls ≠ "java/lang/invoke/MethodHandle" ∧ yX3_readTurn.cls ≠ "java/lang/invoke/VarHandle" ∧ (parseMethodDescriptor yX3_readTurn.desc).map (fun d => d.parameters.length) = some 0 := by decide +kernel
theorem hyX3_readWord : yX3_readWord.cls = RX3 ∧ yX3_readWord.cls ≠ "java/lang/invoke/MethodHandle" ∧ yX3_readWord.cls ≠ "java/lang/invoke/VarHandle" ∧ (parseMethodDescriptor yX3_readWord.desc).map (fun d => d.parameters.length) = some 1 := by decide +kernel
theorem hyX3_skipBlanks : yX3_skipBlanks.cls = RX3 ∧ yX3_skipBlanks.cls ≠ "java/lang/invoke/MethodHandle" ∧ yX3_skipBlanks.cls ≠ "java/lang/invoke/VarHandle" ∧ (parseMethodDescriptor yX3_skipBlanks.desc).map (fun d => d.parameters.length) = some 0 := by decide +kernel
theorem hyX4_addHold : yX4_addHold.cls = RX4 ∧ yX4_addHold.cls ≠ "java/lang/invoke/MethodHandle" ∧ yX4_addHold.cls ≠ "java/lang/invoke/VarHandle" ∧ (parseMethodDescriptor yX4_addHold.desc).map (fun d => d.parameters.length) = some 3 := by decide +kernel
theorem hyX4_addTerm : yX4_addTerm.cls = RX4 ∧ yX4_addTerm.cls ≠ "java/lang/invoke/MethodHandle" ∧ yX4_addTerm.cls ≠ "java/lang/invoke/VarHandle" ∧ (parseMethodDescriptor yX4_addTerm.desc).map (fun d => d.parameters.length) = some 4 := by decide +kernel
theorem hyX4_driftOf : yX4_driftOf.cls = RX4 ∧ yX4_driftOf.cls ≠ "java/lang/invoke/MethodHandle" ∧ yX4_driftOf.cls ≠ "java/lang/invoke/VarHandle" ∧ (parseMethodDescriptor yX4_driftOf.desc).map (fun d => d.parameters.length) = some 1 := by decide +kernel
theorem hyX4_eliminate : yX4_eliminate.cls = RX4 ∧ yX4_eliminate.cls ≠ "java/lang/invoke/MethodHandle" ∧ yX4_eliminate.cls ≠ "java/lang/invoke/VarHandle" ∧ (parseMethodDescriptor yX4_eliminate.desc).map (fun d => d.parameters.length) = some 1 := by decide +kernel
theorem hyX4_fill : yX4_fill.cls = RX4 ∧ yX4_fill.cls ≠ "java/lang/invoke/MethodHandle" ∧ yX4_fill.cls ≠ "java/lang/invoke/VarHandle" ∧ (parseMethodDescriptor yX4_fill.desc).map (fun d => d.parameters.length) = some 1 := by decide +kernel
theorem hyX4_inverse : yX4_inverse.cls ≠ "java/lang/invoke/MethodHandle" ∧ yX4_inverse.cls ≠ "java/lang/invoke/VarHandle" ∧ (parseMethodDescriptor yX4_inverse.desc).map (fun d => d.parameters.length) = some 1 := by decide +kernel
theorem hyX4_numberUnknowns : yX4_numberUnknowns.cls = RX4 ∧ yX4_numberUnknowns.cls ≠ "java/lang/invoke/MethodHandle" ∧ yX4_numberUnknowns.cls ≠ "java/lang/invoke/VarHandle" ∧ (parseMethodDescriptor yX4_numberUnknowns.desc).map (fun d => d.parameters.length) = some 0 := by decide +kernel
theorem hyX4_solveFor : yX4_solveFor.cls = RX4 ∧ yX4_solveFor.cls ≠ "java/lang/invoke/MethodHandle" ∧ yX4_solveFor.cls ≠ "java/lang/invoke/VarHandle" ∧ (parseMethodDescriptor yX4_solveFor.desc).map (fun d => d.parameters.length) = some 2 := by decide +kernel
theorem hyX4_subtractLine : yX4_subtractLine.cls = RX4 ∧ yX4_subtractLine.cls ≠ "java/lang/invoke/MethodHandle" ∧ yX4_subtractLine.cls ≠ "java/lang/invoke/VarHandle" ∧ (parseMethodDescriptor yX4_subtractLine.desc).map (fun d => d.parameters.length) = some 2 := by decide +kernel
theorem hyX4_swapLines : yX4_swapLines.cls = RX4 ∧ yX4_swapLines.cls ≠ "java/lang/invoke/MethodHandle" ∧ yX4_swapLines.cls ≠ "java/lang/invoke/VarHandle" ∧ (parseMethodDescriptor yX4_swapLines.desc).map (fun d => d.parameters.length) = some 2 := by decide +kernel
theorem hyX5_centreAt : yX5_centreAt.cls = RX5 ∧ yX5_centreAt.cls ≠ "java/lang/invoke/MethodHandle" ∧ yX5_centreAt.cls ≠ "java/lang/invoke/VarHandle" ∧ (parseMethodDescriptor yX5_centreAt.desc).map (fun d => d.parameters.length) = some 2 := by decide +kernel
theorem hyX5_countFixed : yX5_countFixed.cls = RX5 ∧ yX5_countFixed.cls ≠ "java/lang/invoke/MethodHandle" ∧ yX5_countFixed.cls ≠ "java/lang/invoke/VarHandle" ∧ (parseMethodDescriptor yX5_countFixed.desc).map (fun d => d.parameters.length) = some 0 := by decide +kernel
theorem hyX5_countRows : yX5_countRows.cls = RX5 ∧ yX5_countRows.cls ≠ "java/lang/invoke/MethodHandle" ∧ yX5_countRows.cls ≠ "java/lang/invoke/VarHandle" ∧ (parseMethodDescriptor yX5_countRows.desc).map (fun d => d.parameters.length) = some 2 := by decide +kernel
theorem hyX5_doubtOf : yX5_doubtOf.cls = RX5 ∧ yX5_doubtOf.cls ≠ "java/lang/invoke/MethodHandle" ∧ yX5_doubtOf.cls ≠ "java/lang/invoke/VarHandle" ∧ (parseMethodDescriptor yX5_doubtOf.desc).map (fun d => d.parameters.length) = some 1 := by decide +kernel
theorem hyX5_fixedAt : yX5_fixedAt.cls = RX5 ∧ yX5_fixedAt.cls ≠ "java/lang/invoke/MethodHandle" ∧ yX5_fixedAt.cls ≠ "java/lang/invoke/VarHandle" ∧ (parseMethodDescriptor yX5_fixedAt.desc).map (fun d => d.parameters.length) = some 2 := by decide +kernel
theorem hyX5_isFixed : yX5_isFixed.cls = RX5 ∧ yX5_isFixed.cls ≠ "java/lang/invoke/MethodHandle" ∧ yX5_isFixed.cls ≠ "java/lang/invoke/VarHandle" ∧ (parseMethodDescriptor yX5_isFixed.desc).map (fun d => d.parameters.length) = some 1 := by decide +kernel
theorem hyX5_miss : yX5_miss.cls = RX5 ∧ yX5_miss.cls ≠ "java/lang/invoke/MethodHandle" ∧ yX5_miss.cls ≠ "java/lang/invoke/VarHandle" ∧ (parseMethodDescriptor yX5_miss.desc).map (fun d => d.parameters.length) = some 2 := by decide +kernel
theorem hyX5_placeFixed : yX5_placeFixed.cls = RX5 ∧ yX5_placeFixed.cls ≠ "java/lang/invoke/MethodHandle" ∧ yX5_placeFixed.cls ≠ "java/lang/invoke/VarHandle" ∧ (parseMethodDescriptor yX5_placeFixed.desc).map (fun d => d.parameters.length) = some 0 := by decide +kernel
theorem hyX5_putAt : yX5_putAt.cls = RX5 ∧ yX5_putAt.cls ≠ "java/lang/invoke/MethodHandle" ∧ yX5_putAt.cls ≠ "java/lang/invoke/VarHandle" ∧ (parseMethodDescriptor yX5_putAt.desc).map (fun d => d.parameters.length) = some 2 := by decide +kernel
theorem hyX5_squares : yX5_squares.cls = RX5 ∧ yX5_squares.cls ≠ "java/lang/invoke/MethodHandle" ∧ yX5_squares.cls ≠ "java/lang/invoke/VarHandle" ∧ (parseMethodDescriptor yX5_squares.desc).map (fun d => d.parameters.length) = some 0 := by decide +kernel
theorem hyX5_takeFrom : yX5_takeFrom.cls = RX5 ∧ yX5_takeFrom.cls ≠ "java/lang/invoke/MethodHandle" ∧ yX5_takeFrom.cls ≠ "java/lang/invoke/VarHandle" ∧ (parseMethodDescriptor yX5_takeFrom.desc).map (fun d => d.parameters.length) = some 1 := by decide +kernel
theorem hyX5_turned : yX5_turned.cls = RX5 ∧ yX5_turned.cls ≠ "java/lang/invoke/MethodHandle" ∧ yX5_turned.cls ≠ "java/lang/invoke/VarHandle" ∧ (parseMethodDescriptor yX5_turned.desc).map (fun d => d.parameters.length) = some 2 := by decide +kernel
theorem hyX5_uses : yX5_uses.cls = RX5 ∧ yX5_uses.cls ≠ "java/lang/invoke/MethodHandle" ∧ yX5_uses.cls ≠ "java/lang/invoke/VarHandle" ∧ (parseMethodDescriptor yX5_uses.desc).map (fun d => d.parameters.length) = some 1 := by decide +kernel
theorem hyX6_begin : yX6_begin.cls = RX6 ∧ yX6_begin.cls ≠ "java/lang/invoke/MethodHandle" ∧ yX6_begin.cls ≠ "java/lang/invoke/VarHandle" ∧ (parseMethodDescriptor yX6_begin.desc).map (fun d => d.parameters.length) = some 0 := by decide +kernel
theorem hyX6_findLinked : yX6_findLinked.cls = RX6 ∧ yX6_findLinked.cls ≠ "java/lang/invoke/MethodHandle" ∧ yX6_findLinked.cls ≠ "java/lang/invoke/VarHandle" ∧ (parseMethodDescriptor yX6_findLinked.desc).map (fun d => d.parameters.length) = some 0 := by decide +kernel
theorem hyX6_findUnstarted : yX6_findUnstarted.cls = RX6 ∧ yX6_findUnstarted.cls ≠ "java/lang/invoke/MethodHandle" ∧ yX6_findUnstarted.cls ≠ "java/lang/invoke/VarHandle" ∧ (parseMethodDescriptor yX6_findUnstarted.desc).map (fun d => d.parameters.length) = some 0 := by decide +kernel
theorem hyX6_firstLink : yX6_firstLink.cls = RX6 ∧ yX6_firstLink.cls ≠ "java/lang/invoke/MethodHandle" ∧ yX6_firstLink.cls ≠ "java/lang/invoke/VarHandle" ∧ (parseMethodDescriptor yX6_firstLink.desc).map (fun d => d.parameters.length) = some 0 := by decide +kernel
theorem hyX6_gatherOwn : yX6_gatherOwn.cls = RX6 ∧ yX6_gatherOwn.cls ≠ "java/lang/invoke/MethodHandle" ∧ yX6_gatherOwn.cls ≠ "java/lang/invoke/VarHandle" ∧ (parseMethodDescriptor yX6_gatherOwn.desc).map (fun d => d.parameters.length) = some 1 := by decide +kernel
theorem hyX6_gatherStarted : yX6_gatherStarted.cls = RX6 ∧ yX6_gatherStarted.cls ≠ "java/lang/invoke/MethodHandle" ∧ yX6_gatherStarted.cls ≠ "java/lang/invoke/VarHandle" ∧ (parseMethodDescriptor yX6_gatherStarted.desc).map (fun d => d.parameters.length) = some 0 := by decide +kernel
theorem hyX6_leastUnlikeTurn : yX6_leastUnlikeTurn.cls = RX6 ∧ yX6_leastUnlikeTurn.cls ≠ "java/lang/invoke/MethodHandle" ∧ yX6_leastUnlikeTurn.cls ≠ "java/lang/invoke/VarHandle" ∧ (parseMethodDescriptor yX6_leastUnlikeTurn.desc).map (fun d => d.parameters.length) = some 1 := by decide +kernel
theorem hyX6_putPoints : yX6_putPoints.cls = RX6 ∧ yX6_putPoints.cls ≠ "java/lang/invoke/MethodHandle" ∧ yX6_putPoints.cls ≠ "java/lang/invoke/VarHandle" ∧ (parseMethodDescriptor yX6_putPoints.desc).map (fun d => d.parameters.length) = some 0 := by decide +kernel
theorem hyX6_reset : yX6_reset.cls = RX6 ∧ yX6_reset.cls ≠ "java/lang/invoke/MethodHandle" ∧ yX6_reset.cls ≠ "java/lang/invoke/VarHandle" ∧ (parseMethodDescriptor yX6_reset.desc).map (fun d => d.parameters.length) = some 0 := by decide +kernel
theorem hyX6_startLinked : yX6_startLinked.cls = RX6 ∧ yX6_startLinked.cls ≠ "java/lang/invoke/MethodHandle" ∧ yX6_startLinked.cls ≠ "java/lang/invoke/VarHandle" ∧ (parseMethodDescriptor yX6_startLinked.desc).map (fun d => d.parameters.length) = some 1 := by decide +kernel
theorem hyX6_unlikeness : yX6_unlikeness.cls = RX6 ∧ yX6_unlikeness.cls ≠ "java/lang/invoke/MethodHandle" ∧ yX6_unlikeness.cls ≠ "java/lang/invoke/VarHandle" ∧ (parseMethodDescriptor yX6_unlikeness.desc).map (fun d => d.parameters.length) = some 2 := by decide +kernel
theorem hyX7_addBranch : yX7_addBranch.cls = RX7 ∧ yX7_addBranch.cls ≠ "java/lang/invoke/MethodHandle" ∧ yX7_addBranch.cls ≠ "java/lang/invoke/VarHandle" ∧ (parseMethodDescriptor yX7_addBranch.desc).map (fun d => d.parameters.length) = some 0 := by decide +kernel
theorem hyX7_countPlanned : yX7_countPlanned.cls = RX7 ∧ yX7_countPlanned.cls ≠ "java/lang/invoke/MethodHandle" ∧ yX7_countPlanned.cls ≠ "java/lang/invoke/VarHandle" ∧ (parseMethodDescriptor yX7_countPlanned.desc).map (fun d => d.parameters.length) = some 1 := by decide +kernel
theorem hyX7_findGap : yX7_findGap.cls = RX7 ∧ yX7_findGap.cls ≠ "java/lang/invoke/MethodHandle" ∧ yX7_findGap.cls ≠ "java/lang/invoke/VarHandle" ∧ (parseMethodDescriptor yX7_findGap.desc).map (fun d => d.parameters.length) = some 0 := by decide +kernel
theorem hyX7_growTree : yX7_growTree.cls = RX7 ∧ yX7_growTree.cls ≠ "java/lang/invoke/MethodHandle" ∧ yX7_growTree.cls ≠ "java/lang/invoke/VarHandle" ∧ (parseMethodDescriptor yX7_growTree.desc).map (fun d => d.parameters.length) = some 0 := by decide +kernel
theorem hyX7_isLoop : yX7_isLoop.cls = RX7 ∧ yX7_isLoop.cls ≠ "java/lang/invoke/MethodHandle" ∧ yX7_isLoop.cls ≠ "java/lang/invoke/VarHandle" ∧ (parseMethodDescriptor yX7_isLoop.desc).map (fun d => d.parameters.length) = some 3 := by decide +kernel
theorem hyX7_loopOf : yX7_loopOf.cls = RX7 ∧ yX7_loopOf.cls ≠ "java/lang/invoke/MethodHandle" ∧ yX7_loopOf.cls ≠ "java/lang/invoke/VarHandle" ∧ (parseMethodDescriptor yX7_loopOf.desc).map (fun d => d.parameters.length) = some 4 := by decide +kernel
theorem hyX7_markPlanned : yX7_markPlanned.cls = RX7 ∧ yX7_markPlanned.cls ≠ "java/lang/invoke/MethodHandle" ∧ yX7_markPlanned.cls ≠ "java/lang/invoke/VarHandle" ∧ (parseMethodDescriptor yX7_markPlanned.desc).map (fun d => d.parameters.length) = some 3 := by decide +kernel
theorem hyX7_stepOf : yX7_stepOf.cls = RX7 ∧ yX7_stepOf.cls ≠ "java/lang/invoke/MethodHandle" ∧ yX7_stepOf.cls ≠ "java/lang/invoke/VarHandle" ∧ (parseMethodDescriptor yX7_stepOf.desc).map (fun d => d.parameters.length) = some 3 := by decide +kernel
theorem hyX7_survey : yX7_survey.cls = RX7 ∧ yX7_survey.cls ≠ "java/lang/invoke/MethodHandle" ∧ yX7_survey.cls ≠ "java/lang/invoke/VarHandle" ∧ (parseMethodDescriptor yX7_survey.desc).map (fun d => d.parameters.length) = some 0 := by decide +kernel
theorem hyX7_surveyTie : yX7_surveyTie.cls = RX7 ∧ yX7_surveyTie.cls ≠ "java/lang/invoke/MethodHandle" ∧ yX7_surveyTie.cls ≠ "java/lang/invoke/VarHandle" ∧ (parseMethodDescriptor yX7_surveyTie.desc).map (fun d => d.parameters.length) = some 2 := by decide +kernel
theorem hyX7_takeGap : yX7_takeGap.cls = RX7 ∧ yX7_takeGap.cls ≠ "java/lang/invoke/MethodHandle" ∧ yX7_takeGap.cls ≠ "java/lang/invoke/VarHandle" ∧ (parseMethodDescriptor yX7_takeGap.desc).map (fun d => d.parameters.length) = some 3 := by decide +kernel
theorem hyX8_addCentre : yX8_addCentre.cls = RX8 ∧ yX8_addCentre.cls ≠ "java/lang/invoke/MethodHandle" ∧ yX8_addCentre.cls ≠ "java/lang/invoke/VarHandle" ∧ (parseMethodDescriptor yX8_addCentre.desc).map (fun d => d.parameters.length) = some 4 := by decide +kernel
theorem hyX8_addControl : yX8_addControl.cls = RX8 ∧ yX8_addControl.cls ≠ "java/lang/invoke/MethodHandle" ∧ yX8_addControl.cls ≠ "java/lang/invoke/VarHandle" ∧ (parseMethodDescriptor yX8_addControl.desc).map (fun d => d.parameters.length) = some 4 := by decide +kernel
theorem hyX8_addNamed : yX8_addNamed.cls = RX8 ∧ yX8_addNamed.cls ≠ "java/lang/invoke/MethodHandle" ∧ yX8_addNamed.cls ≠ "java/lang/invoke/VarHandle" ∧ (parseMethodDescriptor yX8_addNamed.desc).map (fun d => d.parameters.length) = some 2 := by decide +kernel
theorem hyX8_addPicture : yX8_addPicture.cls = RX8 ∧ yX8_addPicture.cls ≠ "java/lang/invoke/MethodHandle" ∧ yX8_addPicture.cls ≠ "java/lang/invoke/VarHandle" ∧ (parseMethodDescriptor yX8_addPicture.desc).map (fun d => d.parameters.length) = some 3 := by decide +kernel
theorem hyX8_addRow : yX8_addRow.cls = RX8 ∧ yX8_addRow.cls ≠ "java/lang/invoke/MethodHandle" ∧ yX8_addRow.cls ≠ "java/lang/invoke/VarHandle" ∧ (parseMethodDescriptor yX8_addRow.desc).map (fun d => d.parameters.length) = some 5 := by decide +kernel
theorem hyX8_clear : yX8_clear.cls = RX8 ∧ yX8_clear.cls ≠ "java/lang/invoke/MethodHandle" ∧ yX8_clear.cls ≠ "java/lang/invoke/VarHandle" ∧ (parseMethodDescriptor yX8_clear.desc).map (fun d => d.parameters.length) = some 0 := by decide +kernel
theorem hyX8_drifts : yX8_drifts.cls = RX8 ∧ yX8_drifts.cls ≠ "java/lang/invoke/MethodHandle" ∧ yX8_drifts.cls ≠ "java/lang/invoke/VarHandle" ∧ (parseMethodDescriptor yX8_drifts.desc).map (fun d => d.parameters.length) = some 1 := by decide +kernel
theorem hyX8_exists : yX8_exists.cls = RX8 ∧ yX8_exists.cls ≠ "java/lang/invoke/MethodHandle" ∧ yX8_exists.cls ≠ "java/lang/invoke/VarHandle" ∧ (parseMethodDescriptor yX8_exists.desc).map (fun d => d.parameters.length) = some 2 := by decide +kernel
theorem hyX8_find : yX8_find.cls = RX8 ∧ yX8_find.cls ≠ "java/lang/invoke/MethodHandle" ∧ yX8_find.cls ≠ "java/lang/invoke/VarHandle" ∧ (parseMethodDescriptor yX8_find.desc).map (fun d => d.parameters.length) = some 2 := by decide +kernel
theorem hyX8_findRow : yX8_findRow.cls = RX8 ∧ yX8_findRow.cls ≠ "java/lang/invoke/MethodHandle" ∧ yX8_findRow.cls ≠ "java/lang/invoke/VarHandle" ∧ (parseMethodDescriptor yX8_findRow.desc).map (fun d => d.parameters.length) = some 2 := by decide +kernel
theorem hyX8_isFull : yX8_isFull.cls = RX8 ∧ yX8_isFull.cls ≠ "java/lang/invoke/MethodHandle" ∧ yX8_isFull.cls ≠ "java/lang/invoke/VarHandle" ∧ (parseMethodDescriptor yX8_isFull.desc).map (fun d => d.parameters.length) = some 1 := by decide +kernel
theorem hyX8_isNamed : yX8_isNamed.cls = RX8 ∧ yX8_isNamed.cls ≠ "java/lang/invoke/MethodHandle" ∧ yX8_isNamed.cls ≠ "java/lang/invoke/VarHandle" ∧ (parseMethodDescriptor yX8_isNamed.desc).map (fun d => d.parameters.length) = some 1 := by decide +kernel
theorem hyX8_setMeasured : yX8_setMeasured.cls = RX8 ∧ yX8_setMeasured.cls ≠ "java/lang/invoke/MethodHandle" ∧ yX8_setMeasured.cls ≠ "java/lang/invoke/VarHandle" ∧ (parseMethodDescriptor yX8_setMeasured.desc).map (fun d => d.parameters.length) = some 3 := by decide +kernel
theorem hyX8_takeFrom : yX8_takeFrom.cls = RX8 ∧ yX8_takeFrom.cls ≠ "java/lang/invoke/MethodHandle" ∧ yX8_takeFrom.cls ≠ "java/lang/invoke/VarHandle" ∧ (parseMethodDescriptor yX8_takeFrom.desc).map (fun d => d.parameters.length) = some 1 := by decide +kernel
theorem hyX8_turnedBy : yX8_turnedBy.cls = RX8 ∧ yX8_turnedBy.cls ≠ "java/lang/invoke/MethodHandle" ∧ yX8_turnedBy.cls ≠ "java/lang/invoke/VarHandle" ∧ (parseMethodDescriptor yX8_turnedBy.desc).map (fun d => d.parameters.length) = some 3 := by decide +kernel
theorem hyJ9_floorDiv_f86c9 : yJ9_floorDiv_f86c9.cls ≠ "java/lang/invoke/MethodHandle" ∧ yJ9_floorDiv_f86c9.cls ≠ "java/lang/invoke/VarHandle" ∧ (parseMethodDescriptor yJ9_floorDiv_f86c9.desc).map (fun d => d.parameters.length) = some 2 := by decide +kernel
theorem hyJ9_floorMod_f86c9 : yJ9_floorMod_f86c9.cls ≠ "java/lang/invoke/MethodHandle" ∧ yJ9_floorMod_f86c9.cls ≠ "java/lang/invoke/VarHandle" ∧ (parseMethodDescriptor yJ9_floorMod_f86c9.desc).map (fun d => d.parameters.length) = some 2 := by decide +kernel
theorem hyJ0_charAt_5068e : yJ0_charAt_5068e.cls = RJ0 ∧ yJ0_charAt_5068e.cls ≠ "java/lang/invoke/MethodHandle" ∧ yJ0_charAt_5068e.cls ≠ "java/lang/invoke/VarHandle" ∧ (parseMethodDescriptor yJ0_charAt_5068e.desc).map (fun d => d.parameters.length) = some 1 := by decide +kernel
theorem hyJ0_checkIndex_df160 : yJ0_checkIndex_df160.cls ≠ "java/lang/invoke/MethodHandle" ∧ yJ0_checkIndex_df160.cls ≠ "java/lang/invoke/VarHandle" ∧ (parseMethodDescriptor yJ0_checkIndex_df160.desc).map (fun d => d.parameters.length) = some 2 := by decide +kernel
theorem hyJ0_coder_7d493 : yJ0_coder_7d493.cls = RJ0 ∧ yJ0_coder_7d493.cls ≠ "java/lang/invoke/MethodHandle" ∧ yJ0_coder_7d493.cls ≠ "java/lang/invoke/VarHandle" ∧ (parseMethodDescriptor yJ0_coder_7d493.desc).map (fun d => d.parameters.length) = some 0 := by decide +kernel
theorem hyJ0_isLatin1_aae02 : yJ0_isLatin1_aae02.cls = RJ0 ∧ yJ0_isLatin1_aae02.cls ≠ "java/lang/invoke/MethodHandle" ∧ yJ0_isLatin1_aae02.cls ≠ "java/lang/invoke/VarHandle" ∧ (parseMethodDescriptor yJ0_isLatin1_aae02.desc).map (fun d => d.parameters.length) = some 0 := by decide +kernel
theorem hyJ0_length_8abf5 : yJ0_length_8abf5.cls = RJ0 ∧ yJ0_length_8abf5.cls ≠ "java/lang/invoke/MethodHandle" ∧ yJ0_length_8abf5.cls ≠ "java/lang/invoke/VarHandle" ∧ (parseMethodDescriptor yJ0_length_8abf5.desc).map (fun d => d.parameters.length) = some 0 := by decide +kernel
theorem hyJ1_charAt_3b067 : yJ1_charAt_3b067.cls ≠ "java/lang/invoke/MethodHandle" ∧ yJ1_charAt_3b067.cls ≠ "java/lang/invoke/VarHandle" ∧ (parseMethodDescriptor yJ1_charAt_3b067.desc).map (fun d => d.parameters.length) = some 2 := by decide +kernel
theorem hyJ7_fill_53178 : yJ7_fill_53178.cls ≠ "java/lang/invoke/MethodHandle" ∧ yJ7_fill_53178.cls ≠ "java/lang/invoke/VarHandle" ∧ (parseMethodDescriptor yJ7_fill_53178.desc).map (fun d => d.parameters.length) = some 2 := by decide +kernel
theorem hyJ7_fill_d0a16 : yJ7_fill_d0a16.cls ≠ "java/lang/invoke/MethodHandle" ∧ yJ7_fill_d0a16.cls ≠ "java/lang/invoke/VarHandle" ∧ (parseMethodDescriptor yJ7_fill_d0a16.desc).map (fun d => d.parameters.length) = some 2 := by decide +kernel
theorem hyJ3_checkIndex_8e157 : yJ3_checkIndex_8e157.cls ≠ "java/lang/invoke/MethodHandle" ∧ yJ3_checkIndex_8e157.cls ≠ "java/lang/invoke/VarHandle" ∧ (parseMethodDescriptor yJ3_checkIndex_8e157.desc).map (fun d => d.parameters.length) = some 3 := by decide +kernel
