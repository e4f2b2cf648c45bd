theorem hr_mono {s : State} {pl : Platform} {r r' : Room} (h1 : r'.frames ≤ r.frames) (h2 : r'.locals ≤ r.locals) (h3 : r'.cells ≤ r.cells) (h4 : r'.slots ≤ r.slots) (h : s.hasRoom pl r = true) : s.hasRoom pl r' = true := by
  unfold State.hasRoom at h ⊢
  simp only [Bool.and_eq_true, decide_eq_true_eq] at h ⊢
  obtain ⟨⟨⟨⟨a1, a2, a3, a4, a5, a6⟩, a7⟩, a8⟩, a9⟩ := h
  exact ⟨⟨⟨⟨by omega, by omega, by omega, by omega, by omega, a6⟩, by omega⟩, by omega⟩, a9⟩
theorem sb_new {s s' : State} {L : List Loc} (h : s.sameBut s' L) : s.sameButNew s' L 0 0 := by
  obtain ⟨e, hsz, hc⟩ := h
  have eu : s'.slotsUsed = s.slotsUsed := by rw [e]; rfl
  have ed : s'.heap.toList.drop s.heap.size = [] := by
    rw [List.drop_eq_nil_iff, Array.length_toList, hsz]
    exact Nat.le_refl _
  refine ⟨?_, by rw [hsz]; exact Nat.le_refl _, by rw [hsz]; exact Nat.le_refl _, by rw [ed, eu]; rfl, by rw [ed]; exact Nat.le_refl _, hc⟩
  rw [eu]
  exact e
theorem mt_of {l : Launch} {y : MethodName} {S : Spec} {P : Array Value → State → Prop} {Q : Array Value → State → Outcome → State → Prop} {ws : List Cond} {rm : Room} {Pc : Array Value → State → Prop} {Qc : Array Value → State → Outcome → State → Prop} {free : Addr → Prop} (h : MetFree l y S P (fun _ _ _ _ _ => True) Q) (h1 : S.room.frames ≤ rm.frames) (h2 : S.room.locals ≤ rm.locals) (h3 : S.room.cells ≤ rm.cells) (h4 : S.room.slots ≤ rm.slots) (hpre : ∀ a U, (∀ w ∈ ws, w.before a U = true) → Pc a U → S.pre.before a U = true ∧ P a U) (hQ : ∀ a st o t, Q a st o t → Qc a st o t ∧ PureEnd st o t) : Met l y ws rm Pc Qc 0 0 free := by
  intro p e ha hc hk s m args below hf happ hP hK
  unfold Spec.appliesLoose at happ
  rw [hf] at happ
  simp only [Bool.and_eq_true] at happ
  obtain ⟨⟨happ, hroom⟩, hw⟩ := happ
  have hw' := atoms_spec (ws := ws) hw
  obtain ⟨q1, q2⟩ := hpre args s hw' hP
  have happ2 : S.appliesLoose y e.platform s = true := by
    unfold Spec.appliesLoose
    rw [hf]
    simp only [Bool.and_eq_true]
    exact ⟨⟨happ, hr_mono h1 h2 h3 h4 hroom⟩, q1⟩
  obtain ⟨n, o, k1, k2, k3, k4⟩ := h p e ha hc hk s m args below hf happ2 q2 trivial
  obtain ⟨g1, g2⟩ := hQ _ _ _ _ k4
  exact ⟨n, o, k1, k2, k3, g1, [], ⟨g2.1, g2.2.1, sb_new g2.2.2⟩, fun q hq => absurd hq List.not_mem_nil⟩
/-- a state's tables over a heap -/
def tV (U : State) (H : Heap) : State := { U with heap := H }
theorem tV_self (U : State) : tV U U.heap = U := rfl
/-- a static field, its cell below N -/
def stB (N : Nat) (V : State) (cls name desc : String) (v : Value) : Prop := ∃ (cf i : Nat) (k : Class) (f : Field) (a₁ : Addr) (cell₁ : Cell), V.fieldFound? cls name desc = some (cf, k, i, f) ∧ f.isStatic = true ∧ k.init = .initialized ∧ k.statics = some a₁ ∧ V.heap[a₁]? = some cell₁ ∧ cell₁.vm ≠ .unknown ∧ cell₁.slots[f.slot]? = some v ∧ a₁ < N
theorem stB_is {N : Nat} {V : State} {cls name desc : String} {v : Value} (h : stB N V cls name desc v) : Jvm.Lib.Cold.StaticIs V cls name desc v := by
  obtain ⟨cf, i, k, f, a₁, cell₁, h1, h2, h3, h4, h5, h6, h7, -⟩ := h
  exact ⟨cf, i, k, f, a₁, cell₁, h1, h2, h3, h4, h5, h6, h7⟩
theorem stB_mv {N : Nat} {V V' : State} {cls name desc : String} {v : Value} (h : stB N V cls name desc v) (hv : V.vm.Alike V'.vm) (hh : ∀ q, q < N → V'.heap[q]? = V.heap[q]?) : stB N V' cls name desc v := by
  obtain ⟨cf, i, k, f, a₁, cell₁, h1, h2, h3, h4, h5, h6, h7, h8⟩ := h
  obtain ⟨k', hk', he⟩ := State.fieldFound?_setVm hv h1
  exact ⟨cf, i, k', f, a₁, cell₁, hk', h2, by rw [he]; exact h3, by rw [he]; exact h4, by rw [hh _ h8]; exact h5, h6, h7, h8⟩
theorem fo_mv {V V' : State} {a : Addr} (hv : V.vm.Alike V'.vm) (hh : V'.heap[a]? = V.heap[a]?) (cls name desc : String) : V'.fieldOf? a cls name desc = V.fieldOf? a cls name desc := by
  have e1 : (V.setVm V'.vm).fieldOf? a cls name desc = V.fieldOf? a cls name desc := State.fieldOf?_setVm hv a cls name desc
  rw [← e1]
  unfold State.fieldOf?
  rw [hh]
  rfl
/-- a text at a over the bytes at d -/
def TXs (N : Nat) (V : State) (a d : Nat) (t : List Int) : Prop := a < N ∧ d < N ∧ (∃ (c : ClassId) (cell : Cell) (k : Class), V.vm.findClass "java/lang/String" = some c ∧ V.heap[a]? = some cell ∧ V.vm.classes[c]? = some k ∧ cell.vm.isStatics = false ∧ cell.cls = c ∧ (k.kind = .ordinary → cell.slots.size = k.instanceTypes.size)) ∧ V.fieldOf? a "java/lang/String" "value" "[B" = some (.ref d) ∧ V.fieldOf? a "java/lang/String" "coder" "B" = some (.int 0) ∧ ∃ arr : Cell, V.heap[d]? = some arr ∧ V.isArrayOf arr .byte ∧ arr.vm ≠ .unknown ∧ arr.slots.size = t.length ∧ ∀ i, i < t.length → arr.slots[i]? = some (.int (Int32.ofInt (t.getD i 0)))
theorem TX_mv {N : Nat} {V V' : State} {a d : Nat} {t : List Int} (h : TXs N V a d t) (hv : V.vm.Alike V'.vm) (hh : ∀ q, q < N → V'.heap[q]? = V.heap[q]?) : TXs N V' a d t := by
  obtain ⟨h1, h2, ⟨c, cell, k, e1, e2, e3, e4, e5, e6⟩, h3, h4, arr, g1, g2, g3, g4, g5⟩ := h
  obtain ⟨k', hk', he⟩ := hv.2.2 _ _ e3
  refine ⟨h1, h2, ⟨c, cell, k', ?_, by rw [hh _ h1]; exact e2, hk', e4, e5, by rw [he]; exact e6⟩, by rw [fo_mv hv (hh _ h1)]; exact h3, by rw [fo_mv hv (hh _ h1)]; exact h4, arr, by rw [hh _ h2]; exact g1, State.isArrayOf_alike hv g2, g3, g4, g5⟩
  rw [hv.findClass]
  exact e1
/-- a constant of the lexer that is a text -/
def sR (V : State) (idx : Nat) (a : Nat) : Prop := ∃ (c : ClassId) (k : Class) (cf : ClassFile) (i : Nat), V.vm.findClass "MoonTender$Lexer" = some c ∧ V.vm.classes[c]? = some k ∧ k.cf = some cf ∧ cf.constantPool[idx]? = some (.string i) ∧ k.resolved[idx]? = some (some (.string a))
theorem sR_mv {V V' : State} {idx a : Nat} (h : sR V idx a) (hv : V.WarmedH V'.vm) : sR V' idx a := by
  obtain ⟨c, k, cf, i, h1, h2, h3, h4, h5⟩ := h
  obtain ⟨k', hk', he⟩ := hv.alike.2.2 _ _ h2
  refine ⟨c, k', cf, i, by rw [hv.alike.findClass]; exact h1, hk', by rw [he]; exact h3, h4, ?_⟩
  rcases hv.entry h2 hk' idx with z | ⟨z, -⟩
  · rw [z]; exact h5
  · rw [h5] at z; cases z
/-- a text laid on the stack -/
theorem ldcT {p : Program} {l : Launch} {e : Env} {R : Room} {s : State} {m : MethodId} {args : Array Value} {below : List Frame} {meth : Method} {c : Code} {T : State} {locs : List Loc} {cells slots : Nat} (X : Stand p l e R s m args below meth c T locs cells slots) (hexec : p.tables.exec = Jvm.exec) {idx a : Nat} (hown : s.vm.findClass "MoonTender$Lexer" = some m.cls) (h : sR s idx a) {g : JFrame} (hg : g.method = m) (hdg : decode c.code g.pc = .ok (.ldc idx, 2)) :
    ∀ target, Steps p.tables e below (T.setTop { g with pc := g.pc + 2, stack := .ref a :: g.stack }) target → Steps p.tables e below (T.setTop g) target := by
  obtain ⟨c0, k, cf, i, h1, hk, hcf, hcp, hr⟩ := h
  cases h1.symm.trans hown
  obtain ⟨k', hk', he⟩ := X.warmed.alike.2.2 _ _ hk
  have hr' : k'.resolved[idx]? = some (some (.string a)) := by
    rcases X.warmed.entry hk hk' idx with z | ⟨z, -⟩
    · rw [z]; exact hr
    · rw [hr] at z; cases z
  intro target hrest
  subst hg
  jvm_step X.here [hexec, hdg, ldc.wp_string (e := e) (s := T) (f := g) X.here.top hk' (by rw [he]; exact hcf) hcp hr']
  exact hrest
theorem dcl_of {y : MethodName} {bytes : ByteArray} {maxL : Nat} {ret : Option FieldType} {args : Array Value} {U : State} (h1 : (Cond.instanceMethod y).before args U = true) (h2 : (Cond.code y bytes maxL ret).before args U = true) (args' : Array Value) : (Cond.declares y).before args' U = true := by
  obtain ⟨mk, methM, hnamed, hmethM, hst, habM⟩ := Cond.instanceMethod_spec h1
  obtain ⟨methM', cM, hmethM', -, -, -, -, -, -, hsigM⟩ := Cond.code_spec hnamed h2
  cases hmethM.symm.trans hmethM'
  simp only [Cond.before, Cond.holds, Cond.value, hnamed, Option.bind_some, hmethM, Option.map_some]
  simp [hst, hsigM]
theorem exa_of {N : Nat} {U : State} {a d : Nat} {t : List Int} (h : TXs N U a d t) (r : List Value) : (Cond.exactly (.arg 0) "java/lang/String").before (Value.ref a :: r).toArray U = true := by
  obtain ⟨h1, h2, ⟨c, cell, k, e1, e2, e3, e4, e5, e6⟩, -⟩ := h
  simp only [Cond.before, Cond.holds, Cond.value, Term.eval]
  simp [e1, e2, e3, e4, e5]
  cases hk : k.kind <;> simp
  exact e6 hk
theorem pe_heap {st tt : State} {o : Outcome} (h : PureEnd st o tt) : tt.heap = st.heap := by
  obtain ⟨-, -, e, hsz, hc⟩ := h
  have hs : tt.heap.size = st.heap.size := hsz
  refine Array.ext_getElem? (fun i => ?_)
  by_cases hi : i < st.heap.size
  · obtain ⟨c', g1, g2, g3, g4⟩ := hc i _ (Array.getElem?_eq_getElem hi)
    have e1 : tt.heap[i]? = some c' := g1
    rw [e1, Array.getElem?_eq_getElem hi]
    have e2 : c'.slots = (st.heap[i]).slots := Array.ext_getElem? (fun j => g4 j List.not_mem_nil)
    rw [g2, e2]
  · rw [Array.getElem?_eq_none (by omega), Array.getElem?_eq_none (by omega)]
abbrev sL : MethodName := ⟨"java/lang/String", "length", "()I"⟩
abbrev sCo : MethodName := ⟨"java/lang/String", "coder", "()B"⟩
def wsL : List Cond := [.code sL Jvm.Lib.String.length.code 1 (some .int), .fieldLink "java/lang/String" 9 "java/lang/String" "value" "[B", .methodLink "java/lang/String" 335 sCo, .selects "java/lang/String" sCo sCo, .instanceMethod sCo, .initialized "java/lang/String", .code sCo Jvm.Lib.String.coder.code 1 (some .byte), .fieldLink "java/lang/String" 38 "java/lang/String" "COMPACT_STRINGS" "Z", .fieldLink "java/lang/String" 15 "java/lang/String" "coder" "B"]
theorem pre_co {N a d : Nat} {t : List Int} {U : State} {args : Array Value} (hw : ∀ w ∈ wsL, w.before args U = true) (hT : TXs N U a d t) (hS : stB N U "java/lang/String" "COMPACT_STRINGS" "Z" (.int 1)) (hwa : ∀ w ∈ wsL, w.before #[.ref a] U = true) : Jvm.Lib.Cold.coder.spec.pre.before #[.ref a] U = true ∧ Jvm.Lib.Cold.coder.P a 1 #[.ref a] U := by
  refine ⟨?_, rfl, stB_is hS, by decide, ?_⟩
  · simp only [Jvm.Lib.Cold.coder.spec, Cond.before_and, Bool.and_eq_true]
    exact ⟨hwa _ (List.mem_of_getElem? (i := 6) rfl), rfl, hwa _ (List.mem_of_getElem? (i := 7) rfl), hwa _ (List.mem_of_getElem? (i := 8) rfl)⟩
  · obtain ⟨-, -, -, -, h4, -⟩ := hT
    show (U.fieldOf? a "java/lang/String" "coder" "B") = some (.int 0)
    exact h4
def PcL (N a d : Nat) (t : List Int) (x : Array Value) (U : State) : Prop := x = #[.ref a] ∧ TXs N U a d t ∧ stB N U "java/lang/String" "COMPACT_STRINGS" "Z" (.int 1)
theorem pre_L {N a d : Nat} {t : List Int} {U : State} (hw : ∀ w ∈ wsL, w.before #[.ref a] U = true) (hT : TXs N U a d t) (hS : stB N U "java/lang/String" "COMPACT_STRINGS" "Z" (.int 1)) {arr : Cell} (ha : U.heap[d]? = some arr) (hb : U.isArrayOf arr .byte) : Jvm.Lib.Cold.length.spec.pre.before #[.ref a] U = true ∧ Jvm.Lib.Cold.length.P a d 1 arr #[.ref a] U := by
  obtain ⟨c1, c2⟩ := pre_co hw hT hS hw
  refine ⟨?_, rfl, ?_, ha, hb, c1, c2⟩
  · simp only [Jvm.Lib.Cold.length.spec, Cond.before_and, Bool.and_eq_true]
    exact ⟨hw _ (List.mem_of_getElem? (i := 0) rfl), rfl, exa_of hT [], hw _ (List.mem_of_getElem? (i := 1) rfl), hw _ (List.mem_of_getElem? (i := 2) rfl), dcl_of (hw _ (List.mem_of_getElem? (i := 4) rfl)) (hw _ (List.mem_of_getElem? (i := 6) rfl)) _, hw _ (List.mem_of_getElem? (i := 3) rfl), hw _ (List.mem_of_getElem? (i := 4) rfl), hw _ (List.mem_of_getElem? (i := 5) rfl)⟩
  · obtain ⟨-, -, -, h3, -⟩ := hT
    show (U.fieldOf? a "java/lang/String" "value" "[B") = some (.ref d)
    exact h3
theorem met_L (l : Launch) (N a d : Nat) (t : List Int) (free : Addr → Prop) (mc ms : Nat) : Met l sL wsL { frames := 1, cells := 0, slots := 0, locals := 24 } (PcL N a d t) (fun _ st o tt => (o = .returned (some (.int (Int32.ofNat t.length))) ∧ tt.heap = st.heap)) 0 0 free := by
  refine mt_of (S := Jvm.Lib.Cold.length.spec) (P := fun x U => ∃ arr, Jvm.Lib.Cold.length.P a d 1 arr x U ∧ arr.slots.size = t.length) (Q := fun x st o tt => ∃ arr : Cell, Jvm.Lib.Cold.length.Q arr x st o tt ∧ arr.slots.size = t.length) ?_ (by decide) (by decide) (by decide) (by decide) ?_ ?_
  · intro p e ha hc hk s m args below hf happ hP hK
    obtain ⟨arr, hP, hsz⟩ := hP
    obtain ⟨n, o, k1, k2, k3, k4⟩ := Jvm.Lib.Cold.length.met l a d 1 arr p e ha hc hk s m args below hf happ hP hK
    exact ⟨n, o, k1, k2, k3, arr, k4, hsz⟩
  · intro x U hw hP
    obtain ⟨rfl, hT, hS⟩ := hP
    obtain ⟨arr, g1, g2, g3, g4, g5⟩ := hT.2.2.2.2.2
    obtain ⟨q1, q2⟩ := pre_L hw hT hS g1 g2
    exact ⟨q1, arr, q2, g4⟩
  · intro x st o tt hQ
    obtain ⟨arr, ⟨h1, h2⟩, hsz⟩ := hQ
    refine ⟨⟨by rw [h2, hsz], ?_⟩, h1⟩
    exact pe_heap h1
theorem ch_id : ∀ c : Nat, c < 128 → (Outcome.returned (some (Value.int ((Int32.ofInt (c : Int) &&& 255).toUInt32.toUInt16.toUInt32.toInt32)))) = Outcome.returned (some (Value.int (Int32.ofInt (c : Int)))) := by
  intro c hc
  have h : ∀ c : Fin 128, (Int32.ofInt ((c : Nat) : Int) &&& 255).toUInt32.toUInt16.toUInt32.toInt32 = Int32.ofInt ((c : Nat) : Int) := by decide +kernel
  rw [h ⟨c, hc⟩]
abbrev sC : MethodName := ⟨"java/lang/String", "charAt", "(I)C"⟩
abbrev sIL : MethodName := ⟨"java/lang/String", "isLatin1", "()Z"⟩
abbrev sSL : MethodName := ⟨"java/lang/StringLatin1", "charAt", "([BI)C"⟩
abbrev sSC : MethodName := ⟨"java/lang/String", "checkIndex", "(II)V"⟩
abbrev sPC : MethodName := ⟨"jdk/internal/util/Preconditions", "checkIndex", "(IILjava/util/function/BiFunction;)I"⟩
def wsC : List Cond := [.code sC Jvm.Lib.Str.charAt.code 2 (some .char), .methodLink "java/lang/String" 492 sIL, .selects "java/lang/String" sIL sIL, .instanceMethod sIL, .fieldLink "java/lang/String" 9 "java/lang/String" "value" "[B", .methodLink "java/lang/String" 495 sSL, .static sSL, .initialized "java/lang/StringLatin1", .initialized "java/lang/String", .code sIL Jvm.Lib.String.isLatin1.code 1 (some .boolean), .fieldLink "java/lang/String" 38 "java/lang/String" "COMPACT_STRINGS" "Z", .fieldLink "java/lang/String" 15 "java/lang/String" "coder" "B", .code sSL Jvm.Lib.SL1.charAt.code 2 (some .char), .methodLink "java/lang/StringLatin1" 9 sSC, .static sSC, .code sSC Jvm.Lib.Str.checkIndex.code 2 none, .fieldLink "java/lang/String" 1053 "jdk/internal/util/Preconditions" "SIOOBE_FORMATTER" "Ljava/util/function/BiFunction;", .methodLink "java/lang/String" 1059 sPC, .static sPC, .initialized "jdk/internal/util/Preconditions", .code sPC Jvm.Lib.Preconditions.checkIndex.code 3 (some .int)]
theorem sig_of {y : MethodName} {bytes : ByteArray} {maxL : Nat} {ret : Option FieldType} {args : Array Value} {U : State} (h2 : (Cond.code y bytes maxL ret).before args U = true) : Jvm.Lib.Cold.Sig U y := by
  obtain ⟨mk, hnamed⟩ : ∃ mk, U.methodNamed? y = some mk := by
    cases h : U.methodNamed? y with
    | none => simp [Cond.before, Cond.holds, Cond.value, h] at h2
    | some mk => exact ⟨mk, rfl⟩
  obtain ⟨methM, cM, hmethM, -, -, -, -, -, -, hsigM⟩ := Cond.code_spec hnamed h2
  exact ⟨mk, methM, hnamed, hmethM, hsigM⟩
/-- words of tables hold for any arguments -/
def wA (ws : List Cond) (U : State) : Prop := ∀ w ∈ ws, ∀ x : Array Value, w.before x U = true
theorem wA_of {ws : List Cond} {U : State} {x : Array Value} (hg : ∀ w ∈ ws, goodWord w = true) (h : ∀ w ∈ ws, w.before x U = true) : wA ws U := fun w hw y => word_at (State.WarmedH.refl U) (good_of_word (hg w hw)) (h w hw)
theorem pre_IL {N a d : Nat} {t : List Int} {U : State} (hw : wA wsC U) (hT : TXs N U a d t) (hS : stB N U "java/lang/String" "COMPACT_STRINGS" "Z" (.int 1)) : Jvm.Lib.Cold.isLatin1.spec.pre.before #[.ref a] U = true ∧ Jvm.Lib.Cold.isLatin1.P a 1 #[.ref a] U := by
  refine ⟨?_, rfl, stB_is hS, by decide, ?_⟩
  · simp only [Jvm.Lib.Cold.isLatin1.spec, Cond.before_and, Bool.and_eq_true]
    exact ⟨hw _ (List.mem_of_getElem? (i := 9) rfl) _, rfl, hw _ (List.mem_of_getElem? (i := 10) rfl) _, hw _ (List.mem_of_getElem? (i := 11) rfl) _⟩
  · obtain ⟨-, -, -, -, h4, -⟩ := hT
    show (U.fieldOf? a "java/lang/String" "coder" "B") = some (.int 0)
    exact h4
theorem pre_PC {U : State} {i n : Nat} {fmt : Value} (hw : wA wsC U) (hf : fmt = .null ∨ ∃ r, fmt = .ref r) (hi : i < n) (hn : n < 2 ^ 31) : Jvm.Lib.Preconditions.checkIndex.spec.pre.before #[.int (Int32.ofNat i), .int (Int32.ofNat n), fmt] U = true := by
  simp only [Jvm.Lib.Preconditions.checkIndex.spec, Cond.before_and, Bool.and_eq_true]
  refine ⟨hw _ (List.mem_of_getElem? (i := 20) rfl) _, rfl, rfl, rfl, ?_, ?_, ?_⟩
  · rcases hf with rfl | ⟨r, rfl⟩ <;> rfl
  · simp only [Cond.before, Cond.holds, Cond.value, Term.eval]
    simp
    exact nI_pos' (by omega)
  · simp only [Cond.before, Cond.holds, Cond.value, Term.eval]
    simp
    exact nI_lt hi hn
def PcC (N a d : Nat) (t : List Int) (i : Nat) (x : Array Value) (U : State) : Prop := x = #[.ref a, .int (Int32.ofNat i)] ∧ TXs N U a d t ∧ stB N U "java/lang/String" "COMPACT_STRINGS" "Z" (.int 1) ∧ ∃ fmt, (fmt = .null ∨ ∃ r, fmt = .ref r) ∧ stB N U "jdk/internal/util/Preconditions" "SIOOBE_FORMATTER" "Ljava/util/function/BiFunction;" fmt
theorem pre_C {N a d i : Nat} {t : List Int} {U : State} {fmt : Value} (hw : wA wsC U) (hT : TXs N U a d t) (hS : stB N U "java/lang/String" "COMPACT_STRINGS" "Z" (.int 1)) (hf : fmt = .null ∨ ∃ r, fmt = .ref r) (hF : stB N U "jdk/internal/util/Preconditions" "SIOOBE_FORMATTER" "Ljava/util/function/BiFunction;" fmt) (hi : i < t.length) (hn : t.length < 2 ^ 31) {arr : Cell} (ha : U.heap[d]? = some arr) (hb : U.isArrayOf arr .byte) (hv : arr.vm ≠ .unknown) (hz : arr.slots.size = t.length) (hx : arr.slots[i]? = some (.int (Int32.ofInt (t.getD i 0)))) : Jvm.Lib.Cold.charAt.spec.pre.before #[.ref a, .int (Int32.ofNat i)] U = true ∧ Jvm.Lib.Cold.charAt.P a d (Int32.ofNat i) (Int32.ofInt (t.getD i 0)) 1 fmt arr #[.ref a, .int (Int32.ofNat i)] U := by
  obtain ⟨c1, c2⟩ := pre_IL hw hT hS
  have ec : (Int32.ofNat i).toNatClampNeg = i := nI_clamp (by omega)
  refine ⟨?_, rfl, ?_, sig_of (hw _ (List.mem_of_getElem? (i := 12) rfl) #[]), c1, c2, ?_, rfl, ha, hb, hv, ?_, ?_, sig_of (hw _ (List.mem_of_getElem? (i := 15) rfl) #[]), ?_, rfl, stB_is hF, sig_of (hw _ (List.mem_of_getElem? (i := 20) rfl) #[]), ?_⟩
  · simp only [Jvm.Lib.Cold.charAt.spec, Cond.before_and, Bool.and_eq_true]
    exact ⟨hw _ (List.mem_of_getElem? (i := 0) rfl) _, rfl, exa_of hT [_], hw _ (List.mem_of_getElem? (i := 1) rfl) _, dcl_of (hw _ (List.mem_of_getElem? (i := 3) rfl) #[]) (hw _ (List.mem_of_getElem? (i := 9) rfl) #[]) _, hw _ (List.mem_of_getElem? (i := 2) rfl) _, hw _ (List.mem_of_getElem? (i := 3) rfl) _, hw _ (List.mem_of_getElem? (i := 4) rfl) _, hw _ (List.mem_of_getElem? (i := 5) rfl) _, hw _ (List.mem_of_getElem? (i := 6) rfl) _, hw _ (List.mem_of_getElem? (i := 7) rfl) _, hw _ (List.mem_of_getElem? (i := 8) rfl) _⟩
  · obtain ⟨-, -, -, h3, -⟩ := hT
    show (U.fieldOf? a "java/lang/String" "value" "[B") = some (.ref d)
    exact h3
  · simp only [Jvm.Lib.Cold.latin1.spec, Cond.before_and, Bool.and_eq_true]
    exact ⟨hw _ (List.mem_of_getElem? (i := 12) rfl) _, rfl, hw _ (List.mem_of_getElem? (i := 13) rfl) _, hw _ (List.mem_of_getElem? (i := 14) rfl) _, hw _ (List.mem_of_getElem? (i := 8) rfl) _⟩
  · rw [hz]; exact nI_in hi hn
  · rw [ec]; exact hx
  · simp only [Jvm.Lib.Cold.checkIndex.spec, Cond.before_and, Bool.and_eq_true]
    exact ⟨hw _ (List.mem_of_getElem? (i := 15) rfl) _, rfl, hw _ (List.mem_of_getElem? (i := 16) rfl) _, hw _ (List.mem_of_getElem? (i := 17) rfl) _, hw _ (List.mem_of_getElem? (i := 18) rfl) _, hw _ (List.mem_of_getElem? (i := 19) rfl) _⟩
  · rw [hz]; exact pre_PC hw hf hi hn
theorem met_C (l : Launch) (N a d i : Nat) (t : List Int) (free : Addr → Prop) (hi : i < t.length) (hn : t.length < 2 ^ 31) (hb : 0 ≤ t.getD i 0 ∧ t.getD i 0 < 128) : Met l sC wsC { frames := 3, cells := 0, slots := 0, locals := 72 } (PcC N a d t i) (fun _ st o tt => (o = .returned (some (.int (Int32.ofInt (t.getD i 0)))) ∧ tt.heap = st.heap)) 0 0 free := by
  refine mt_of (S := Jvm.Lib.Cold.charAt.spec) (P := fun x U => ∃ arr fmt, Jvm.Lib.Cold.charAt.P a d (Int32.ofNat i) (Int32.ofInt (t.getD i 0)) 1 fmt arr x U) (Q := Jvm.Lib.Cold.charAt.Q (Int32.ofInt (t.getD i 0))) ?_ (by decide) (by decide) (by decide) (by decide) ?_ ?_
  · intro p e ha hc hk s m args below hf happ hP hK
    obtain ⟨arr, fmt, hP⟩ := hP
    exact Jvm.Lib.Cold.charAt.met l a d _ _ 1 fmt arr p e ha hc hk s m args below hf happ hP hK
  · intro x U hw hP
    obtain ⟨rfl, hT, hS, fmt, hf, hF⟩ := hP
    have hwA : wA wsC U := wA_of (by decide +kernel) hw
    obtain ⟨arr, g1, g2, g3, g4, g5⟩ := hT.2.2.2.2.2
    obtain ⟨q1, q2⟩ := pre_C hwA hT hS hf hF hi hn g1 g2 g3 g4 (g5 i hi)
    exact ⟨q1, arr, fmt, q2⟩
  · intro x st o tt hQ
    obtain ⟨h1, h2⟩ := hQ
    refine ⟨⟨?_, pe_heap h1⟩, h1⟩
    rw [h2]
    obtain ⟨c, hc⟩ : ∃ c : Nat, t.getD i 0 = (c : Int) := ⟨(t.getD i 0).toNat, by omega⟩
    have hc2 : c < 128 := by omega
    rw [hc]
    exact ch_id c hc2
def ixl : List Int → Int → Int → Int
  | [], _, _ => -1
  | x :: r, c, i => if x = c then i else ixl r c (i + 1)
theorem b8_id : ∀ c : Fin 256, ∀ x : Fin 128, (Int32.ofInt ((x : Nat) : Int) = (Int32.ofNat (c : Nat)).toInt8.toInt32) ↔ (x : Nat) = (c : Nat) := by decide +kernel
theorem fi_eq {c : Nat} (hc : c < 256) : ∀ (l : List Int) (f : Nat → Int32) (k : Nat), (∀ j, j < l.length → f (k + j) = Int32.ofInt (l.getD j 0)) → (∀ x ∈ l, 0 ≤ x ∧ x < 128) → Jvm.Free.SL1IndexOf.Chr.firstIdx f (Int32.ofNat c).toInt8.toInt32 k l.length = Int32.ofInt (ixl l (c : Int) (k : Int))
  | [], _, _, _, _ => rfl
  | x :: r, f, k, hf, hx => by
    have h0 := hf 0 (by simp)
    rw [Nat.add_zero] at h0
    have hx0 := hx x List.mem_cons_self
    obtain ⟨n, hn⟩ : ∃ n : Nat, x = (n : Int) := ⟨x.toNat, by omega⟩
    have hn2 : n < 128 := by omega
    have key := b8_id ⟨c, hc⟩ ⟨n, hn2⟩
    have e0 : f k = Int32.ofInt (n : Int) := by rw [h0]; show Int32.ofInt x = _; rw [hn]
    show (if f k = (Int32.ofNat c).toInt8.toInt32 then Int32.ofNat k else Jvm.Free.SL1IndexOf.Chr.firstIdx f (Int32.ofNat c).toInt8.toInt32 (k + 1) r.length) = Int32.ofInt (if x = (c : Int) then (k : Int) else ixl r (c : Int) ((k : Int) + 1))
    by_cases q : n = c
    · rw [if_pos (by rw [e0]; exact key.mpr q), if_pos (by omega), Int32.ofInt_eq_ofNat]
    · rw [if_neg (by rw [e0]; exact fun z => q (key.mp z)), if_neg (by omega)]
      exact fi_eq hc r f (k + 1) (fun j hj => by
        have := hf (j + 1) (by rw [List.length_cons]; omega)
        rw [show k + 1 + j = k + (j + 1) by omega, this]
        rfl) (fun y hy => hx y (List.mem_cons_of_mem _ hy))
theorem ans_eq {arr : Cell} {t : List Int} {c : Nat} (hc : c < 256) (hz : arr.slots.size = t.length) (hn : t.length < 2 ^ 31) (hx : ∀ i, i < t.length → arr.slots[i]? = some (.int (Int32.ofInt (t.getD i 0)))) (hb : ∀ x ∈ t, 0 ≤ x ∧ x < 128) : Jvm.Free.SL1IndexOf.Idx.answer arr (Int32.ofNat c) 0 arr.slots.size.toInt32 = Int32.ofInt (ixl t (c : Int) 0) := by
  have ecan : Jvm.Free.SL1IndexOf.Can.can (Int32.ofNat c) = 1 := by
    unfold Jvm.Free.SL1IndexOf.Can.can
    exact if_pos ⟨nI_pos' (by omega), nI_le (a := c) (b := 255) (by omega) (by omega)⟩
  have elo : Jvm.Free.SL1IndexOf.Idx.lo 0 = 0 := by decide
  have ehi : Jvm.Free.SL1IndexOf.Idx.hi arr arr.slots.size.toInt32 = Int32.ofNat t.length := by
    unfold Jvm.Free.SL1IndexOf.Idx.hi
    rw [hz, ite_self]
  unfold Jvm.Free.SL1IndexOf.Idx.answer
  rw [ecan, elo, ehi, if_neg (by decide)]
  have key := fi_eq hc t (Jvm.Lib.StringLatin1.equals.intAt arr) 0 (fun j hj => by
    rw [Nat.zero_add]
    unfold Jvm.Lib.StringLatin1.equals.intAt
    rw [hx j hj]) hb
  by_cases q : 0 < t.length
  · rw [if_pos (show (0 : Int32) < Int32.ofNat t.length from nI_lt (a := 0) q hn), show (Int32.ofNat t.length).toNatClampNeg = t.length from nI_clamp hn, show (0 : Int32).toNatClampNeg = 0 from rfl, Nat.sub_zero]
    exact key
  · rw [if_neg (show ¬ (0 : Int32) < Int32.ofNat t.length from nI_nlt (a := 0) (b := t.length) (by omega) (by omega))]
    have e : t = [] := List.length_eq_zero_iff.mp (by omega)
    rw [e]
    rfl
abbrev sI1 : MethodName := ⟨"java/lang/String", "indexOf", "(I)I"⟩
abbrev sI2 : MethodName := ⟨"java/lang/String", "indexOf", "(II)I"⟩
abbrev sI4 : MethodName := ⟨"java/lang/StringLatin1", "indexOf", "([BIII)I"⟩
abbrev sCE : MethodName := ⟨"java/lang/StringLatin1", "canEncode", "(I)Z"⟩
abbrev sIC : MethodName := ⟨"java/lang/StringLatin1", "indexOfChar", "([BIII)I"⟩
def wsIx : List Cond := [.code sI1 Jvm.Free.StrIndexOf.indexOf1B 2 (some .int), .methodLink "java/lang/String" 633 sI2, .selects "java/lang/String" sI2 sI2, .instanceMethod sI2, .initialized "java/lang/String", .code sI2 Jvm.Free.StrIndexOf.indexOf2B 3 (some .int), .methodLink "java/lang/String" 492 sIL, .selects "java/lang/String" sIL sIL, .instanceMethod sIL, .fieldLink "java/lang/String" 9 "java/lang/String" "value" "[B", .methodLink "java/lang/String" 505 sL, .selects "java/lang/String" sL sL, .instanceMethod sL, .methodLink "java/lang/String" 637 sI4, .static sI4, .initialized "java/lang/StringLatin1", .code sIL Jvm.Lib.String.isLatin1.code 1 (some .boolean), .code sI4 Jvm.Free.SL1IndexOf.indexOfB 4 (some .int), .methodLink "java/lang/StringLatin1" 88 sCE, .static sCE, .code sCE Jvm.Free.SL1IndexOf.canEncodeB 1 (some .boolean), .methodLink "java/lang/StringLatin1" 92 Jvm.Lib.Math.max.name, .static Jvm.Lib.Math.max.name, .code Jvm.Lib.Math.max.name Jvm.Lib.Math.max.code 2 (some .int), .methodLink "java/lang/StringLatin1" 38 Jvm.Lib.Math.min.name, .static Jvm.Lib.Math.min.name, .code Jvm.Lib.Math.min.name Jvm.Lib.Math.min.code 2 (some .int), .initialized "java/lang/Math", .methodLink "java/lang/StringLatin1" 95 sIC, .static sIC, .code sIC Jvm.Free.SL1IndexOf.indexOfCharB 6 (some .int)] ++ wsL ++ wsC
theorem wI_L {U : State} (h : wA wsIx U) : wA wsL U := fun w hw => h w (List.mem_append_left _ (List.mem_append_right _ hw))
theorem wI_C {U : State} (h : wA wsIx U) : wA wsC U := fun w hw => h w (List.mem_append_right _ hw)
def PcI (N a d : Nat) (t : List Int) (c : Nat) (x : Array Value) (U : State) : Prop := x = #[.ref a, .int (Int32.ofNat c)] ∧ TXs N U a d t ∧ stB N U "java/lang/String" "COMPACT_STRINGS" "Z" (.int 1)
theorem pre_I2 {N a d c : Nat} {t : List Int} {U : State} (hw : wA wsIx U) (hT : TXs N U a d t) (hS : stB N U "java/lang/String" "COMPACT_STRINGS" "Z" (.int 1)) (hn : t.length < 2 ^ 31) {arr : Cell} (ha : U.heap[d]? = some arr) (hb : U.isArrayOf arr .byte) (hv : arr.vm ≠ .unknown) (hz : arr.slots.size = t.length) (hx : ∀ i, i < t.length → arr.slots[i]? = some (.int (Int32.ofInt (t.getD i 0)))) : Jvm.Free.StrIndexOf.S2.spec.pre.before #[.ref a, .int (Int32.ofNat c), .int 0] U = true ∧ Jvm.Free.StrIndexOf.S2.P a d (Int32.ofNat c) 0 1 arr #[.ref a, .int (Int32.ofNat c), .int 0] U := by
  obtain ⟨c1, c2⟩ := pre_IL (wI_C hw) hT hS
  obtain ⟨l1, l2⟩ := pre_L (fun w hw' => wI_L hw w hw' _) hT hS ha hb
  refine ⟨?_, rfl, ?_, c1, c2, l1, l2, hv, by rw [hz]; exact hn, ?_⟩
  · simp only [Jvm.Free.StrIndexOf.S2.spec, Jvm.Free.SL1IndexOf.Idx.tab, Jvm.Free.SL1IndexOf.Can.tab, Jvm.Free.SL1IndexOf.Chr.tab, Cond.before_and, Bool.and_eq_true]
    exact ⟨hw _ (List.mem_of_getElem? (i := 5) rfl) _, rfl, exa_of hT [_, _], hw _ (List.mem_of_getElem? (i := 6) rfl) _, dcl_of (hw _ (List.mem_of_getElem? (i := 8) rfl) #[]) (hw _ (List.mem_of_getElem? (i := 16) rfl) #[]) _, hw _ (List.mem_of_getElem? (i := 7) rfl) _, hw _ (List.mem_of_getElem? (i := 8) rfl) _, hw _ (List.mem_of_getElem? (i := 9) rfl) _, hw _ (List.mem_of_getElem? (i := 10) rfl) _, dcl_of (hw _ (List.mem_of_getElem? (i := 12) rfl) #[]) (hw _ (List.mem_of_getElem? (i := 31) rfl) #[]) _, hw _ (List.mem_of_getElem? (i := 11) rfl) _, hw _ (List.mem_of_getElem? (i := 12) rfl) _, hw _ (List.mem_of_getElem? (i := 13) rfl) _, hw _ (List.mem_of_getElem? (i := 14) rfl) _, ⟨hw _ (List.mem_of_getElem? (i := 17) rfl) _, hw _ (List.mem_of_getElem? (i := 18) rfl) _, hw _ (List.mem_of_getElem? (i := 19) rfl) _, hw _ (List.mem_of_getElem? (i := 20) rfl) _, hw _ (List.mem_of_getElem? (i := 21) rfl) _, hw _ (List.mem_of_getElem? (i := 22) rfl) _, hw _ (List.mem_of_getElem? (i := 23) rfl) _, hw _ (List.mem_of_getElem? (i := 24) rfl) _, hw _ (List.mem_of_getElem? (i := 25) rfl) _, hw _ (List.mem_of_getElem? (i := 26) rfl) _, hw _ (List.mem_of_getElem? (i := 27) rfl) _, hw _ (List.mem_of_getElem? (i := 28) rfl) _, hw _ (List.mem_of_getElem? (i := 29) rfl) _, hw _ (List.mem_of_getElem? (i := 30) rfl) _⟩, hw _ (List.mem_of_getElem? (i := 15) rfl) _, hw _ (List.mem_of_getElem? (i := 4) rfl) _⟩
  · obtain ⟨-, -, -, h3, -⟩ := hT
    show (U.fieldOf? a "java/lang/String" "value" "[B") = some (.ref d)
    exact h3
  · intro i hi
    rw [hz] at hi
    rw [hx i hi]
    unfold Jvm.Lib.StringLatin1.equals.intAt
    rw [hx i hi]
theorem met_I (l : Launch) (N a d c : Nat) (t : List Int) (free : Addr → Prop) (hc : c < 256) (hn : t.length < 2 ^ 31) (hb : ∀ x ∈ t, 0 ≤ x ∧ x < 128) : Met l sI1 wsIx { frames := 4, cells := 0, slots := 0, locals := 160 } (PcI N a d t c) (fun _ st o tt => (o = .returned (some (.int (Int32.ofInt (ixl t (c : Int) 0)))) ∧ tt.heap = st.heap)) 0 0 free := by
  refine mt_of (S := Jvm.Free.StrIndexOf.S1.spec) (P := fun x U => ∃ arr, Jvm.Free.StrIndexOf.S1.P a d (Int32.ofNat c) 1 arr x U ∧ arr.slots.size = t.length ∧ ∀ i, i < t.length → arr.slots[i]? = some (.int (Int32.ofInt (t.getD i 0)))) (Q := fun x st o tt => ∃ arr, Jvm.Free.StrIndexOf.S1.Q arr (Int32.ofNat c) x st o tt ∧ arr.slots.size = t.length ∧ ∀ i, i < t.length → arr.slots[i]? = some (.int (Int32.ofInt (t.getD i 0)))) ?_ (by decide) (by decide) (by decide) (by decide) ?_ ?_
  · intro p e ha hc hk s m args below hf happ hP hK
    obtain ⟨arr, hP, hz, hx⟩ := hP
    obtain ⟨n, o, k1, k2, k3, k4⟩ := Jvm.Free.StrIndexOf.S1.met l a d _ 1 arr p e ha hc hk s m args below hf happ hP hK
    exact ⟨n, o, k1, k2, k3, arr, k4, hz, hx⟩
  · intro x U hw hP
    obtain ⟨rfl, hT, hS⟩ := hP
    have hwA : wA wsIx U := wA_of (by decide +kernel) hw
    obtain ⟨arr, g1, g2, g3, g4, g5⟩ := hT.2.2.2.2.2
    obtain ⟨q1, q2⟩ := pre_I2 (c := c) hwA hT hS hn g1 g2 g3 g4 g5
    refine ⟨?_, arr, ⟨rfl, q1, q2⟩, g4, g5⟩
    simp only [Jvm.Free.StrIndexOf.S1.spec, Cond.before_and, Bool.and_eq_true]
    exact ⟨hwA _ (List.mem_of_getElem? (i := 0) rfl) _, rfl, exa_of hT [_], hwA _ (List.mem_of_getElem? (i := 1) rfl) _, dcl_of (hwA _ (List.mem_of_getElem? (i := 3) rfl) #[]) (hwA _ (List.mem_of_getElem? (i := 5) rfl) #[]) _, hwA _ (List.mem_of_getElem? (i := 2) rfl) _, hwA _ (List.mem_of_getElem? (i := 3) rfl) _, hwA _ (List.mem_of_getElem? (i := 4) rfl) _⟩
  · intro x st o tt hQ
    obtain ⟨arr, ⟨h1, h2⟩, hz, hx⟩ := hQ
    exact ⟨⟨by rw [h2, ans_eq hc hz hn hx hb], pe_heap h1⟩, h1⟩
abbrev mFD : MethodName := ⟨"java/lang/Math", "floorDiv", "(II)I"⟩
abbrev mFM : MethodName := ⟨"java/lang/Math", "floorMod", "(II)I"⟩
def wsFD : List Cond := [.code mFD prog_16_method_47_code 3 (some .int)]
def wsFM : List Cond := [.code mFM prog_16_method_50_code 3 (some .int)]
def vFD (a b : Int32) : Int32 := if (a ^^^ b) < 0 then if (a / b) * b = a then a / b else (a / b) - 1 else a / b
def vFM (a b : Int32) : Int32 := if (a ^^^ b) < 0 then if a - a / b * b = 0 then a - a / b * b else (a - a / b * b) + b else a - a / b * b
theorem mt_ofW {l : Launch} {y : MethodName} {ws ws' : List Cond} {rm : Room} {Pc : Array Value → State → Prop} {Qc : Array Value → State → Outcome → State → Prop} {mc ms : Nat} {free : Addr → Prop} {cc : ByteArray} {maxL : Nat} {ret : Option FieldType}
    (hy : plainFor y = true) (hw : ws = Cond.code y cc maxL ret :: ws')
    (body : ∀ p e s m args below meth c s₁, BodyLoose p l y (headSpec ws rm) cc maxL ret e s m args below meth c s₁ → c.maxLocals = maxL → Pc args s → W p l e (headSpec ws rm).room s m args below meth c s.heap [] 0 0 (MQ below Qc args s mc ms free) (entryFrame m args maxL)) : Met l y ws rm Pc Qc mc ms free := by
  refine MetFree.of_bodySF (code := cc) (maxLocals := maxL) (ret := ret) hy ?_ ?_
  · intro args s m h hn
    obtain ⟨meth, c, h1, h2, h3, h4, h5, h6, -, -⟩ := Cond.code_spec hn (atoms_spec (ws := ws) h _ (by rw [hw]; exact List.mem_cons_self))
    exact ⟨meth, c, h1, h2, h3, h4, h5, h6⟩
  · intro p e s m args below meth c s₁ B hml hP _
    have hh0 : s₁.heap = s.heap := by rw [B.state]; rfl
    obtain ⟨t, a1, o, b1, b2, b3⟩ := body p e s m args below meth c s₁ B hml hP s₁ hh0 (Stand.of_body B)
    exact ⟨t, o, a1, b1, b2, ⟨b3.1, b3.2⟩⟩
theorem met_FD (l : Launch) (a b : Int32) (hb0 : b ≠ 0) (free : Addr → Prop) : Met l mFD wsFD { frames := 0, cells := 0, slots := 0, locals := 0 } (va_Pc [.int a, .int b] (fun _ => True)) (fun _ st o tt => o = .returned (some (.int (vFD a b))) ∧ tt.heap = st.heap) 0 0 free := by
  refine mt_ofW (cc := prog_16_method_47_code) (maxL := 3) (ret := (some .int)) (by decide +kernel) rfl ?_
  intro p e s m args below meth c s₁ B hml hv
  obtain ⟨rfl, -⟩ := hv
  have hx := B.exec
  have hb := B.bytes
  have hr := B.returns
  have hS : va_S free s.heap s.heap [] := va_S.rf
  have hl := lv_entry ([.int a, .int b]) (n := 3) (Nat.le_of_ble_eq_true rfl)
  rw [lg_entry_eq]
  generalize (lg_sl ([.int a, .int b]) ++ List.replicate (3 - (lg_sl ([.int a, .int b])).length) Slot.unset).toArray = ls at hl ⊢
  have hl : lv_has ls 3 [(0, .int a), (1, .int b)] := hl
  refine lv_iload_n (pc := 0) hx hb (by decide +kernel : decode prog_16_method_47_code 0 = .ok (.iload_n 0, 1)) rfl (lv_at hl 0 rfl) ?_
  refine lv_iload_n (pc := 1) hx hb (by decide +kernel : decode prog_16_method_47_code 1 = .ok (.iload_n 1, 1)) rfl (lv_at hl 1 rfl) ?_
  refine lv_idiv (pc := 2) hx hb (by decide +kernel) hb0 ?_
  refine lv_istore_n (pc := 3) hx hb (by decide +kernel : decode prog_16_method_47_code 3 = .ok (.istore_n 2, 1)) rfl hl (by decide) rfl (fun ls hl => ?_)
  have hl : lv_has ls 3 [(2, .int (a / b)), (0, .int a), (1, .int b)] := hl
  refine lv_iload_n (pc := 4) hx hb (by decide +kernel : decode prog_16_method_47_code 4 = .ok (.iload_n 0, 1)) rfl (lv_at hl 1 rfl) ?_
  refine lv_iload_n (pc := 5) hx hb (by decide +kernel : decode prog_16_method_47_code 5 = .ok (.iload_n 1, 1)) rfl (lv_at hl 2 rfl) ?_
  refine lv_ixor (pc := 6) hx hb (by decide +kernel) ?_
  refine lv_if_ge (pc := 7) (off := 14) (tgt := 21) hx hb (by decide +kernel) rfl (fun z => ?_) (fun z => ?_)
  · refine lv_iload_n (pc := 21) hx hb (by decide +kernel : decode prog_16_method_47_code 21 = .ok (.iload_n 2, 1)) rfl (lv_at hl 0 rfl) ?_
    exact W.iret (v := a / b) hx hb hr (fun t ht hW => ⟨by rw [vFD, if_neg (by simpa using z)], ht⟩) hS.2.2 (by decide +kernel)
  · refine lv_iload_n (pc := 10) hx hb (by decide +kernel : decode prog_16_method_47_code 10 = .ok (.iload_n 2, 1)) rfl (lv_at hl 0 rfl) ?_
    refine lv_iload_n (pc := 11) hx hb (by decide +kernel : decode prog_16_method_47_code 11 = .ok (.iload_n 1, 1)) rfl (lv_at hl 2 rfl) ?_
    refine lv_imul (pc := 12) hx hb (by decide +kernel) ?_
    refine lv_iload_n (pc := 13) hx hb (by decide +kernel : decode prog_16_method_47_code 13 = .ok (.iload_n 0, 1)) rfl (lv_at hl 1 rfl) ?_
    refine lv_icmp_eq (pc := 14) (off := 7) (tgt := 21) hx hb (by decide +kernel) rfl (fun z2 => ?_) (fun z2 => ?_)
    · refine lv_iload_n (pc := 21) hx hb (by decide +kernel : decode prog_16_method_47_code 21 = .ok (.iload_n 2, 1)) rfl (lv_at hl 0 rfl) ?_
      exact W.iret (v := a / b) hx hb hr (fun t ht hW => ⟨by rw [vFD, if_pos (by simpa using z), if_pos z2], ht⟩) hS.2.2 (by decide +kernel)
    · refine lv_iload_n (pc := 17) hx hb (by decide +kernel : decode prog_16_method_47_code 17 = .ok (.iload_n 2, 1)) rfl (lv_at hl 0 rfl) ?_
      refine lv_iconst (v := 1) (pc := 18) hx hb (by decide +kernel : decode prog_16_method_47_code 18 = .ok (.iconst 1, 1)) (by decide) ?_
      refine lv_isub (pc := 19) hx hb (by decide +kernel) ?_
      exact W.iret (v := a / b - 1) hx hb hr (fun t ht hW => ⟨by rw [vFD, if_pos (by simpa using z), if_neg z2], ht⟩) hS.2.2 (by decide +kernel)
theorem met_FM (l : Launch) (a b : Int32) (hb0 : b ≠ 0) (free : Addr → Prop) : Met l mFM wsFM { frames := 0, cells := 0, slots := 0, locals := 0 } (va_Pc [.int a, .int b] (fun _ => True)) (fun _ st o tt => o = .returned (some (.int (vFM a b))) ∧ tt.heap = st.heap) 0 0 free := by
  refine mt_ofW (cc := prog_16_method_50_code) (maxL := 3) (ret := (some .int)) (by decide +kernel) rfl ?_
  intro p e s m args below meth c s₁ B hml hv
  obtain ⟨rfl, -⟩ := hv
  have hx := B.exec
  have hb := B.bytes
  have hr := B.returns
  have hS : va_S free s.heap s.heap [] := va_S.rf
  have hl := lv_entry ([.int a, .int b]) (n := 3) (Nat.le_of_ble_eq_true rfl)
  rw [lg_entry_eq]
  generalize (lg_sl ([.int a, .int b]) ++ List.replicate (3 - (lg_sl ([.int a, .int b])).length) Slot.unset).toArray = ls at hl ⊢
  have hl : lv_has ls 3 [(0, .int a), (1, .int b)] := hl
  refine lv_iload_n (pc := 0) hx hb (by decide +kernel : decode prog_16_method_50_code 0 = .ok (.iload_n 0, 1)) rfl (lv_at hl 0 rfl) ?_
  refine lv_iload_n (pc := 1) hx hb (by decide +kernel : decode prog_16_method_50_code 1 = .ok (.iload_n 1, 1)) rfl (lv_at hl 1 rfl) ?_
  refine lv_irem (pc := 2) hx hb (by decide +kernel) hb0 ?_
  refine lv_istore_n (pc := 3) hx hb (by decide +kernel : decode prog_16_method_50_code 3 = .ok (.istore_n 2, 1)) rfl hl (by decide) rfl (fun ls hl => ?_)
  have hl : lv_has ls 3 [(2, .int (a - a / b * b)), (0, .int a), (1, .int b)] := hl
  refine lv_iload_n (pc := 4) hx hb (by decide +kernel : decode prog_16_method_50_code 4 = .ok (.iload_n 0, 1)) rfl (lv_at hl 1 rfl) ?_
  refine lv_iload_n (pc := 5) hx hb (by decide +kernel : decode prog_16_method_50_code 5 = .ok (.iload_n 1, 1)) rfl (lv_at hl 2 rfl) ?_
  refine lv_ixor (pc := 6) hx hb (by decide +kernel) ?_
  refine lv_if_ge (pc := 7) (off := 11) (tgt := 18) hx hb (by decide +kernel) rfl (fun z => ?_) (fun z => ?_)
  · refine lv_iload_n (pc := 18) hx hb (by decide +kernel : decode prog_16_method_50_code 18 = .ok (.iload_n 2, 1)) rfl (lv_at hl 0 rfl) ?_
    exact W.iret (v := a - a / b * b) hx hb hr (fun t ht hW => ⟨by rw [vFM, if_neg (by simpa using z)], ht⟩) hS.2.2 (by decide +kernel)
  · refine lv_iload_n (pc := 10) hx hb (by decide +kernel : decode prog_16_method_50_code 10 = .ok (.iload_n 2, 1)) rfl (lv_at hl 0 rfl) ?_
    refine lv_if_eq (pc := 11) (off := 7) (tgt := 18) hx hb (by decide +kernel) rfl (fun z2 => ?_) (fun z2 => ?_)
    · refine lv_iload_n (pc := 18) hx hb (by decide +kernel : decode prog_16_method_50_code 18 = .ok (.iload_n 2, 1)) rfl (lv_at hl 0 rfl) ?_
      exact W.iret (v := a - a / b * b) hx hb hr (fun t ht hW => ⟨by rw [vFM, if_pos (by simpa using z), if_pos z2], ht⟩) hS.2.2 (by decide +kernel)
    · refine lv_iload_n (pc := 14) hx hb (by decide +kernel : decode prog_16_method_50_code 14 = .ok (.iload_n 2, 1)) rfl (lv_at hl 0 rfl) ?_
      refine lv_iload_n (pc := 15) hx hb (by decide +kernel : decode prog_16_method_50_code 15 = .ok (.iload_n 1, 1)) rfl (lv_at hl 2 rfl) ?_
      refine lv_iadd (pc := 16) hx hb (by decide +kernel) ?_
      exact W.iret (v := a - a / b * b + b) hx hb hr (fun t ht hW => ⟨by rw [vFM, if_pos (by simpa using z), if_neg z2], ht⟩) hS.2.2 (by decide +kernel)
theorem i3_neg (a : Int32) : a < 0 ↔ a.toInt < 0 := by
  rw [Int32.lt_iff_toInt_lt]
  rfl
theorem i3_xor (a b : Int32) : (a ^^^ b) < 0 ↔ ((a.toInt < 0 ∧ ¬ b.toInt < 0) ∨ (¬ a.toInt < 0 ∧ b.toInt < 0)) := by
  have e : ∀ c : Int32, c.toBitVec.msb = decide (c.toInt < 0) := fun c => BitVec.msb_eq_toInt
  have h1 : (a ^^^ b).toBitVec.msb = (a.toBitVec.msb ^^ b.toBitVec.msb) := by rw [Int32.toBitVec_xor, BitVec.msb_xor]
  rw [e, e, e] at h1
  rw [i3_neg]
  by_cases p : a.toInt < 0 <;> by_cases q : b.toInt < 0 <;> simp [p, q] at h1 ⊢ <;> omega
theorem i3_r (a : Int32) : -2147483648 ≤ a.toInt ∧ a.toInt < 2147483648 := ⟨Int32.le_toInt a, Int32.toInt_lt a⟩
theorem i3_div (a b : Int32) (h : b.toInt ≠ 0) : a / b = Int32.ofInt (a.toInt.tdiv b.toInt) := by
  rw [← Int32.toInt_inj, Int32.toInt_div, Int32.toInt_ofInt]
theorem i3_mul (a b : Int) : Int32.ofInt a * Int32.ofInt b = Int32.ofInt (a * b) := (Int32.ofInt_mul ..).symm
theorem i3_eq {a b : Int} (ha : -2147483648 ≤ a ∧ a < 2147483648) (hb : -2147483648 ≤ b ∧ b < 2147483648) : Int32.ofInt a = Int32.ofInt b ↔ a = b := by
  rw [← Int32.toInt_inj, Int32.toInt_ofInt, Int32.toInt_ofInt]
  show a.bmod 4294967296 = b.bmod 4294967296 ↔ _
  rw [Int.bmod_eq_of_le (by omega) (by omega), Int.bmod_eq_of_le (by omega) (by omega)]
/-- the sizes of a quotient and what is left -/
theorem td_b {X Y : Int} (h : Y ≠ 0) : (X.tdiv Y) * Y + X.tmod Y = X ∧ (0 ≤ X → 0 ≤ X.tmod Y ∧ (0 < Y → X.tmod Y < Y) ∧ (Y < 0 → X.tmod Y < -Y)) ∧ (X < 0 → X.tmod Y ≤ 0 ∧ (0 < Y → -Y < X.tmod Y) ∧ (Y < 0 → Y < X.tmod Y)) := by
  have e := Int.tdiv_mul_add_tmod X Y
  have hl := Int.natAbs_tmod X Y
  refine ⟨e, fun h0 => ?_, fun h0 => ?_⟩
  · have h1 := Int.tmod_nonneg Y h0
    have h2 : (X.tmod Y).natAbs < Y.natAbs := by rw [hl]; exact Nat.mod_lt _ (by omega)
    omega
  · have h1 : 0 ≤ (-X).tmod Y := Int.tmod_nonneg Y (by omega)
    rw [Int.neg_tmod] at h1
    have h2 : (X.tmod Y).natAbs < Y.natAbs := by rw [hl]; exact Nat.mod_lt _ (by omega)
    omega
theorem fd_c {X Y : Int} (h : Y ≠ 0) : X.fdiv Y = if (X < 0 ∧ ¬ Y < 0) ∨ (¬ X < 0 ∧ Y < 0) then (if (X.tdiv Y) * Y = X then X.tdiv Y else X.tdiv Y - 1) else X.tdiv Y := by
  obtain ⟨e, h1, h2⟩ := td_b (X := X) h
  have e2 := Int.fdiv_mul_add_fmod X Y
  have b1 : 0 < Y → 0 ≤ X.fmod Y ∧ X.fmod Y < Y := fun z => ⟨Int.fmod_nonneg_of_pos X z, Int.fmod_lt_of_pos X z⟩
  have b2 : Y < 0 → Y < X.fmod Y ∧ X.fmod Y ≤ 0 := fun z => by
    have q1 := Int.fmod_nonneg_of_pos (-X) (b := -Y) (by omega)
    have q2 := Int.fmod_lt_of_pos (-X) (b := -Y) (by omega)
    have q3 : (-X).fmod (-Y) = -(X.fmod Y) := Int.neg_fmod_neg ..
    omega
  generalize X.fdiv Y = f at *
  generalize X.tdiv Y = t at *
  generalize X.fmod Y = r at *
  generalize X.tmod Y = s at *
  have key : (f - t) * Y = s - r := by
    rw [Int.sub_mul]; omega
  obtain ⟨k, hk⟩ : ∃ k, f = t + k := ⟨f - t, by omega⟩
  rw [show f - t = k by omega] at key
  have hk3 : k = -1 ∨ k = 0 ∨ k = 1 := by
    rcases Int.lt_or_gt_of_ne h with hy | hy
    · by_cases c1 : 2 ≤ k
      · have := Int.mul_le_mul_of_nonneg_right c1 (show 0 ≤ -Y by omega)
        rw [Int.mul_neg, Int.mul_neg] at this
        omega
      · by_cases c2 : k ≤ -2
        · have := Int.mul_le_mul_of_nonneg_right c2 (show 0 ≤ -Y by omega)
          rw [Int.mul_neg, Int.mul_neg] at this
          omega
        · omega
    · by_cases c1 : 2 ≤ k
      · have := Int.mul_le_mul_of_nonneg_right c1 (show 0 ≤ Y by omega)
        omega
      · by_cases c2 : k ≤ -2
        · have := Int.mul_le_mul_of_nonneg_right c2 (show 0 ≤ Y by omega)
          omega
        · omega
  generalize t * Y = w at *
  rcases hk3 with rfl | rfl | rfl
  · repeat' split
    all_goals omega
  · repeat' split
    all_goals omega
  · repeat' split
    all_goals omega
theorem vFD_e (a b : Int32) (h : b.toInt ≠ 0) : (if (a ^^^ b) < 0 then if (a / b) * b = a then a / b else (a / b) - 1 else a / b) = Int32.ofInt (a.toInt.fdiv b.toInt) := by
  have ra := i3_r a
  have rb := i3_r b
  have ed := i3_div a b h
  obtain ⟨e, h1, h2⟩ := td_b (X := a.toInt) h
  rw [fd_c h]
  by_cases c : (a.toInt < 0 ∧ ¬ b.toInt < 0) ∨ (¬ a.toInt < 0 ∧ b.toInt < 0)
  · rw [if_pos ((i3_xor a b).mpr c), if_pos c]
    have em : (a / b) * b = a ↔ (a.toInt.tdiv b.toInt) * b.toInt = a.toInt := by
      have e3 : (a / b) * b = Int32.ofInt ((a.toInt.tdiv b.toInt) * b.toInt) := by
        rw [ed, ← i3_mul, Int32.ofInt_toInt]
      have e4 : a = Int32.ofInt a.toInt := (Int32.ofInt_toInt a).symm
      rw [e3]
      conv => lhs; rhs; rw [e4]
      exact i3_eq (by generalize a.toInt.tdiv b.toInt * b.toInt = w at *; omega) ra
    by_cases q : (a.toInt.tdiv b.toInt) * b.toInt = a.toInt
    · rw [if_pos (em.mpr q), if_pos q, ed]
    · rw [if_neg (fun z => q (em.mp z)), if_neg q, ed, Int32.ofInt_sub]
      rfl
  · rw [if_neg (fun z => c ((i3_xor a b).mp z)), if_neg c, ed]
theorem fm_c {X Y : Int} (h : Y ≠ 0) : X.fmod Y = if (X < 0 ∧ ¬ Y < 0) ∨ (¬ X < 0 ∧ Y < 0) then (if X.tmod Y = 0 then X.tmod Y else X.tmod Y + Y) else X.tmod Y := by
  have e := (td_b (X := X) h).1
  have e2 := Int.fdiv_mul_add_fmod X Y
  have f := fd_c (X := X) h
  by_cases c : (X < 0 ∧ ¬ Y < 0) ∨ (¬ X < 0 ∧ Y < 0)
  · rw [if_pos c] at f ⊢
    by_cases q : (X.tdiv Y) * Y = X
    · rw [if_pos q] at f
      rw [f] at e2
      rw [if_pos (by omega)]
      omega
    · rw [if_neg q] at f
      rw [f, Int.sub_mul] at e2
      rw [if_neg (by omega)]
      omega
  · rw [if_neg c] at f ⊢
    rw [f] at e2
    omega
theorem vFM_e (a b : Int32) (h : b.toInt ≠ 0) : (if (a ^^^ b) < 0 then if a - a / b * b = 0 then a - a / b * b else (a - a / b * b) + b else a - a / b * b) = Int32.ofInt (a.toInt.fmod b.toInt) := by
  have ra := i3_r a
  have rb := i3_r b
  obtain ⟨e, h1, h2⟩ := td_b (X := a.toInt) h
  have er : a - a / b * b = Int32.ofInt (a.toInt.tmod b.toInt) := by
    rw [i3_div a b h]
    conv => lhs; rw [← Int32.ofInt_toInt a, ← Int32.ofInt_toInt b]
    rw [Int32.ofInt_toInt, Int32.ofInt_toInt]
    rw [show Int32.ofInt (a.toInt.tdiv b.toInt) * b = Int32.ofInt (a.toInt.tdiv b.toInt * b.toInt) from by rw [← i3_mul, Int32.ofInt_toInt]]
    rw [show a - Int32.ofInt (a.toInt.tdiv b.toInt * b.toInt) = Int32.ofInt (a.toInt - a.toInt.tdiv b.toInt * b.toInt) from by rw [Int32.ofInt_sub, Int32.ofInt_toInt]]
    congr 1
    omega
  rw [er, fm_c h]
  have ez : Int32.ofInt (a.toInt.tmod b.toInt) = 0 ↔ a.toInt.tmod b.toInt = 0 := by
    have : (0 : Int32) = Int32.ofInt 0 := rfl
    rw [this]
    exact i3_eq (by omega) (by omega)
  by_cases c : (a.toInt < 0 ∧ ¬ b.toInt < 0) ∨ (¬ a.toInt < 0 ∧ b.toInt < 0)
  · rw [if_pos ((i3_xor a b).mpr c), if_pos c]
    by_cases q : a.toInt.tmod b.toInt = 0
    · rw [if_pos (ez.mpr q), if_pos q]
    · rw [if_neg (fun z => q (ez.mp z)), if_neg q, Int32.ofInt_add, Int32.ofInt_toInt]
  · rw [if_neg (fun z => c ((i3_xor a b).mp z)), if_neg c]
section PC
variable {p : Program} {l : Launch} {e : Env} {R : Room} {s : State} {m : MethodId} {args : Array Value} {below : List Frame} {meth : Method} {c : Code} {Q : State → Prop}
/-- a call that gives a number and leaves the heap -/
theorem pc_W {H : Heap} {locs : List Loc} {cells slots pc : Nat} {lsr : Array Slot} {st0 rest : List Value} {w : Int32} {Qa : State → Outcome → State → Prop} (hQ : ∀ st o t, Qa st o t → o = .returned (some (.int w)) ∧ t.heap = st.heap) (hr : va_Run p l e R s m args below meth c H locs cells slots 0 0 (F0 m pc lsr st0) rest Qa (fun _ => False)) (kk : W p l e R s m args below meth c H locs cells slots Q (F0 m (pc + 3) lsr (.int w :: rest))) : W p l e R s m args below meth c H locs cells slots Q (F0 m pc lsr st0) := by
  intro T hT X
  obtain ⟨v, st₀, t, T', L, h0, X', hL, e1, e2, hq, st⟩ := hr T hT X
  obtain ⟨hv, hh⟩ := hQ _ _ _ hq
  cases hv
  cases L with
  | cons q L => exact (hL q List.mem_cons_self).elim
  | nil =>
    rw [List.append_nil] at X'
    obtain ⟨t2, a1, b1⟩ := kk T' (by rw [e1, hh, h0]) X'
    exact ⟨t2, st t2 a1, b1⟩
end PC
theorem fb_L {N a d : Nat} {t : List Int} : FrameBlind (PcL N a d t) := fun x U g mk h => ⟨h.1, TX_mv h.2.1 (State.WarmedH.refl U).alike (fun _ _ => rfl), stB_mv h.2.2 (State.WarmedH.refl U).alike (fun _ _ => rfl)⟩
theorem fb_C {N a d i : Nat} {t : List Int} : FrameBlind (PcC N a d t i) := fun x U g mk h => by
  obtain ⟨h1, h2, h3, fmt, h4, h5⟩ := h
  exact ⟨h1, TX_mv h2 (State.WarmedH.refl U).alike (fun _ _ => rfl), stB_mv h3 (State.WarmedH.refl U).alike (fun _ _ => rfl), fmt, h4, stB_mv h5 (State.WarmedH.refl U).alike (fun _ _ => rfl)⟩
theorem fb_I {N a d c : Nat} {t : List Int} : FrameBlind (PcI N a d t c) := fun x U g mk h => ⟨h.1, TX_mv h.2.1 (State.WarmedH.refl U).alike (fun _ _ => rfl), stB_mv h.2.2 (State.WarmedH.refl U).alike (fun _ _ => rfl)⟩
/-- what is known of the two texts -/
def TT (N : Nat) (ta : Nat → Nat) (t0 t1 : List Int) (V : State) : Prop := stB N V "java/lang/String" "COMPACT_STRINGS" "Z" (.int 1) ∧ (∃ fmt, (fmt = .null ∨ ∃ r, fmt = .ref r) ∧ stB N V "jdk/internal/util/Preconditions" "SIOOBE_FORMATTER" "Ljava/util/function/BiFunction;" fmt) ∧ (∃ d, TXs N V (ta 0) d t0) ∧ (∃ d, TXs N V (ta 1) d t1) ∧ sR V 19 (ta 0) ∧ sR V 66 (ta 1)
theorem TT_mv {N : Nat} {ta : Nat → Nat} {t0 t1 : List Int} {V V' : State} (h : TT N ta t0 t1 V) (hv : V.WarmedH V'.vm) (hh : ∀ q, q < N → V'.heap[q]? = V.heap[q]?) : TT N ta t0 t1 V' := by
  obtain ⟨h1, ⟨fmt, h2, h3⟩, ⟨d0, h4⟩, ⟨d1, h5⟩, h6, h7⟩ := h
  exact ⟨stB_mv h1 hv.alike hh, ⟨fmt, h2, stB_mv h3 hv.alike hh⟩, ⟨d0, TX_mv h4 hv.alike hh⟩, ⟨d1, TX_mv h5 hv.alike hh⟩, sR_mv h6 hv, sR_mv h7 hv⟩
