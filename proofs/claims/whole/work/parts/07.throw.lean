def zXs : List (Nat × String) := [(52, "no such class"), (63, "too many classes and faces"), (83, "no such owner or name"), (89, "no such parameters"), (99, "too many members, or one with the same parameters"), (118, "no such type, name, n or class"), (137, "ambiguous"), (142, "unfit")]
/-! OWN LAYER: a method that may throw -/
abbrev eIA : String := "java/lang/IllegalArgumentException"
abbrev eIS : String := "java/lang/IllegalStateException"
abbrev eAR : String := "java/lang/ArithmeticException"
abbrev eNS : String := "java/util/NoSuchElementException"
/-- the words of a throw that a call doesn't keep by itself -/
def zXw : List Cond := [.castable eIA eIA, .castable eIS eIS, .castable eAR eAR, .castable eNS eNS, .declares ⟨"java/lang/RuntimeException", "<init>", "(Ljava/lang/String;)V"⟩, .declares ⟨"java/lang/Exception", "<init>", "(Ljava/lang/String;)V"⟩, .declares ⟨"java/lang/Throwable", "<init>", "(Ljava/lang/String;)V"⟩,
  .laysStatic "java/lang/Throwable" "UNASSIGNED_STACK" "[Ljava/lang/StackTraceElement;", .laysStatic "java/lang/Throwable" "SUPPRESSED_SENTINEL" "Ljava/util/List;", .isRef (.static "java/lang/Throwable" "UNASSIGNED_STACK" "[Ljava/lang/StackTraceElement;"), .isRef (.static "java/lang/Throwable" "SUPPRESSED_SENTINEL" "Ljava/util/List;")]
/-- they hang on the tables and on one cell that nobody writes -/
def zTh (A : Nat → Prop) (vm : Vm) (H : Heap) : Prop := ∃ (a : Nat) (cell : Cell), H[a]? = some cell ∧ ¬ A a ∧ ∀ U : State, vm.Alike U.vm → U.heap[a]? = some cell → ∀ w ∈ zXw, ∀ v : Array Value, w.before v U = true
theorem zTh.kept {A : Nat → Prop} {vm : Vm} {H H1 : Heap} (h : zTh A vm H) (hq : ∀ q : Nat, q < H.size → ¬ A q → H1[q]? = H[q]?) : zTh A vm H1 := by
  obtain ⟨a, cell, h1, h2, h3⟩ := h
  exact ⟨a, cell, by rw [hq a (Array.getElem?_eq_some_iff.mp h1).1 h2]; exact h1, h2, h3⟩
theorem zTh.narrow {A B : Nat → Prop} {vm : Vm} {H : Heap} (h : zTh A vm H) (hAB : ∀ q, B q → A q) : zTh B vm H := by
  obtain ⟨a, cell, h1, h2, h3⟩ := h
  exact ⟨a, cell, h1, fun q => h2 (hAB a q), h3⟩
theorem zTh.moved {A : Nat → Prop} {vm vm' : Vm} {H : Heap} (h : zTh A vm H) (hv : vm.Alike vm') : zTh A vm' H := by
  obtain ⟨a, cell, h1, h2, h3⟩ := h
  exact ⟨a, cell, h1, h2, fun U hU => h3 U (hv.trans hU)⟩
def zNcs : List (String × String) := [(eIS, eIA), (eAR, eIA), (eNS, eIA), (eNS, eAR)]
/-- the texts, and which exception isn't which -/
def zSt (U : State) : Prop := (∀ (k : Nat) (q : Nat × String), zXs[k]? = some q → ∃ sa : Nat, vk_R "MemberChooser" q.1 q.2 sa U) ∧ (∀ (k : Nat) (q : String × String), zNcs[k]? = some q → va_Nc q.1 q.2 U) ∧ ∀ (k : Nat) (q : String), [eIA, eIS, eAR, eNS][k]? = some q → va_Nw (.castable q q) U
theorem va_Nc.zmoved {C T : String} {u U : State} (h : va_Nc C T u) (hv : u.vm.Alike U.vm) : va_Nc C T U := by
  obtain ⟨c, t, h1, h2, h3⟩ := h
  exact ⟨c, t, by rw [hv.findClass]; exact h1, by rw [hv.findClass]; exact h2, by rw [hv.assignable]; exact h3⟩
theorem zSt.warm {s U : State} (h : zSt s) (hW : s.WarmedH U.vm) : zSt U := ⟨fun k q hq => (h.1 k q hq).imp fun _ z => vk_R.warm hW z, fun k q hq => va_Nc.zmoved (h.2.1 k q hq) hW.alike, fun k q hq => va_Nw.warmC hW (h.2.2 k q hq)⟩
theorem zSt.same {s U : State} (h : zSt s) (hv : s.vm = U.vm) : zSt U := ⟨fun k q hq => (h.1 k q hq).imp fun _ z => vk_R.same hv.symm z, fun k q hq => va_Nc.zmoved (h.2.1 k q hq) (by rw [hv]; exact Vm.Alike.refl _), fun k q hq => va_Nw.same rfl hv (h.2.2 k q hq)⟩
/-- start and end of a method that may throw -/
def zPx (z : zE) (av : List Value) (w : va_W) (sz : Nat) : Array Value → State → Prop := va_Pc av (fun U => U.heap.size = sz ∧ va_P z.1 vwCl w U.heap ∧ (va_K z.1 vwCl (zty z) U ∧ zN U ∧ zSt U ∧ zTh (va_A w sz) U.vm U.heap) ∧ va_D (fun _ => True) w)
theorem zz_blindX {z : zE} {av : List Value} {w : va_W} {sz : Nat} : FrameBlind (zPx z av w sz) := fun a U g mk q => by
  obtain ⟨q0, q1, qP, ⟨qK, qN, qS, qT⟩, qD⟩ := q
  exact ⟨q0, q1, qP, ⟨va_K.moved (u := U) (U := U.calling g mk a) (Vm.Alike.refl U.vm) qK, zN.same qN rfl, zSt.same qS rfl, qT⟩, qD⟩
def zXQ (z : zE) (A : Nat → Prop) (v : Value ⊕ String) (w' : va_W) (st : State) (oc : Outcome) (t : State) : Prop :=
  (va_P z.1 vwCl w' t.heap ∧ va_D A w' ∧ va_F A st t) ∧ (∀ x, v = .inl x → oc = .returned (some x)) ∧ ∀ E, v = .inr E → ∃ (q : Addr) (ce : Cell), oc = .threw q ∧ t.heap[q]? = some ce ∧ ce.vm = .none ∧ st.vm.findClass E = some ce.cls
def zXE (A : Nat → Prop) (st t : State) : Prop := st.WarmedH t.vm ∧ ∃ L : List Loc, st.sameButNew ({ t with vm := st.vm } : State) L 1 6 ∧ ∀ q ∈ L, A q.base
def zXM (z : zE) (below : List Frame) (s : State) (A : Nat → Prop) (v : Value ⊕ String) (w' : va_W) : State → Prop := fun t => ∃ o, t.status = .running ∧ Ended t below o ∧ zXQ z A v w' s o t ∧ zXE A s t
def zX (z : zE) (l : Launch) (y : MethodName) (ws : List Cond) (rm : Room) (av : List Value) (w : va_W) (v : Value ⊕ String) (w' : va_W) : Prop :=
  ∀ sz : Nat, MetFree l y (headSpec ws rm) (zPx z av w sz) (fun _ _ _ _ _ => True) (fun _ st o t => zXQ z (va_A w sz) v w' st o t ∧ zXE (va_A w sz) st t)
theorem zz_ofX {z : zE} {l : Launch} {y : MethodName} {cc : ByteArray} {maxL : Nat} {ret : Option FieldType} {rm : Room} {av : List Value} {w w' : va_W} {v : Value ⊕ String} (hy : plainName y.cls = true) (hnl : (lg_sl av).length ≤ maxL)
    (body : ∀ (p : Program) (e : Env) (s : State) (m : MethodId) (args : Array Value) (below : List Frame) (meth : Method) (c : Code) (A0 : Nat → Prop) (ls : Array Slot), zM z p s m args c cc maxL y.cls → zSt s → zTh A0 s.vm s.heap → (∀ x ∈ c.exceptionTable.toList, False) → meth.sig.returnType = ret → meth.locks = false → (∀ q : Nat, s.heap.size ≤ q → A0 q) →
      va_P z.1 vwCl w s.heap → va_D A0 w → lv_has ls maxL (lv_args 0 av) → W p l e rm s m args below meth c s.heap [] 0 0 (zXM z below s A0 v w') (F0 m 0 ls [])) : zX z l y (Cond.code y cc maxL ret :: zTb) rm av w v w' := by
  intro sz
  refine MetFree.of_bodyS (code := cc) (maxLocals := maxL) (ret := ret) hy ?_ ?_
  · intro args s m h hn
    obtain ⟨meth, c, h1, h2, h3, h4, h5, h6, -, -⟩ := Cond.code_spec hn (atoms_spec (ws := Cond.code y cc maxL ret :: zTb) h _ List.mem_cons_self)
    exact ⟨meth, c, h1, h2, h3, h4, h5, h6⟩
  · intro p e s m args below meth c s₁ B hml hv _
    have hts := atoms_spec (ws := Cond.code y cc maxL ret :: zTb) B.pre
    have hno : ∀ x ∈ c.exceptionTable.toList, False := fun x hx => by
      have he := B.noHandlers (hts _ List.mem_cons_self)
      rw [Array.isEmpty_iff.mp he] at hx
      cases hx
    obtain ⟨rfl, hsz, hP, ⟨hK, hN, hSt, hTh⟩, hD0⟩ := hv
    have hown : s.vm.findClass y.cls = some m.cls := findClass_of_methodNamed B.named
    subst hsz
    have hl := lv_entry av (n := maxL) hnl
    have hh0 : s₁.heap = s.heap := by rw [B.state]; rfl
    have K := body p e s m _ below meth c _ _ ⟨B.exec, B.bytes, hml, hown, fun w h => hts w (List.mem_cons_of_mem _ h), hK, hN⟩ hSt hTh hno B.returns B.notSynchronized (fun q h => Or.inr h) hP (hD0.self (sz := s.heap.size)) hl
    rw [← lg_entry_eq] at K
    obtain ⟨t, a1, o, b1, b2, b3⟩ := K s₁ hh0 (Stand.of_body B)
    exact ⟨t, o, a1, b1, b2, b3⟩
section ZTH
variable {z : zE} {p : Program} {l : Launch} {e : Env} {R : Room} {s : State} {m : MethodId} {args : Array Value} {below : List Frame} {meth : Method} {c : Code} {H : Heap} {locs : List Loc} {Q : State → Prop} {cc : ByteArray} {A0 : Nat → Prop} {pc cells slots : Nat} {ls : Array Slot} {w w' : va_W}
/-- the walk so far forgotten: the same body, as if it began here -/
theorem zz_rebase {T : State} (X : Stand p l e R s m args below meth c T locs cells slots) (hc : cells + 1 ≤ R.cells) (hs : slots + 6 ≤ R.slots) :
    Stand p l e { frames := R.frames, cells := 1, slots := 6, locals := R.locals } ((T.setVm s.vm).setFrames (.invoking m args :: below)) m args below meth c T [] 0 0 := by
  have htop : (T.setVm s.vm).topJava?.isSome := X.here.top
  have hF : ((T.setVm s.vm).setFrames (.invoking m args :: below)).frames = .invoking m args :: below := State.frames_setFrames _ (State.cur_lt_of_top htop)
  obtain ⟨g₀, hg0⟩ := Option.isSome_iff_exists.mp htop
  obtain ⟨r, hr⟩ := State.topJava?_eq_some.mp hg0
  have hli : e.platform.stackLimits (T.setVm s.vm).me = e.platform.stackLimits s.me := X.limits
  have hby : (T.setVm s.vm).me.stackBytes = s.me.stackBytes := X.bytes
  have hdrop : ((T.heap.toList.drop T.heap.size).map (·.slots.size)).sum = 0 := by rw [List.drop_eq_nil_of_le (Nat.le_of_eq Array.length_toList)]; rfl
  have hroom : ((T.setVm s.vm).setFrames (.invoking m args :: below)).hasRoom e.platform { frames := R.frames, cells := 1, slots := 6, locals := R.locals } = true := by
    have h := X.room
    have hU : ((T.setVm s.vm).setFrames (.invoking m args :: below)).localsInUse = s.localsInUse := by
      rw [State.localsInUse_invoking hF (meth := meth) (c := c) X.method X.code, State.localsInUse_invoking X.frames X.method X.code]
    have q1 := X.heapSize
    have q2 := X.used
    simp only [State.hasRoom, Bool.and_eq_true, decide_eq_true_eq] at h ⊢
    obtain ⟨⟨⟨⟨h1, h2, h3, h4, h5, h6⟩, h7⟩, h8⟩, h9⟩ := h
    rw [X.frames, List.length_cons] at h2 h3
    simp only [hF, hU, List.length_cons, State.stackLimits_setFrames, State.stackBytes_setFrames, hli, hby]
    refine ⟨⟨⟨⟨by omega, by omega, by omega, by omega, by omega, h6⟩, ?_⟩, ?_⟩, X.book⟩
    · show T.heap.size + 1 ≤ e.platform.maxCells
      omega
    · show T.slotsUsed + 6 ≤ e.platform.maxSlots
      omega
  refine ⟨X.admits, X.cas, X.clock, hF, hroom, X.hears, X.method, X.code, X.here, X.tail, X.warmed, by rw [State.stackLimits_setFrames]; rfl, by rw [State.stackBytes_setFrames]; rfl, ?_⟩
  refine ⟨?_, Nat.le_refl _, Nat.le_refl _, ?_, Nat.le_of_eq hdrop, fun a cell h => ⟨cell, h, rfl, rfl, fun _ _ => rfl⟩⟩
  · obtain ⟨t, ht, -⟩ := State.frames_cons hr
    show T.setVm s.vm = { ((T.setVm s.vm).setFrames (.invoking m args :: below)).setFrames (T.setVm s.vm).frames with heap := T.heap, slotsUsed := T.slotsUsed }
    rw [State.setFrames_setFrames, State.setFrames_self ht]
    rfl
  · show T.slotsUsed = T.slotsUsed + ((T.heap.toList.drop T.heap.size).map (·.slots.size)).sum
    rw [hdrop]
    rfl
theorem zz_oldcells {U : State} {k n : Nat} (h : s.sameButNew ({ U with vm := s.vm } : State) [] k n) : s.heap.size ≤ U.heap.size ∧ ∀ q : Nat, q < s.heap.size → U.heap[q]? = s.heap[q]? := by
  obtain ⟨-, h2, -, -, -, h6⟩ := h
  refine ⟨h2, fun q hq => ?_⟩
  obtain ⟨cell, e1, e2, -, e4⟩ := h6 q _ (Array.getElem?_eq_getElem hq)
  have hs : cell.slots = (s.heap[q]).slots := Array.ext_getElem? fun i => e4 i (fun hm => by cases hm)
  have h9 : cell = s.heap[q] := by rw [hs] at e2; exact e2
  have e5 : U.heap[q]? = some cell := e1
  rw [e5, h9, Array.getElem?_eq_getElem hq]
/-- the words of one throw: Throwable's, the first constructor's own link, the two above it -/
def zAt (ic : Nat) (cls : String) (idx : Nat) (bytes : ByteArray) : List Cond := Bundle.throwableAtoms ++ (Bundle.throwableSAtoms ++ (Bundle.passSAtoms cls "java/lang/RuntimeException" idx bytes ++ (Bundle.chainSAtoms "java/lang/RuntimeException" ["java/lang/Exception"] ++
  [.methodLink "MemberChooser" ic (Bundle.initS cls), .instantiable cls 6, .selects cls Bundle.tFill0 Bundle.tFill0, .selects cls Bundle.tFill Bundle.tFill, .lays cls Bundle.tN "cause" "Ljava/lang/Throwable;", .lays cls Bundle.tN "stackTrace" Bundle.steD, .lays cls Bundle.tN "suppressedExceptions" Bundle.listD, .lays cls Bundle.tN "detailMessage" "Ljava/lang/String;",
   .isRef (.static Bundle.tN "UNASSIGNED_STACK" Bundle.steD), .isRef (.static Bundle.tN "SUPPRESSED_SENTINEL" Bundle.listD), .fieldLink Bundle.tN 198 Bundle.tN "backtrace" "Ljava/lang/Object;", .lays Bundle.tN Bundle.tN "backtrace" "Ljava/lang/Object;", .lays cls Bundle.tN "backtrace" "Ljava/lang/Object;"])))
set_option maxHeartbeats 2000000 in
theorem zz_ctor {T' : State} (X : Stand p l e R s m args below meth c T' locs cells slots) (hexec : p.tables.exec = Jvm.exec) (htr : e.platform.stackTraces = false) {cls : String} {ic idx : Nat} {bytes : ByteArray}
    (hown : s.vm.findClass "MemberChooser" = some m.cls) (hcls : Bundle.fit cls = true) (h : ∀ a ∈ zAt ic cls idx bytes, a.before args s = true)
    (b0 : decode bytes 0 = .ok (.aload_n 0, 1)) (b1 : decode bytes 1 = .ok (.aload_n 1, 1)) (b2 : decode bytes 2 = .ok (.invokespecial idx, 3)) (b5 : decode bytes 5 = .ok (.return_, 1))
    (hlocs : ∀ x ∈ locs, ∀ cell, s.heap[x.base]? = some cell → cell.vm.isStatics = false)
    {a : Addr} {cX : ClassId} {kX : Class} (hfoundX : s.vm.findClass cls = some cX) (hkX : s.vm.classes[cX]? = some kX) (hcell : T'.heap[a]? = some (freshCell cX kX)) (hnew : s.heap.size ≤ a) {msg : Value} (hmsg : msg.isRef = true)
    {g : JFrame} (hg : g.method = m) (hsize : g.locals.size = c.maxLocals) (hlocked : g.locked = none) (hentered : g.entered = []) {rest : List Value} (hstack : g.stack = msg :: .ref a :: .ref a :: rest)
    (hd6 : decode c.code g.pc = .ok (.invokespecial ic, 3)) (hd9 : decode c.code (g.pc + 3) = .ok (.athrow, 1)) (hout : ∀ x ∈ c.exceptionTable.toList, covers x (g.pc + 3) = false)
    (hRframes : 5 < R.frames) (hRlocals : 2 * g.monitorRoom + ((Value.ref a :: rest).map fun v => v.category).sum + 81 ≤ R.locals) (hlocks : meth.locks = false) :
    ∃ U : State, Steps p.tables e below (T'.setTop g) U ∧ U.status = .running ∧ Ended U below (.threw a) ∧ s.WarmedH U.vm ∧ s.sameButNew ({ U with vm := s.vm } : State) locs cells slots ∧ ∃ ce, U.heap[a]? = some ce ∧ ce.vm = .none ∧ s.vm.findClass cls = some ce.cls := by
  have howns : e.platform.frameOwnsMonitors = true := by rw [X.admits.platform]
  have hfin : e.platform.finalization = false := by rw [X.admits.platform]
  have hpl : e.platform.magicAccessors = ({} : Platform).magicAccessors := by rw [X.admits.platform]
  have k1 : ∀ x, x ∈ Bundle.throwableAtoms → x.before args s = true := fun x hx => h x (by unfold zAt; simp [hx])
  have k2 : ∀ x, x ∈ Bundle.throwableSAtoms → x.before args s = true := fun x hx => h x (by unfold zAt; simp [hx])
  have k3 : ∀ x, x ∈ Bundle.passSAtoms cls "java/lang/RuntimeException" idx bytes → x.before args s = true := fun x hx => h x (by unfold zAt; simp [hx])
  have k4 : ∀ x, x ∈ Bundle.chainSAtoms "java/lang/RuntimeException" ["java/lang/Exception"] → x.before args s = true := fun x hx => h x (by unfold zAt; simp [hx])
  have a' : ∀ x, x ∈ zAt ic cls idx bytes → x.holds args s none s [] = true := fun x hx => h x hx
  obtain ⟨T, Z0, L, -, Y⟩ := ThrowableC.of_atoms (args := args) howns hfin hpl k1
  obtain ⟨Z, M, LZ, LM, hnZ⟩ := Init0T.ofS_atoms (args := args) hpl L Y k2
  obtain ⟨P1, L1, hP1m, hP1s⟩ := PassC.ofS_atoms (args := args) (s := s) hpl (X := cls) (Y := "java/lang/RuntimeException") (Bundle.fit_spec hcls).1 (by decide) b0 b1 b2 b5 k3
  obtain ⟨P2, Ps, hlen, L2, hL, hP2m, hlink2, hlink⟩ := Bundle.chainS (args := args) hpl hnZ ["java/lang/Exception"] "java/lang/RuntimeException" (by decide +kernel) (by decide +kernel) k4
  have hlink1 : P1.sup = P2.m := Option.some.inj (hP1s.symm.trans hP2m)
  have hfound : s.vm.findClass cls = some P1.m.cls := findClass_of_methodNamed hP1m
  cases Option.some.inj (hfoundX.symm.trans hfound)
  obtain ⟨c1, kX', hc1, hk, hord, -, -, -⟩ := Cond.instantiable_spec (a' (.instantiable cls 6) (by simp [zAt]))
  cases Option.some.inj (hc1.symm.trans hfound)
  cases Option.some.inj (hkX.symm.trans hk)
  have hsel0 : selectMethod e.platform s.vm P1.m.cls T.fill0 = .method T.fill0 := by
    obtain ⟨c2, r2, m2, q1, q2, q3, q4, -⟩ := Cond.selects_spec (a' (.selects cls Bundle.tFill0 Bundle.tFill0) (by simp [zAt]))
    cases Option.some.inj (q1.symm.trans hfound)
    cases Option.some.inj (q2.symm.trans (State.methodFound?_of_named Y.fill0 (by decide)))
    cases Option.some.inj (q3.symm.trans Y.fill0)
    rw [Launch.admits_selectMethod X.admits]; exact q4
  have hselF : selectMethod e.platform s.vm P1.m.cls T.fill = .method T.fill := by
    obtain ⟨c2, r2, m2, q1, q2, q3, q4, -⟩ := Cond.selects_spec (a' (.selects cls Bundle.tFill Bundle.tFill) (by simp [zAt]))
    cases Option.some.inj (q1.symm.trans hfound)
    cases Option.some.inj (q2.symm.trans (State.methodFound?_of_named Y.fill (by decide)))
    cases Option.some.inj (q3.symm.trans Y.fill)
    rw [Launch.admits_selectMethod X.admits]; exact q4
  obtain ⟨cellS0, hcS0, hiss⟩ := Y.statics
  obtain ⟨u0, hu0⟩ := Cond.staticRefV Y.unassigned L.unassignedStatic L.statics hcS0 hiss (a' (.isRef (.static Bundle.tN "UNASSIGNED_STACK" Bundle.steD)) (by simp [zAt]))
  obtain ⟨sen, hsen⟩ := Cond.staticRefV Y.sentinel L.sentinelStatic L.statics hcS0 hiss (a' (.isRef (.static Bundle.tN "SUPPRESSED_SENTINEL" Bundle.listD)) (by simp [zAt]))
  obtain ⟨ci198, i198, fB, hk198, hg198, ha198, hsB, -, hnB, htB, hffB⟩ := Cond.ownField (t := .object "java/lang/Object") Y.found L.cls (by decide +kernel) (a' (.fieldLink Bundle.tN 198 Bundle.tN "backtrace" "Ljava/lang/Object;") (by simp [zAt])) (a' (.lays Bundle.tN Bundle.tN "backtrace" "Ljava/lang/Object;") (by simp [zAt])) e.platform hpl
  obtain ⟨cellS, hcS', heS, -, hkeep⟩ := X.same.2.2.2.2.2 T.aS cellS0 hcS0
  have hcellS : T'.heap[T.aS]? = some cellS := hcS'
  have hout' : ∀ i, (⟨T.aS, i⟩ : Loc) ∉ locs := fun i hmem => by
    have := hlocs _ hmem cellS0 hcS0
    rw [hiss] at this; cases this
  have hknownS : cellS.vm ≠ .unknown := by
    rw [heS]; intro hu
    rw [show cellS0.vm = .unknown from hu] at hiss
    cases hiss
  have hneS : T.aS ≠ a := Nat.ne_of_lt (Nat.lt_of_lt_of_le (Array.getElem?_eq_some_iff.mp hcS0).1 hnew)
  obtain ⟨iM, hffM⟩ := Y.msg
  obtain ⟨tyC, dC, hdC, hdnC⟩ := Cond.laysAt hfound hk Y.cause (a' (.lays cls Bundle.tN "cause" "Ljava/lang/Throwable;") (by simp [zAt]))
  obtain ⟨tyS, dS, hdS, hdnS⟩ := Cond.laysAt hfound hk Y.stack (a' (.lays cls Bundle.tN "stackTrace" Bundle.steD) (by simp [zAt]))
  obtain ⟨tyP, dP, hdP, hdnP⟩ := Cond.laysAt hfound hk Y.supp (a' (.lays cls Bundle.tN "suppressedExceptions" Bundle.listD) (by simp [zAt]))
  obtain ⟨tyM, dM, hdM, hdnM⟩ := Cond.laysAt hfound hk hffM (a' (.lays cls Bundle.tN "detailMessage" "Ljava/lang/String;") (by simp [zAt]))
  obtain ⟨tyB, dB, hdB, hdnB⟩ := Cond.laysAt hfound hk hffB (a' (.lays cls Bundle.tN "backtrace" "Ljava/lang/Object;") (by simp [zAt]))
  have bC := Cond.laysApart hdB hdC hdnB hdnC (by rw [hnB, Y.causeName]; decide)
  have bS := Cond.laysApart hdB hdS hdnB hdnS (by rw [hnB, Y.stackName]; decide)
  have bP := Cond.laysApart hdB hdP hdnB hdnP (by rw [hnB, Y.suppName]; decide)
  have hskip : SkipFacts T e.platform s (fun u => u) u0 ((preparedCellV T.toThrowableT (freshCell P1.m.cls kX) a u0 sen).withEntry T'.cur) :=
    ⟨{ ci198 := ci198, i198 := i198, fBack := fB }, ⟨hk198, hg198, ha198, hsB⟩, by
      have := fresh_default (c := P1.m.cls) tyB
      rw [htB] at this
      simpa [preparedCellV, Cell.setSlot, Cell.withEntry, Array.getElem?_setIfInBounds, bC, bS, bP, bC.symm, bS.symm, bP.symm, defaultValue] using this, fun _ _ => rfl⟩
  obtain ⟨tm, methC, cdC, kC, vm₁, hnC, -, -, -, -, -, -, -, hW₁, st1⟩ := Steps.initColdS (tb := p.tables) (e := e) (below := below) (s := s) (U := T') X.here hexec X.warmed hpl hown (t := Bundle.initS cls) rfl rfl (Bundle.fit_spec hcls).2
    (a' (.methodLink "MemberChooser" ic (Bundle.initS cls)) (by simp [zAt])) (k3 (.instanceMethod (Bundle.initS cls)) (by simp [Bundle.passSAtoms])) (bytes := bytes) (maxL := 2) (k3 (.code (Bundle.initS cls) bytes 2 none) (by simp [Bundle.passSAtoms]))
    (f := g) hg (a := a) (msg := msg) (rest := .ref a :: rest) hstack hd6
  cases Option.some.inj (hnC.symm.trans hP1m)
  have X₁ := X.noted hW₁
  have hl1 : Ps.length = 1 := hlen
  obtain ⟨vm₂, X₂, st2⟩ := X₁.ctorMessageOffV hexec (g := { g with stack := .ref a :: rest }) hg hsize T L Z LZ M LM (P1 :: P2 :: Ps)
    (fun P hP => by rcases List.mem_cons.mp hP with rfl | hP; exact L1; rcases List.mem_cons.mp hP with rfl | hP; exact L2; exact hL P hP) ⟨hlink1, hlink2, hlink⟩ (u0 := u0) (sen := sen) (self := a) hmsg (cell := freshCell P1.m.cls kX) (cellS := cellS)
    hcell (fun _ => by simp) (by simp) rfl rfl hsel0 hselF hcellS hneS hknownS (by rw [hkeep _ (hout' _)]; exact hu0) (by rw [hkeep _ (hout' _)]; exact hsen)
    (Takes.of_laid hk hord tyC (by rw [Y.causeType]; rfl)) (Takes.of_laid hk hord tyS (by rw [Y.stackType]; exact fits_refV_array _ u0)) (Takes.of_laid hk hord tyP (by rw [Y.suppType]; exact fits_refV_object _ sen))
    (Takes.of_laid hk hord tyM (by rw [Y.msgType]; exact fits_refV_object _ ⟨msg, hmsg⟩)) Y.objLocals hskip htr [] hd6
    (by simp only [List.length_cons, hl1]; omega) (by simp only [List.length_cons, hl1]; exact hRlocals)
  obtain ⟨hwalk, hrun, hended, hWU, hsame⟩ := X₂.athrowLeaves hexec (g := { g with stack := .ref a :: rest, pc := g.pc + 3 }) hg hlocked hentered hout (a := a) (rest := rest) rfl hd9
  have hlt : a < ((T'.setVm vm₁).setVm vm₂).heap.size := (Array.getElem?_eq_some_iff.mp hcell).1
  have hU := heapAt_setCell_self (s := (T'.setVm vm₁).setVm vm₂) (plainBareV T.toThrowableT (freshCell P1.m.cls kX) a u0 sen msg) hlt
  refine ⟨_, st1 _ (fun acts => ?_), hrun, hended, hWU, hsame.weaken (fun y hy hlt' => ?_) (Nat.le_refl _) (Nat.le_refl _), _, hU, rfl, hfound⟩
  · rw [doInvoke_state]
    exact st2 _ hwalk
  · rcases List.mem_append.mp hy with h1 | h1
    · exact h1
    · exfalso
      have hb : y.base = a := by
        simp only [List.mem_cons, List.not_mem_nil, or_false] at h1
        rcases h1 with rfl | rfl | rfl | rfl | rfl <;> rfl
      rw [hb] at hlt'
      exact Nat.not_lt.mpr hnew hlt'
/-- 'throw new E("..")': new; dup; ldc; invokespecial; athrow -/
theorem zz_throw {cls text : String} {ik is ic k idx : Nat} {bytes : ByteArray} {rest : List Value} (hx : p.tables.exec = Jvm.exec) (hb : c.code = cc) (hl0 : l.stackTraces = false) (hown : s.vm.findClass "MemberChooser" = some m.cls) (hts : ∀ w ∈ zTb, w.before args s = true) (hSt : zSt s) (hTh : zTh A0 s.vm s.heap) (hno : ∀ x ∈ c.exceptionTable.toList, False)
    (hfit : Bundle.fit cls = true) (hk : Cond.classLink "MemberChooser" ik cls ∈ zTb) (hini : Cond.initialized cls ∈ zTb) (hins : Cond.instantiable cls 6 ∈ zTb) (hat : (∀ w ∈ zAt ic cls idx bytes, w ∈ zTb ∨ w ∈ zXw) ∧ decode bytes 0 = .ok (.aload_n 0, 1) ∧ decode bytes 1 = .ok (.aload_n 1, 1) ∧ decode bytes 2 = .ok (.invokespecial idx, 3) ∧ decode bytes 5 = .ok (.return_, 1)) (hstr : zXs[k]? = some (is, text))
    (hP : va_P z.1 vwCl w H) (hD : va_D A0 w) (hS : va_S A0 s.heap H locs) (hsize : ls.size = c.maxLocals) (hlocks : meth.locks = false)
    (d0 : decode cc pc = .ok (.new ik, 3)) (d3 : decode cc (pc + 3) = .ok (.dup, 1)) (d4 : decode cc (pc + 4) = .ok (.ldc is, 2)) (d6 : decode cc (pc + 6) = .ok (.invokespecial ic, 3)) (d9 : decode cc (pc + 9) = .ok (.athrow, 1))
    (hRf : 6 ≤ R.frames) (hRl : (rest.map fun v => v.category).sum + 82 ≤ R.locals) (hRc : cells + 1 ≤ R.cells) (hRs : slots + 6 ≤ R.slots) (hc0 : cells + 1 ≤ 1) (hs0 : slots + 6 ≤ 6) :
    W p l e R s m args below meth c H locs cells slots (zXM z below s A0 (.inr cls) w) (F0 m pc ls rest) := by
  intro T hT X
  have htr : e.platform.stackTraces = false := (show e.platform.stackTraces = l.stackTraces by rw [X.admits.platform]).trans hl0
  have Y := zz_rebase X hRc hRs
  obtain ⟨s', hA⟩ : ∃ q, q = (T.setVm s.vm).setFrames (.invoking m args :: below) := ⟨_, rfl⟩
  rw [← hA] at Y
  have hvm : s'.vm = s.vm := by rw [hA]; rfl
  have hhp : s'.heap = H := by rw [hA]; exact hT
  have hW0 : s.WarmedH s'.vm := by rw [hvm]; exact State.WarmedH.refl s
  have hgood : ∀ w ∈ zTb, w.before args s' = true := fun w hw => word_at hW0 (zz_good hw).2 (hts w hw)
  have hxw : ∀ w ∈ zXw, w.before args s' = true := by
    obtain ⟨a, cell, h1, h2, h3⟩ := hTh.kept hS.2.1
    exact fun w hw => h3 s' (by rw [hvm]; exact Vm.Alike.refl _) (by rw [hhp]; exact h1) w hw args
  have h : ∀ w ∈ zAt ic cls idx bytes, w.before args s' = true := fun w hw => (hat.1 w hw).elim (hgood w) (hxw w)
  obtain ⟨sa, hstr⟩ := hSt.1 k _ hstr
  have hstr' : vk_R "MemberChooser" is text sa s' := vk_R.warm hW0 hstr
  have hown' : s'.vm.findClass "MemberChooser" = some m.cls := by rw [hvm]; exact hown
  obtain ⟨vm₁, cX, kX, hfX, hkX, -, -, X₁, st1⟩ := Y.newCold hx (own := "MemberChooser") (C := cls) (index := ik) (n := 6) hown' (hgood _ hk) (hgood _ hins) (hgood _ hini)
    (g := F0 m pc ls rest) rfl (by rw [hb]; exact d0) (Nat.le_refl _) (Nat.le_refl _)
  generalize hT1 : (T.setVm vm₁).pushCell { cls := cX, slots := kX.instanceTypes.map defaultValue, vm := .none } = T1 at X₁ st1
  have hcell : T1.heap[T.heap.size]? = some (freshCell cX kX) := by rw [← hT1]; exact State.heap_pushCell_size _ _
  have hcat : (Value.ref T.heap.size).category = 1 := rfl
  have d3' : decode c.code (pc + 3) = .ok (.dup, 1) := by rw [hb]; exact d3
  obtain ⟨U, hsteps, hrun, hend, hW, hsame, ce, hce, hO, hO2⟩ := zz_ctor X₁ hx htr (cls := cls) (ic := ic) hown' hfit h hat.2.1 hat.2.2.1 hat.2.2.2.1 hat.2.2.2.2 (fun x hx => nomatch hx) hfX hkX hcell (by rw [hhp, hT]; exact Nat.le_refl _) (msg := .ref sa) rfl
    (g := { method := m, pc := pc + 6, locals := ls, stack := .ref sa :: .ref T.heap.size :: .ref T.heap.size :: rest, locked := none }) rfl hsize rfl rfl (rest := rest) rfl
    (by rw [hb]; exact d6) (by rw [hb]; exact d9) (fun x hx => (hno x hx).elim) (by show 5 < R.frames; omega) (by simp only [List.map_cons, List.sum_cons, hcat]; show 0 + (1 + _) + 81 ≤ R.locals; omega) hlocks
  obtain ⟨f1, f2⟩ := zz_oldcells hsame
  rw [hhp] at f1 f2
  have hWs : s.WarmedH U.vm := State.WarmedH.trans hW0 hW
  have hcl : s.vm.findClass cls = some ce.cls := by rw [hvm] at hO2; exact hO2
  have hall : s.sameButNew ({ U with vm := s.vm } : State) locs 1 6 := by
    subst hA
    obtain ⟨e1, e2⟩ := hsame
    rw [State.setFrames_setFrames] at e1
    have h2 : (T.setVm s.vm).sameButNew ({ U with vm := s.vm } : State) [] (0 + 1) (0 + 6) := ⟨e1, e2⟩
    have h3 := X.same.trans h2
    rw [List.append_nil] at h3
    exact h3.mono (by omega) (by omega)
  refine ⟨U, ?_, .threw T.heap.size, hrun, hend, ⟨⟨hP.kept (fun k x hx => f2 x.1 ((hP k x hx).lt)), hD, Nat.le_trans hS.1 f1, fun q h1 h2 => (f2 q (Nat.lt_of_lt_of_le h1 hS.1)).trans (hS.2.1 q h1 h2)⟩, fun x hx => (by cases hx), fun E hE => ?_⟩, hWs, locs, hall, hS.2.2⟩
  · refine st1 _ ?_
    show Steps p.tables e below (T1.setTop { method := m, pc := pc + 3, locals := ls, stack := .ref T.heap.size :: rest, locked := none }) _
    jvm_step X₁.here [X₁.here.top, hx, d3', Value.category]
    exact X₁.ldcString hx (own := "MemberChooser") (text := text) (index := is) (a := sa) hown' hstr'.1 hstr'.2 (g := { method := m, pc := pc + 4, locals := ls, stack := .ref T.heap.size :: .ref T.heap.size :: rest, locked := none }) rfl (by rw [hb]; exact d4) _ hsteps
  · cases hE
    exact ⟨T.heap.size, ce, rfl, hce, hO, hcl⟩
theorem zz_mono {Q' : State → Prop} {g : JFrame} (hq : ∀ t, Q t → Q' t) (k : W p l e R s m args below meth c H locs cells slots Q g) : W p l e R s m args below meth c H locs cells slots Q' g := fun T hT X => by
  obtain ⟨t, a, b⟩ := k T hT X
  exact ⟨t, a, hq t b⟩
theorem zz_xret {σ : Type} {S : σ} {v : Int32} (wf : σ → va_W) (hx : p.tables.exec = Jvm.exec) (hb : c.code = cc) (hr : meth.sig.returnType = some .int) (hlocks : meth.locks = false) (hP : va_P z.1 vwCl (wf S) H) (hD : va_D A0 (wf S)) (hS : va_S A0 s.heap H locs) (hc : cells ≤ 1) (hs : slots ≤ 6) (hdg : decode cc pc = .ok (.ireturn, 1)) :
    W p l e R s m args below meth c H locs cells slots (zXM z below s A0 (.inl (.int v)) (wf S)) (F0 m pc ls [.int v]) := by
  refine zz_mono (Q := MQ below (zQc z A0 (some (.int v)) (wf S)) args s 1 6 A0) (fun t ht => ?_) (W.widen hc hs (W.iret hx hb hr (fun t ht hW => ⟨⟨rfl, by rw [ht]; exact hP, hD⟩, hS.F ht⟩) hS.2.2 hdg hlocks))
  obtain ⟨o, h1, h2, ⟨⟨h3, h4, h5⟩, h6⟩, L, ⟨_, h8, h9⟩, h10⟩ := ht
  exact ⟨o, h1, h2, ⟨⟨h4, h5, h6⟩, fun x hx => (by cases hx; exact h3), fun E hE => (by cases hE)⟩, h8, L, h9, h10⟩
end ZTH
def zEx : Int32 ⊕ Nat → Value ⊕ String
  | .inl v => .inl (.int v)
  | .inr 1 => .inr eIA
  | .inr 2 => .inr eIS
  | .inr 3 => .inr eAR
  | .inr _ => .inr eNS
theorem ox_139 : (∀ w ∈ zAt 139 "java/lang/ArithmeticException" 7 prog_8_method_2_code, w ∈ zTb ∨ w ∈ zXw) ∧ decode prog_8_method_2_code 0 = .ok (.aload_n 0, 1) ∧ decode prog_8_method_2_code 1 = .ok (.aload_n 1, 1) ∧ decode prog_8_method_2_code 2 = .ok (.invokespecial 7, 3) ∧ decode prog_8_method_2_code 5 = .ok (.return_, 1) := ⟨by decide +kernel, by decide +kernel, by decide +kernel, by decide +kernel, by decide +kernel⟩
theorem ox_54 : (∀ w ∈ zAt 54 "java/lang/IllegalArgumentException" 7 prog_10_method_2_code, w ∈ zTb ∨ w ∈ zXw) ∧ decode prog_10_method_2_code 0 = .ok (.aload_n 0, 1) ∧ decode prog_10_method_2_code 1 = .ok (.aload_n 1, 1) ∧ decode prog_10_method_2_code 2 = .ok (.invokespecial 7, 3) ∧ decode prog_10_method_2_code 5 = .ok (.return_, 1) := ⟨by decide +kernel, by decide +kernel, by decide +kernel, by decide +kernel, by decide +kernel⟩
theorem ox_65 : (∀ w ∈ zAt 65 "java/lang/IllegalStateException" 7 prog_11_method_2_code, w ∈ zTb ∨ w ∈ zXw) ∧ decode prog_11_method_2_code 0 = .ok (.aload_n 0, 1) ∧ decode prog_11_method_2_code 1 = .ok (.aload_n 1, 1) ∧ decode prog_11_method_2_code 2 = .ok (.invokespecial 7, 3) ∧ decode prog_11_method_2_code 5 = .ok (.return_, 1) := ⟨by decide +kernel, by decide +kernel, by decide +kernel, by decide +kernel, by decide +kernel⟩
theorem ox_144 : (∀ w ∈ zAt 144 "java/util/NoSuchElementException" 13 prog_17_method_4_code, w ∈ zTb ∨ w ∈ zXw) ∧ decode prog_17_method_4_code 0 = .ok (.aload_n 0, 1) ∧ decode prog_17_method_4_code 1 = .ok (.aload_n 1, 1) ∧ decode prog_17_method_4_code 2 = .ok (.invokespecial 13, 3) ∧ decode prog_17_method_4_code 5 = .ok (.return_, 1) := ⟨by decide +kernel, by decide +kernel, by decide +kernel, by decide +kernel, by decide +kernel⟩
