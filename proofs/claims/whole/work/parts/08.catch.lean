/-! OWN LAYER: calls of a method that may throw, and what is caught -/
def zcase {α β γ : Type} (r : α ⊕ β) (f : α → Option γ) (g : β → Option γ) : Option γ := match r with
  | .inl a => f a
  | .inr b => g b
/-- a contract with new cells: mc of ms slots -/
def zK (z : zE) (l : Launch) (y : MethodName) (ws : List Cond) (rm : Room) (av : List Value) (w : va_W) (v : Option Value) (w' : va_W) (mc ms : Nat) : Prop :=
  ∀ sz : Nat, Met l y ws rm (zPx z av w sz) (zQc z (va_A w sz) v w') mc ms (va_A w sz)
theorem zX.met {z : zE} {l : Launch} {y : MethodName} {ws : List Cond} {rm : Room} {av : List Value} {w w' : va_W} {x : Value} (h : zX z l y ws rm av w (.inl x) w') : zK z l y ws rm av w (some x) w' 1 6 := by
  intro sz
  refine MetFree.mono (h sz) (fun _ _ q => q) (fun _ _ _ _ _ q => q) ?_
  rintro a st o t - ⟨⟨⟨h1, h2, h3⟩, h4, -⟩, h5, L, h6, h7⟩
  exact ⟨⟨⟨h4 x rfl, h1, h2⟩, h3⟩, L, ⟨⟨_, h4 x rfl⟩, h5, h6⟩, h7⟩
section ZCA
variable {z : zE} {p : Program} {l : Launch} {e : Env} {R : Room} {s : State} {m : MethodId} {args : Array Value} {below : List Frame} {meth : Method} {c : Code} {H : Heap} {locs : List Loc} {Q : State → Prop} {cc : ByteArray} {A0 : Nat → Prop} {pc cells slots : Nat} {ls : Array Slot} {w w' : va_W} {H0 : Heap}
theorem zz_goN {v : Option Value} {rest st0 : List Value} {a : Array Value} {mc ms : Nat} (hr : va_Run p l e R s m args below meth c H locs cells slots mc ms (F0 m pc ls st0) rest (zQc z (va_A w H.size) v w' a) (va_A w H.size)) (hD : va_D A0 w) (hS : va_S A0 H0 H locs) (hA : ∀ q : Nat, H0.size ≤ q → A0 q)
    (kk : ∀ (H1 : Heap) (locs1 : List Loc), va_P z.1 vwCl w' H1 → va_D A0 w' → va_S A0 H0 H1 locs1 → W p l e R s m args below meth c H1 locs1 (cells + mc) (slots + ms) Q (F0 m (pc + 3) ls (v.toList ++ rest))) : W p l e R s m args below meth c H locs cells slots Q (F0 m pc ls st0) := by
  have hF : ∀ q : Nat, va_A w H.size q → A0 q := fun q h => by
    rcases h with ⟨k, x, h⟩ | h
    · exact hD.2 k (q, x) h
    · exact hA q (Nat.le_trans hS.1 h)
  intro T hT X
  obtain ⟨v', st₀, t, T', L, h0, X', hL, e1, e2, ⟨⟨hv, hp, hd⟩, hz, hk⟩, st⟩ := hr T hT X
  cases hv
  rw [h0] at hz hk
  obtain ⟨t2, a1, b1⟩ := kk T'.heap (locs ++ L) (by rw [e1]; exact hp) (hd.weaken (fun _ q _ h => hF q.1 h))
    ⟨Nat.le_trans hS.1 (by rw [e1]; exact hz), fun q h1 h2 => by rw [e1, hk q (Nat.lt_of_lt_of_le h1 hS.1) (fun z => h2 (hF q z))]; exact hS.2.1 q h1 h2, fun q hq => by
      rcases List.mem_append.mp hq with h | h
      · exact hS.2.2 q h
      · exact hF _ (hL q h)⟩ T' rfl X'
  exact ⟨t2, st t2 a1, b1⟩
theorem zz_preX {sz : Nat} {av : List Value} (hK : va_K z.1 vwCl (zty z) s) (hN : zN s) (hSt : zSt s) (hTh : zTh A0 s.vm s.heap) (hP : va_P z.1 vwCl w H) (hD : va_D A0 w) (hS : va_S A0 s.heap H locs) (hA : ∀ q : Nat, s.heap.size ≤ q → A0 q) (hsz : sz = H.size) : ∀ U : State, U.heap = H → s.WarmedH U.vm → zPx z av w sz av.toArray U := by
  intro U hU hW
  refine ⟨rfl, by rw [hU, hsz], by rw [hU]; exact hP, ⟨va_K.moved hW.alike hK, hN.warm hW, hSt.warm hW, ?_⟩, hD.weaken (fun _ _ _ _ => trivial)⟩
  rw [hU]
  refine ((hTh.kept hS.2.1).moved hW.alike).narrow (fun q h => ?_)
  subst hsz
  rcases h with ⟨k, x, h⟩ | h
  · exact hD.2 k (q, x) h
  · exact hA q (Nat.le_trans hS.1 h)
variable {y : MethodName} {bytes : ByteArray} {maxL nL n index mc ms : Nat} {ret : Option FieldType} {ws : List Cond} {rm : Room} {Ts : List Cond} {own C host : String} {b : Addr} {As rest st0 : List Value} {v : Option Value}
theorem zz_runVK (hM : zK z l y ws rm (.ref b :: As) w v w' mc ms) (S : CallFix p m c cc nL s args Ts own) (cw : CallW R s args own C index y bytes maxL ret ws rm mc ms n) (hp : ∀ U : State, U.heap = H → s.WarmedH U.vm → zPx z (.ref b :: As) w H.size (Value.ref b :: As).toArray U) (hrecv : ∃ cell : Cell, H[b]? = some cell ∧ cell.vm.isStatics = false ∧ s.vm.findClass C = some cell.cls)
    (hn : As.length = n) (hsize : ls.size = nL) (hstack : st0 = As.reverse ++ .ref b :: rest) (hW : (rest.map fun v => v.category).sum ≤ 8) (hdg : decode cc pc = .ok (.invokevirtual index, 3)) (hf : cells + mc ≤ R.cells ∧ slots + ms ≤ R.slots) :
    va_Run p l e R s m args below meth c H locs cells slots mc ms (F0 m pc ls st0) rest (zQc z (va_A w H.size) v w' (Value.ref b :: As).toArray) (va_A w H.size) :=
  va_runV S (hM H.size) cw ⟨zz_blindX, hrecv, hp⟩ rfl hn hsize hstack (lv_room hW) hdg hf
/-- a call that throws, and the row of the table that catches it -/
theorem zz_callT {E : String} {hpc : Nat} (hM : zX z l y ws rm (.ref b :: As) w (.inr E) w') (S : CallFix p m c cc nL s args Ts own) (cw : CallW R s args own C index y bytes maxL ret ws rm 1 6 n) (hp : ∀ U : State, U.heap = H → s.WarmedH U.vm → zPx z (.ref b :: As) w H.size (Value.ref b :: As).toArray U) (hrecv : ∃ cell : Cell, H[b]? = some cell ∧ cell.vm.isStatics = false ∧ s.vm.findClass C = some cell.cls)
    (hn : As.length = n) (hsize : ls.size = nL) (hstack : st0 = As.reverse ++ .ref b :: rest) (hW : (rest.map fun v => v.category).sum ≤ 8) (hdg : decode cc pc = .ok (.invokevirtual index, 3)) (hf : cells + 1 ≤ R.cells ∧ slots + 6 ≤ R.slots)
    (hD : va_D A0 w) (hS : va_S A0 H0 H locs) (hA : ∀ q : Nat, H0.size ≤ q → A0 q)
    (pre : List ExceptionTableEntry) (x : ExceptionTableEntry) (suf : List ExceptionTableEntry) (hsplit : c.exceptionTable.toList = pre ++ x :: suf) (hpc' : x.handlerPc = hpc)
    (hpass : ∀ r ∈ pre, r.catchType ≠ 0 ∧ ∃ nm : String, (Cond.classLink own r.catchType nm).before args s = true ∧ va_Nc E nm s) (hx : covers x pc = true) (h0 : x.catchType ≠ 0) (hlink : (Cond.classLink own x.catchType E).before args s = true) (hcast : va_Nw (.castable E E) s)
    (kk : ∀ (H1 : Heap) (locs1 : List Loc) (q : Nat), va_P z.1 vwCl w' H1 → va_D A0 w' → va_S A0 H0 H1 locs1 → W p l e R s m args below meth c H1 locs1 (cells + 1) (slots + 6) Q (F0 m hpc ls [.ref q])) : W p l e R s m args below meth c H locs cells slots Q (F0 m pc ls st0) := by
  obtain ⟨⟨hrc, hrs, hfr, hlo, hws, hcw, hcode, hini, hy, hlen, hlk⟩, hin, hse⟩ := cw
  obtain ⟨hxx, hb, hml, ho, -⟩ := S
  obtain ⟨cellB, hcB, hoB, hclB⟩ := hrecv
  have hF : ∀ q : Nat, va_A w H.size q → A0 q := fun q h => by
    rcases h with ⟨k, x, h⟩ | h
    · exact hD.2 k (q, x) h
    · exact hA q (Nat.le_trans hS.1 h)
  intro T hT X
  have hpl : e.platform.magicAccessors = ({} : Platform).magicAccessors := by rw [X.admits.platform]
  obtain ⟨mk, methM, hnamed, hmethM, hstM, habM⟩ := Cond.instanceMethod_spec hin
  obtain ⟨methM', cM, hmethM', hcM, -, hlM, -, -, -, hsigM⟩ := Cond.code_spec hnamed hcode
  cases hmethM.symm.trans hmethM'
  obtain ⟨c2, r2, m2, q1, q2, q3, q4, kP, hkP, hkPi⟩ := Cond.selects_spec hse
  cases hclB.symm.trans q1
  cases (State.methodFound?_of_named hnamed hy).symm.trans q2
  cases hnamed.symm.trans q3
  have hselP : selectMethod e.platform s.vm cellB.cls mk = .method mk := by rw [Launch.admits_selectMethod X.admits]; exact q4
  obtain ⟨vm₁, X₁, hstep₁⟩ := X.invokevirtual hxx ho hlk hnamed hmethM hstM hkP hkPi hy (a := b) (cell := cellB) (by rw [hT]; exact hcB)
    (fun z h => by rw [h] at hoB; cases hoB) hselP hmethM habM hkP hkPi (g := F0 m pc ls st0) rfl (argsL := As) (rest := rest) (hn.trans (hlen _ hsigM)) hstack (by rw [hb]; exact hdg)
  have hd3 : decode c.code pc = .ok (.invokevirtual index, 3) := by rw [hb]; exact hdg
  have hnm₁ : (T.setVm vm₁).methodNamed? y = some mk := X₁.named hnamed
  obtain ⟨methY, cY, hmY, hcY, -, hlY, -, -, -, -⟩ := Cond.code_spec hnm₁ (hws _ hcw #[] _ X₁.warmed)
  obtain ⟨kY, hkY, -⟩ := className_of_methodNamed hnm₁
  have hini₁ : (Cond.initialized y.cls).before #[] (T.setVm vm₁) = true := word_at (args := args) X₁.warmed (Or.inl (by simp [Cond.onTables, Cond.keeps, Cond.steady])) hini
  have hinitY : kY.init = .initialized := Cond.initialized_spec (findClass_of_methodNamed hnm₁) hkY hini₁
  have happ : (headSpec ws rm).appliesLoose y e.platform ((T.setVm vm₁).calling (F0 m pc ls rest) mk (Value.ref b :: As).toArray) = true :=
    Spec.appliesLoose_calling (g := F0 m pc ls rest) X₁.here hd3 hnm₁ hkY hinitY
      (X₁.room_calling (g := F0 m pc ls rest) (R' := rm) (hsize.trans hml.symm) hmY hcY hfr (by rw [hlY]; have := lv_room (m := m) (pc := pc) (ls := ls) (rest := rest) hW; show _ + (maxL + 11) + rm.locals ≤ R.locals; exact Nat.le_trans (Nat.add_le_add_right (Nat.add_le_add_right this _) _) hlo) (by rw [hrc]; exact hf.1) (by rw [hrs]; exact hf.2)) (atoms_intro fun w hw => hws w hw _ _ X₁.warmed)
  obtain ⟨mid, hmid⟩ := X₁.here.above
  have hfr₁ : ((T.setVm vm₁).setTop (F0 m pc ls rest)).frames = (.java (F0 m pc ls rest) :: mid) ++ below := by rw [State.frames_setTop' _ X₁.here.top, hmid]; rfl
  obtain ⟨o, s₂, hsteps, -, hend, ⟨⟨hq1, hq2, hq3⟩, -, hq5⟩, hq6, L, hq7, hq8⟩ := Steps.callFree (hM H.size) p X.admits X.cas X.clock (acts := []) hfr₁ happ (zz_blindX _ _ (F0 m pc ls rest) mk (hp (T.setVm vm₁) hT X₁.warmed)) trivial
  obtain ⟨q, ce, rfl, hce, hcv, hcl⟩ := hq5 E rfl
  rw [State.frames_setTop' _ X₁.here.top, X₁.tail] at hend
  obtain ⟨T', X', hW', hsame', hs₂⟩ := X₁.outOfThrown (g := F0 m pc ls rest) rfl (mk := mk) (a := (Value.ref b :: As).toArray) hend hq6 hq7
  have hTh : T'.heap = s₂.heap := by rw [hs₂]; rfl
  have hcl' : s.vm.findClass E = some ce.cls := by rw [← X₁.warmed.alike.findClass]; exact hcl
  obtain ⟨c3, c4, hc3, hc4, hasg⟩ := Cond.castable_spec (va_Nw.use (A := args) rfl hcast)
  cases Option.some.inj (hc3.symm.trans hcl')
  obtain ⟨c5, hc5, hcl5⟩ := Cond.classLink_spec ho hlink e.platform hpl
  cases Option.some.inj (hc4.symm.trans hc5)
  obtain ⟨vm', X'', st⟩ := X'.thenCaughtThrough q (g := F0 m pc ls rest) rfl (Steps.refl _) (by rw [hTh]; exact hce) (by rw [hcv]; rfl) (by obtain ⟨k9, h9, -⟩ := Vm.findClass_spec hcl'; exact ⟨k9, h9⟩) pre x suf hsplit
    (fun r hr => by
      obtain ⟨hz0, nm, hl1, c6, t6, h1, h2, h3⟩ := hpass r hr
      obtain ⟨c7, hc7, hcl7⟩ := Cond.classLink_spec ho hl1 e.platform hpl
      cases Option.some.inj (h1.symm.trans hcl')
      cases Option.some.inj (h2.symm.trans hc7)
      exact Or.inr ⟨hz0, _, hcl7, h3⟩) hx (Or.inr ⟨h0, c4, hcl5, hasg⟩)
  have hz : H.size ≤ s₂.heap.size := by have := hq3.1; rw [show ((T.setVm vm₁).setTop (F0 m pc ls rest)).pushFrame (.invoking mk (Value.ref b :: As).toArray) = _ from rfl] at this; rw [← hT]; exact this
  have hk : ∀ q : Nat, q < H.size → ¬ va_A w H.size q → s₂.heap[q]? = H[q]? := fun q h1 h2 => by
    have := hq3.2 q (by rw [show (((T.setVm vm₁).setTop (F0 m pc ls rest)).pushFrame (.invoking mk (Value.ref b :: As).toArray)).heap = T.heap from rfl, hT]; exact h1) h2
    rw [this]
    show T.heap[q]? = H[q]?
    rw [hT]
  obtain ⟨t2, a1, b1⟩ := kk (T'.setVm vm').heap (locs ++ L) q (by show va_P z.1 vwCl w' T'.heap; rw [hTh]; exact hq1) (hq2.weaken (fun _ q _ h => hF q.1 h))
    ⟨Nat.le_trans hS.1 (by show _ ≤ T'.heap.size; rw [hTh]; exact hz), fun q h1 h2 => by
      show T'.heap[q]? = _
      rw [hTh, hk q (Nat.lt_of_lt_of_le h1 hS.1) (fun z => h2 (hF q z))]; exact hS.2.1 q h1 h2, fun q hq => by
      rcases List.mem_append.mp hq with h | h
      · exact hS.2.2 q h
      · exact hF _ (hq8 q h)⟩ (T'.setVm vm') rfl X''
  refine ⟨t2, hstep₁ _ (fun acts => ?_), b1⟩
  rw [doInvoke_state]
  refine hsteps.trans ?_
  rw [hs₂]
  refine st.trans ?_
  rw [hpc']
  exact a1
end ZCA
