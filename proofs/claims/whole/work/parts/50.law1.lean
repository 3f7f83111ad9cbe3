/-! OWN LAYER: the law's helpers, which catch -/
theorem zz_ofW {z : zE} {l : Launch} {y : MethodName} {cc : ByteArray} {maxL mc ms : Nat} {ret : Option FieldType} {hh : List (Nat × Nat × Nat × Nat)} {rm : Room} {av : List Value} {w w' : va_W} {v : Option Value} (hy : plainName y.cls = true) (hnl : (lg_sl av).length ≤ maxL)
    (body : ∀ (p : Program) (e : Env) (s : State) (m : MethodId) (args : Array Value) (below : List Frame) (meth : Method) (c : Code) (A0 : Nat → Prop) (ls : Array Slot), zM z p s m args c cc maxL y.cls → zSt s → zTh A0 s.vm s.heap → c.exceptionTable.toList.map (fun h => (h.startPc, h.endPc, h.handlerPc, h.catchType)) = hh → meth.sig.returnType = ret → meth.locks = false → (∀ q : Nat, s.heap.size ≤ q → A0 q) →
      va_P z.1 vwCl w s.heap → va_D A0 w → lv_has ls maxL (lv_args 0 av) → W p l e rm s m args below meth c s.heap [] 0 0 (MQ below (zQc z A0 v w') args s mc ms A0) (F0 m 0 ls [])) : zK z l y (Cond.codeWith y cc maxL ret hh :: zTb) rm av w v w' mc ms := by
  intro sz
  refine va_MetW (cc := cc) (maxL := maxL) (ret := ret) (hh := hh) hy rfl ?_
  intro p e s m args below meth c s₁ B hml hv
  obtain ⟨rfl, hsz, hP, ⟨hK, hN, hSt, hTh⟩, hD0⟩ := hv
  have hts := atoms_spec (ws := Cond.codeWith y cc maxL ret hh :: zTb) B.pre
  have hown : s.vm.findClass y.cls = some m.cls := findClass_of_methodNamed B.named
  obtain ⟨m9, meth9, c9, hn9, hm9, hc9, -, -, ht9, -⟩ := Cond.codeWith_spec (hts _ List.mem_cons_self)
  cases hn9.symm.trans B.named
  cases hm9.symm.trans B.method
  cases hc9.symm.trans (Stand.of_body B).code
  subst hsz
  have hl := lv_entry av (n := maxL) hnl
  rw [lg_entry_eq]
  exact body p e s m _ below meth c _ _ ⟨B.exec, B.bytes, hml, hown, fun w h => hts w (List.mem_cons_of_mem _ h), hK, hN⟩ hSt hTh ht9 B.returns B.notSynchronized (fun q h => Or.inr h) hP (hD0.self (sz := s.heap.size)) hl
section ZLA
variable {z : zE} {p : Program} {l : Launch} {e : Env} {R : Room} {s : State} {m : MethodId} {args : Array Value} {below : List Frame} {meth : Method} {c : Code} {H : Heap} {locs : List Loc} {Q : State → Prop} {cc : ByteArray} {A0 : Nat → Prop} {pc cells slots : Nat} {ls : Array Slot} {w w' : va_W} {H0 : Heap}
theorem zz_iretK {k : Int32} {mc ms : Nat} (hx : p.tables.exec = Jvm.exec) (hb : c.code = cc) (hr : meth.sig.returnType = some .int) (hlocks : meth.locks = false) (hP : va_P z.1 vwCl w H) (hD : va_D A0 w) (hS : va_S A0 s.heap H locs) (hc : cells ≤ mc) (hs : slots ≤ ms) (hdg : decode cc pc = .ok (.ireturn, 1)) :
    W p l e R s m args below meth c H locs cells slots (MQ below (zQc z A0 (some (.int k)) w) args s mc ms A0) (F0 m pc ls [.int k]) :=
  W.widen hc hs (W.iret hx hb hr (fun t ht hW => ⟨⟨rfl, by rw [ht]; exact hP, hD⟩, hS.F ht⟩) hS.2.2 hdg hlocks)
theorem zz_tab {α : Type} {l : List α} {β : Type} {f : α → β} {b : β} {r : List β} (h : l.map f = b :: r) : ∃ x l', l = x :: l' ∧ f x = b ∧ l'.map f = r := by
  cases l with
  | nil => cases h
  | cons x l' => exact ⟨x, l', rfl, (List.cons.inj h).1, (List.cons.inj h).2⟩
theorem zz_tab0 {α : Type} {l : List α} {β : Type} {f : α → β} (h : l.map f = []) : l = [] := List.map_eq_nil_iff.mp h
/-- a static method with an exception table, called -/
theorem zz_runSW {y : MethodName} {bytes : ByteArray} {maxL nL n index mc ms : Nat} {ret : Option FieldType} {hh : List (Nat × Nat × Nat × Nat)} {rm : Room} {own : String} {As rest st0 : List Value} {v : Option Value}
    (hM : zK z l y (Cond.codeWith y bytes maxL ret hh :: zTb) rm As w v w' mc ms) (S : CallFix p m c cc nL s args zTb own) (hG : Cond.codeWith y bytes maxL ret hh ∈ zTb) (hlk : Cond.methodLink own index y ∈ zTb) (hst : Cond.static y ∈ zTb) (hin : Cond.initialized y.cls ∈ zTb)
    (hd : y.cls ≠ "java/lang/invoke/MethodHandle" ∧ y.cls ≠ "java/lang/invoke/VarHandle" ∧ (parseMethodDescriptor y.desc).map (fun d => d.parameters.length) = some n) (hrc : rm.cells = mc) (hrs : rm.slots = ms) (hR : rm.frames + 1 ≤ R.frames ∧ 8 + (maxL + 11) + rm.locals ≤ R.locals)
    (hp : ∀ U : State, U.heap = H → s.WarmedH U.vm → zPx z As w H.size As.toArray U)
    (hn : As.length = n) (hsize : ls.size = nL) (hstack : st0 = As.reverse ++ rest) (hW : (rest.map fun v => v.category).sum ≤ 8) (hdg : decode cc pc = .ok (.invokestatic index, 3)) (hf : cells + mc ≤ R.cells ∧ slots + ms ≤ R.slots) :
    va_Run p l e R s m args below meth c H locs cells slots mc ms (F0 m pc ls st0) rest (zQc z (va_A w H.size) v w' As.toArray) (va_A w H.size) := by
  obtain ⟨hx, hb, hml, ho, hts⟩ := S
  have hGi : GoodIn zTb (Cond.codeWith y bytes maxL ret hh :: zTb) := zz_gC hG
  have hK : Back l R p e below s args y 3 8 (PreOf R mc ms (zPx z As w H.size)) (PostOf (zQc z (va_A w H.size) v w') mc ms (va_A w H.size)) :=
    va_backW (hh := hh) (bytes := bytes) (maxL := maxL) (ret := ret) (hM H.size) zz_blindX hrc hrs hR.1 hR.2 (pay_in hts hGi) List.mem_cons_self (fun a' U hW => word_at hW (Or.inl (by first | rfl | simp [Cond.onTables, Cond.keeps, Cond.steady])) (hts _ hin))
  intro T hT X
  obtain ⟨mk, methM, cM, hnamed, hmethM, -, -, -, -, -, -, hsigM⟩ := Cond.codeWith_spec (hts _ hG)
  have hstatic : methM.isStatic = true := Cond.static_spec hnamed hmethM (hts _ hst)
  obtain ⟨kP, hkP, -⟩ := className_of_methodNamed hnamed
  have hinitP : kP.init = .initialized := Cond.initialized_spec (findClass_of_methodNamed hnamed) hkP (hts _ hin)
  have hlen : As.length = methM.sig.parameters.length := by
    have h2 := hd.2.2
    rw [hsigM] at h2
    exact hn.trans (Option.some.inj h2).symm
  obtain ⟨vm₁, X₁, hstep₁⟩ := X.invokestatic hx ho (hts _ hlk) hnamed hmethM hstatic hkP hinitP ⟨hd.1, hd.2.1⟩ (g := F0 m pc ls st0) rfl (argsL := As) (rest := rest) hlen hstack (by rw [hb]; exact hdg)
  obtain ⟨v', ⟨U', l2, c2, s2⟩, X', ⟨g', mk', t, L, e1, e2, hq, h1, hL, h2, h3⟩, hsteps⟩ := hK m meth c ⟨T.setVm vm₁, locs, cells, slots⟩ (F0 m pc ls rest) (.invokestatic index) mk As.toArray X₁ rfl (hsize.trans hml.symm) (by rw [hb]; exact hdg) (lv_room hW) (X₁.named hnamed) ⟨hf.1, hf.2, hp (T.setVm vm₁) hT X₁.warmed⟩
  dsimp only [Pt.U, Pt.locs, Pt.cells, Pt.slots] at X' e1 e2 h1 h2 h3 hsteps
  subst h1; subst h2; subst h3
  exact ⟨v', (T.setVm vm₁).calling g' mk' As.toArray, t, U', L, hT, X', hL, e1, e2, hq, fun target h => hstep₁ _ fun acts => by rw [doInvoke_state]; exact hsteps.trans h⟩
end ZLA
