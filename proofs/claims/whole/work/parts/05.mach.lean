/-! OWN LAYER, the machine's side: one environment z (class numbers, field slots, the array classes), the nest words, contracts with a given answer and a given world behind -/
abbrev zE : Type := va_G × ClassId × ClassId × ClassId × ClassId
abbrev zI (z : zE) : ClassId := z.2.1
abbrev zZ (z : zE) : ClassId := z.2.2.1
abbrev zL (z : zE) : ClassId := z.2.2.2.1
abbrev zG (z : zE) : ClassId := z.2.2.2.2
def zty (z : zE) : List (ClassId × FieldType) := [(zI z, .int), (zZ z, .boolean), (zL z, .long), (zG z, .array .int)]
def zN (U : State) : Prop := (∀ (k : Nat) (q : String × Nat × String × String × String), zNf[k]? = some q → va_Nw (.fieldLinkNest q.1 q.2.1 q.2.2.1 q.2.2.2.1 q.2.2.2.2 "MemberChooser") U) ∧ ∀ (k : Nat) (q : String × Nat × MethodName), zNm[k]? = some q → va_Nw (.methodLinkNest q.1 q.2.1 q.2.2 "MemberChooser") U
theorem zN.warm {s U : State} (h : zN s) (hW : s.WarmedH U.vm) : zN U := ⟨fun k q hq => va_Nw.warmF hW (h.1 k q hq), fun k q hq => va_Nw.warmM hW (h.2 k q hq)⟩
theorem zN.same {s U : State} (h : zN s) (hv : s.vm = U.vm) : zN U := ⟨fun k q hq => va_Nw.same rfl hv (h.1 k q hq), fun k q hq => va_Nw.same rfl hv (h.2 k q hq)⟩
theorem zz_nf {s : State} {args : Array Value} (h : zN s) (k : Nat) {a : String} {i : Nat} {b n d : String} (hk : zNf[k]? = some (a, i, b, n, d)) : (Cond.fieldLinkNest a i b n d "MemberChooser").before args s = true := va_Nw.use rfl (h.1 k _ hk)
/-- what every walk stands on -/
def zM (z : zE) (p : Program) (s : State) (m : MethodId) (args : Array Value) (c : Code) (cc : ByteArray) (nL : Nat) (own : String) : Prop :=
  p.tables.exec = Jvm.exec ∧ c.code = cc ∧ c.maxLocals = nL ∧ s.vm.findClass own = some m.cls ∧ (∀ w ∈ zTb, w.before args s = true) ∧ va_K z.1 vwCl (zty z) s ∧ zN s
def zPc (z : zE) (av : List Value) (w : va_W) (sz : Nat) : Array Value → State → Prop := va_Pc av (fun U => U.heap.size = sz ∧ va_P z.1 vwCl w U.heap ∧ (va_K z.1 vwCl (zty z) U ∧ zN U) ∧ va_D (fun _ => True) w)
/-- the end: the answer, the world behind it -/
def zQc (z : zE) (A : Nat → Prop) (v : Option Value) (w' : va_W) : Array Value → State → Outcome → State → Prop := fun _ st oc t => (oc = .returned v ∧ va_P z.1 vwCl w' t.heap ∧ va_D A w') ∧ va_F A st t
abbrev zQ (z : zE) (below : List Frame) (args : Array Value) (s : State) (A : Nat → Prop) (v : Option Value) (w' : va_W) : State → Prop := MQ below (zQc z A v w') args s 0 0 A
def zC (z : zE) (l : Launch) (y : MethodName) (ws : List Cond) (rm : Room) (av : List Value) (w : va_W) (v : Option Value) (w' : va_W) : Prop :=
  ∀ sz : Nat, Met l y ws rm (zPc z av w sz) (zQc z (va_A w sz) v w') 0 0 (va_A w sz)
theorem zz_blind {z : zE} {av : List Value} {w : va_W} {sz : Nat} : FrameBlind (zPc z av w sz) := fun a U g mk q => by
  obtain ⟨q0, q1, qP, ⟨qK, qN⟩, qD⟩ := q
  exact ⟨q0, q1, qP, ⟨va_K.moved (u := U) (U := U.calling g mk a) (Vm.Alike.refl U.vm) qK, zN.same qN rfl⟩, qD⟩
theorem zz_of {z : zE} {l : Launch} {y : MethodName} {cc : ByteArray} {maxL : Nat} {ret : Option FieldType} {rm : Room} {av : List Value} {w w' : va_W} {v : Option Value} (hy : plainName y.cls = true) (hnl : (lg_sl av).length ≤ maxL)
    (body : ∀ (p : Program) (e : Env) (s : State) (m : MethodId) (args : Array Value) (below : List Frame) (meth : Method) (c : Code) (A0 : Nat → Prop) (ls : Array Slot), zM z p s m args c cc maxL y.cls → meth.sig.returnType = ret → meth.locks = false → (∀ q : Nat, s.heap.size ≤ q → A0 q) →
      va_P z.1 vwCl w s.heap → va_D A0 w → lv_has ls maxL (lv_args 0 av) → W p l e rm s m args below meth c s.heap [] 0 0 (zQ z below args s A0 v w') (F0 m 0 ls [])) : zC z l y (Cond.code y cc maxL ret :: zTb) rm av w v w' := by
  intro sz
  refine Met.ofW (cc := cc) (maxL := maxL) (ret := ret) hy rfl ?_
  intro p e s m args below meth c s₁ B hml hv
  obtain ⟨rfl, hsz, hP, ⟨hK, hN⟩, hD0⟩ := hv
  have hts := atoms_spec (ws := Cond.code y cc maxL ret :: zTb) B.pre
  have hown : s.vm.findClass y.cls = some m.cls := findClass_of_methodNamed B.named
  subst hsz
  have hl := lv_entry av (n := maxL) hnl
  rw [lg_entry_eq]
  exact body p e s m _ below meth c _ _ ⟨B.exec, B.bytes, hml, hown, fun w h => hts w (List.mem_cons_of_mem _ h), hK, hN⟩ B.returns B.notSynchronized (fun q h => Or.inr h) hP (hD0.self (sz := s.heap.size)) hl
section ZZW
variable {z : zE} {p : Program} {l : Launch} {e : Env} {R : Room} {s : State} {m : MethodId} {args : Array Value} {below : List Frame} {meth : Method} {c : Code} {H : Heap} {locs : List Loc} {Q : State → Prop} {cc : ByteArray} {A0 : Nat → Prop} {pc : Nat} {ls : Array Slot} {w w' : va_W}
theorem zz_vret {σ : Type} {S S' : σ} (wf : σ → va_W) (hx : p.tables.exec = Jvm.exec) (hb : c.code = cc) (hr : meth.sig.returnType = none) (hlocks : meth.locks = false) (hP : va_P z.1 vwCl (wf S) H) (hD : va_D A0 (wf S)) (hS : va_S A0 s.heap H locs) (h : some S = some S') (hdg : decode cc pc = .ok (.return_, 1)) :
    W p l e R s m args below meth c H locs 0 0 (zQ z below args s A0 none (wf S')) (F0 m pc ls []) := by
  cases h
  exact W.vret hx hb hr (fun t ht hW => ⟨⟨rfl, by rw [ht]; exact hP, hD⟩, hS.F ht⟩) hS.2.2 hdg hlocks
theorem zz_iret {σ : Type} {S S' : σ} {v r0 : Int32} (wf : σ → va_W) (hx : p.tables.exec = Jvm.exec) (hb : c.code = cc) (hr : meth.sig.returnType = some .int) (hlocks : meth.locks = false) (hP : va_P z.1 vwCl (wf S) H) (hD : va_D A0 (wf S)) (hS : va_S A0 s.heap H locs) (h : some (v, S) = some (r0, S')) (hdg : decode cc pc = .ok (.ireturn, 1)) :
    W p l e R s m args below meth c H locs 0 0 (zQ z below args s A0 (some (.int r0)) (wf S')) (F0 m pc ls [.int v]) := by
  cases h
  exact W.iret hx hb hr (fun t ht hW => ⟨⟨rfl, by rw [ht]; exact hP, hD⟩, hS.F ht⟩) hS.2.2 hdg hlocks
theorem zz_zret {σ : Type} {S S' : σ} {v r0 : Int32} (wf : σ → va_W) (hx : p.tables.exec = Jvm.exec) (hb : c.code = cc) (hr : meth.sig.returnType = some .boolean) (hlocks : meth.locks = false) (hP : va_P z.1 vwCl (wf S) H) (hD : va_D A0 (wf S)) (hS : va_S A0 s.heap H locs) (hn : narrow .boolean (.int v) = .int v) (h : some (v, S) = some (r0, S')) (hdg : decode cc pc = .ok (.ireturn, 1)) :
    W p l e R s m args below meth c H locs 0 0 (zQ z below args s A0 (some (.int r0)) (wf S')) (F0 m pc ls [.int v]) := by
  cases h
  exact W.zret hx hb hr hn (fun t ht hW => ⟨⟨rfl, by rw [ht]; exact hP, hD⟩, hS.F ht⟩) hS.2.2 hdg hlocks
theorem zz_lretG {v r0 : Int64} (hx : p.tables.exec = Jvm.exec) (hb : c.code = cc) (hr : meth.sig.returnType = some .long) (hlocks : meth.locks = false) (hP : va_P z.1 vwCl w H) (hD : va_D A0 w) (hS : va_S A0 s.heap H locs) (h : some v = some r0) (hdg : decode cc pc = .ok (.lreturn, 1)) :
    W p l e R s m args below meth c H locs 0 0 (zQ z below args s A0 (some (.long r0)) w) (F0 m pc ls [.long v]) := by
  cases h
  exact W.lret hx hb hr (fun t ht hW => ⟨⟨rfl, by rw [ht]; exact hP, hD⟩, hS.F ht⟩) hS.2.2 hdg hlocks
theorem zz_iretG {v r0 : Int32} (hx : p.tables.exec = Jvm.exec) (hb : c.code = cc) (hr : meth.sig.returnType = some .int) (hlocks : meth.locks = false) (hP : va_P z.1 vwCl w H) (hD : va_D A0 w) (hS : va_S A0 s.heap H locs) (h : some v = some r0) (hdg : decode cc pc = .ok (.ireturn, 1)) :
    W p l e R s m args below meth c H locs 0 0 (zQ z below args s A0 (some (.int r0)) w) (F0 m pc ls [.int v]) := by
  cases h
  exact W.iret hx hb hr (fun t ht hW => ⟨⟨rfl, by rw [ht]; exact hP, hD⟩, hS.F ht⟩) hS.2.2 hdg hlocks
theorem zz_zretG {v r0 : Int32} (hx : p.tables.exec = Jvm.exec) (hb : c.code = cc) (hr : meth.sig.returnType = some .boolean) (hlocks : meth.locks = false) (hP : va_P z.1 vwCl w H) (hD : va_D A0 w) (hS : va_S A0 s.heap H locs) (hn : narrow .boolean (.int v) = .int v) (h : some v = some r0) (hdg : decode cc pc = .ok (.ireturn, 1)) :
    W p l e R s m args below meth c H locs 0 0 (zQ z below args s A0 (some (.int r0)) w) (F0 m pc ls [.int v]) := by
  cases h
  exact W.zret hx hb hr hn (fun t ht hW => ⟨⟨rfl, by rw [ht]; exact hP, hD⟩, hS.F ht⟩) hS.2.2 hdg hlocks
/-- behind a call -/
theorem zz_go {H0 : Heap} {v : Option Value} {rest st0 : List Value} {a : Array Value} {cells slots : Nat} (hr : va_Run p l e R s m args below meth c H locs cells slots 0 0 (F0 m pc ls st0) rest (zQc z (va_A w H.size) v w' a) (va_A w H.size)) (hD : va_D A0 w) (hS : va_S A0 H0 H locs) (hA : ∀ q : Nat, H0.size ≤ q → A0 q)
    (kk : ∀ (H1 : Heap) (locs1 : List Loc), va_P z.1 vwCl w' H1 → va_D A0 w' → va_S A0 H0 H1 locs1 → W p l e R s m args below meth c H1 locs1 cells slots Q (F0 m (pc + 3) ls (v.toList ++ rest))) : W p l e R s m args below meth c H locs cells slots Q (F0 m pc ls st0) := by
  have hF : ∀ q : Nat, va_A w H.size q → A0 q := fun q h => by
    rcases h with ⟨k, x, h⟩ | h
    · exact hD.2 k (q, x) h
    · exact hA q (Nat.le_trans hS.1 h)
  intro T hT X
  obtain ⟨v', st₀, t, T', L, h0, X', hL, e1, e2, ⟨⟨hv, hp, hd⟩, hz, hk⟩, st⟩ := hr T hT X
  cases hv
  rw [h0] at hz hk
  obtain ⟨t2, a1, b1⟩ := kk T'.heap (locs ++ L) (by rw [e1]; exact hp) (hd.weaken (fun _ q _ h => hF q.1 h))
    ⟨Nat.le_trans hS.1 (by rw [e1]; exact hz), fun q h1 h2 => by rw [e1, hk q (Nat.lt_of_lt_of_le h1 hS.1) (fun z => h2 (hF q z))]; exact hS.2.1 q h1 h2, fun q hq => by
      rcases List.mem_append.mp hq with h | h
      · exact hS.2.2 q h
      · exact hF _ (hL q h)⟩ T' rfl X'
  exact ⟨t2, st t2 a1, b1⟩
theorem zz_goI {H0 : Heap} {r0 : Int32} {rest st0 : List Value} {a : Array Value} {cells slots : Nat} (hr : va_Run p l e R s m args below meth c H locs cells slots 0 0 (F0 m pc ls st0) rest (zQc z (va_A w H.size) (some (.int r0)) w' a) (va_A w H.size)) (hD : va_D A0 w) (hS : va_S A0 H0 H locs) (hA : ∀ q : Nat, H0.size ≤ q → A0 q)
    (kk : ∀ (H1 : Heap) (locs1 : List Loc), va_P z.1 vwCl w' H1 → va_D A0 w' → va_S A0 H0 H1 locs1 → W p l e R s m args below meth c H1 locs1 cells slots Q (F0 m (pc + 3) ls (.int r0 :: rest))) : W p l e R s m args below meth c H locs cells slots Q (F0 m pc ls st0) := zz_go hr hD hS hA kk
theorem zz_goL {H0 : Heap} {r0 : Int64} {rest st0 : List Value} {a : Array Value} {cells slots : Nat} (hr : va_Run p l e R s m args below meth c H locs cells slots 0 0 (F0 m pc ls st0) rest (zQc z (va_A w H.size) (some (.long r0)) w' a) (va_A w H.size)) (hD : va_D A0 w) (hS : va_S A0 H0 H locs) (hA : ∀ q : Nat, H0.size ≤ q → A0 q)
    (kk : ∀ (H1 : Heap) (locs1 : List Loc), va_P z.1 vwCl w' H1 → va_D A0 w' → va_S A0 H0 H1 locs1 → W p l e R s m args below meth c H1 locs1 cells slots Q (F0 m (pc + 3) ls (.long r0 :: rest))) : W p l e R s m args below meth c H locs cells slots Q (F0 m pc ls st0) := zz_go hr hD hS hA kk
theorem zz_goV {H0 : Heap} {rest st0 : List Value} {a : Array Value} {cells slots : Nat} (hr : va_Run p l e R s m args below meth c H locs cells slots 0 0 (F0 m pc ls st0) rest (zQc z (va_A w H.size) none w' a) (va_A w H.size)) (hD : va_D A0 w) (hS : va_S A0 H0 H locs) (hA : ∀ q : Nat, H0.size ≤ q → A0 q)
    (kk : ∀ (H1 : Heap) (locs1 : List Loc), va_P z.1 vwCl w' H1 → va_D A0 w' → va_S A0 H0 H1 locs1 → W p l e R s m args below meth c H1 locs1 cells slots Q (F0 m (pc + 3) ls rest)) : W p l e R s m args below meth c H locs cells slots Q (F0 m pc ls st0) := zz_go hr hD hS hA kk
theorem zz_pre {w : va_W} {sz : Nat} {av : List Value} (hK : va_K z.1 vwCl (zty z) s) (hN : zN s) (hP : va_P z.1 vwCl w H) (hD : va_D A0 w) (hsz : sz = H.size) : ∀ U : State, U.heap = H → s.WarmedH U.vm → zPc z av w sz av.toArray U :=
  fun U hU hW => ⟨rfl, by rw [hU, hsz], by rw [hU]; exact hP, ⟨va_K.moved hW.alike hK, hN.warm hW⟩, hD.weaken (fun _ _ _ _ => trivial)⟩
variable {y : MethodName} {bytes : ByteArray} {maxL nL n index cells slots : Nat} {ret : Option FieldType} {ws : List Cond} {rm : Room} {Ts : List Cond} {own C host : String} {b : Addr} {As rest st0 : List Value} {v : Option Value}
theorem zz_runV (hM : zC z l y ws rm (.ref b :: As) w v w') (S : CallFix p m c cc nL s args Ts own) (cw : CallW R s args own C index y bytes maxL ret ws rm 0 0 n) (hK : va_K z.1 vwCl (zty z) s) (hN : zN s) (hP : va_P z.1 vwCl w H) (hD : va_D A0 w) (hrecv : ∃ cell : Cell, H[b]? = some cell ∧ cell.vm.isStatics = false ∧ s.vm.findClass C = some cell.cls)
    (hn : As.length = n) (hsize : ls.size = nL) (hstack : st0 = As.reverse ++ .ref b :: rest) (hW : (rest.map fun v => v.category).sum ≤ 8) (hdg : decode cc pc = .ok (.invokevirtual index, 3)) (hf : cells + 0 ≤ R.cells ∧ slots + 0 ≤ R.slots) :
    va_Run p l e R s m args below meth c H locs cells slots 0 0 (F0 m pc ls st0) rest (zQc z (va_A w H.size) v w' (Value.ref b :: As).toArray) (va_A w H.size) :=
  va_runV S (hM H.size) cw ⟨zz_blind, hrecv, zz_pre hK hN hP hD rfl⟩ rfl hn hsize hstack (lv_room hW) hdg hf
theorem zz_runS (hM : zC z l y ws rm As w v w') (S : CallFix p m c cc nL s args Ts own) (cw : CallB R s args own index y bytes maxL ret ws rm 0 0 n ∧ (Cond.static y).before args s = true) (hK : va_K z.1 vwCl (zty z) s) (hN : zN s) (hP : va_P z.1 vwCl w H) (hD : va_D A0 w)
    (hn : As.length = n) (hsize : ls.size = nL) (hstack : st0 = As.reverse ++ rest) (hW : (rest.map fun v => v.category).sum ≤ 8) (hdg : decode cc pc = .ok (.invokestatic index, 3)) (hf : cells + 0 ≤ R.cells ∧ slots + 0 ≤ R.slots) :
    va_Run p l e R s m args below meth c H locs cells slots 0 0 (F0 m pc ls st0) rest (zQc z (va_A w H.size) v w' As.toArray) (va_A w H.size) :=
  va_runS S (hM H.size) cw ⟨zz_blind, zz_pre hK hN hP hD rfl⟩ rfl hn hsize hstack (lv_room hW) hdg hf
theorem zz_runVN (hM : zC z l y ws rm (.ref b :: As) w v w') (S : CallFix p m c cc nL s args Ts own) (cw : va_CN R s args own index y host bytes maxL ret ws rm 0 0 n ∧ (Cond.instanceMethod y).before args s = true ∧ (Cond.selects C y y).before args s = true) (hK : va_K z.1 vwCl (zty z) s) (hN : zN s) (hP : va_P z.1 vwCl w H) (hD : va_D A0 w) (hrecv : ∃ cell : Cell, H[b]? = some cell ∧ cell.vm.isStatics = false ∧ s.vm.findClass C = some cell.cls)
    (hn : As.length = n) (hsize : ls.size = nL) (hstack : st0 = As.reverse ++ .ref b :: rest) (hW : (rest.map fun v => v.category).sum ≤ 8) (hdg : decode cc pc = .ok (.invokevirtual index, 3)) (hf : cells + 0 ≤ R.cells ∧ slots + 0 ≤ R.slots) :
    va_Run p l e R s m args below meth c H locs cells slots 0 0 (F0 m pc ls st0) rest (zQc z (va_A w H.size) v w' (Value.ref b :: As).toArray) (va_A w H.size) :=
  va_runVN S (hM H.size) cw ⟨zz_blind, hrecv, zz_pre hK hN hP hD rfl⟩ rfl hn hsize hstack (lv_room hW) hdg hf
theorem zz_runSN (hM : zC z l y ws rm As w v w') (S : CallFix p m c cc nL s args Ts own) (cw : va_CN R s args own index y host bytes maxL ret ws rm 0 0 n ∧ (Cond.static y).before args s = true ∧ True) (hK : va_K z.1 vwCl (zty z) s) (hN : zN s) (hP : va_P z.1 vwCl w H) (hD : va_D A0 w)
    (hn : As.length = n) (hsize : ls.size = nL) (hstack : st0 = As.reverse ++ rest) (hW : (rest.map fun v => v.category).sum ≤ 8) (hdg : decode cc pc = .ok (.invokestatic index, 3)) (hf : cells + 0 ≤ R.cells ∧ slots + 0 ≤ R.slots) :
    va_Run p l e R s m args below meth c H locs cells slots 0 0 (F0 m pc ls st0) rest (zQc z (va_A w H.size) v w' As.toArray) (va_A w H.size) :=
  va_runSN S (hM H.size) cw ⟨zz_blind, zz_pre hK hN hP hD rfl⟩ rfl hn hsize hstack (lv_room hW) hdg hf
end ZZW
theorem zz_lt {i : Int32} {n : Nat} (h : ¬ zoob i n) : i.toNatClampNeg < n := Nat.not_le.mp fun q => h (Or.inr q)
