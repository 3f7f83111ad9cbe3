def va_AOA (ty : FieldType) (U : State) : Prop := (Cond.arrayOver (.array ty)).before #[] U = true
theorem va_AOA.use {ty : FieldType} {A : Array Value} {U : State} (h : va_AOA ty U) : (Cond.arrayOver (.array ty)).before A U = true := h
theorem va_AOA.moved {ty : FieldType} {u U : State} (hvm : u.vm.Alike U.vm) (h : va_AOA ty u) : va_AOA ty U := by
  have h1 := Cond.arrayOver_setVmC (args := #[]) hvm (.array ty)
  unfold va_AOA at h ⊢
  rw [h] at h1
  exact h1
/-! ===== BEGIN new T[n][m]: the outer array a place, the inner ones among the pooled ===== -/
/-- f, but v at every address of l -/
def vr_up {α : Type} (f : Nat → α) (l : List Nat) (v : α) : Nat → α := fun a => if a ∈ l then v else f a
theorem vr_up_in {α : Type} {f : Nat → α} {l : List Nat} {v : α} {a : Nat} (h : a ∈ l) : vr_up f l v a = v := if_pos h
theorem vr_up_ne {α : Type} {f : Nat → α} {l : List Nat} {v : α} {a : Nat} (h : a ∉ l) : vr_up f l v a = f a := if_neg h
theorem vr_rows {L l : List Nat} {f : Nat → va_E} {e : va_E} (h : ∀ a, a ∈ l → a ∉ L) : va_pl L f ++ l.map (fun a => (a, e)) = va_pl (L ++ l) (vr_up f l e) := by
  unfold va_pl
  rw [List.map_append]
  congr 1
  · apply List.map_congr_left
    intro a ha
    rw [vr_up_ne (fun q => h a q ha)]
  · apply List.map_congr_left
    intro a ha
    rw [vr_up_in ha]
theorem vr_lay {X rows : va_W} {x : Nat × va_E} {pl : va_W} {D : va_G} {cl : List vw_C} {H : Heap} (hP : va_P D cl (((X ++ pl) ++ [x]) ++ rows) H) : va_P D cl ((X ++ [x]) ++ (pl ++ rows)) H := by
  rw [List.append_assoc (X ++ pl)] at hP
  have h := va_P.swap hP
  rw [← List.append_assoc X] at h
  have h2 := va_P.swap h
  rw [List.append_assoc (X ++ [x])] at h2
  exact h2
theorem vr_layD {X rows : va_W} {x : Nat × va_E} {pl : va_W} {A : Nat → Prop} (hD : va_D A (((X ++ pl) ++ [x]) ++ rows)) : va_D A ((X ++ [x]) ++ (pl ++ rows)) := by
  rw [List.append_assoc (X ++ pl)] at hD
  have h := va_D.swap hD
  rw [← List.append_assoc X] at h
  have h2 := va_D.swap h
  rw [List.append_assoc (X ++ [x])] at h2
  exact h2
theorem vr_outer (c : ClassId) (N h0 : Nat) : ∀ i : Nat, Jvm.Free.Multi.outerC c N h0 i = arrV c N (fun j => va_rf (if j < i then some (h0 + 1 + j) else none))
  | 0 => by
    show ({ cls := c, slots := Array.replicate N .null, vm := .none } : Cell) = _
    rw [arrV_new]
    refine congrArg (arrV c N) (funext fun j => ?_)
    simp [va_rf]
  | i + 1 => by
    show (Jvm.Free.Multi.outerC c N h0 i).setSlot i (.ref (h0 + 1 + i)) = _
    rw [vr_outer c N h0 i, arrV_store]
    refine congrArg (arrV c N) (funext fun j => ?_)
    by_cases e : j = i
    · subst e
      simp [updV, va_rf]
    · by_cases h : j < i
      · simp [updV, e, h, Nat.lt_succ_of_lt h]
      · simp [updV, e, h, show ¬ j < i + 1 by omega]
section VGM
variable {p : Program} {l : Launch} {e : Env} {R : Room} {s : State} {m : MethodId} {args : Array Value} {below : List Frame} {meth : Method} {c : Code} {H : Heap} {locs : List Loc} {cells slots : Nat} {Q : State → Prop}
variable {cc : ByteArray} {pc : Nat} {ls : Array Slot} {rest : List Value} {D : va_G} {cl : List vw_C} {A : Nat → Prop} {a : Nat} {tys : List (ClassId × FieldType)} {ws : va_W} {H0 : Heap}
theorem va_mna {X : va_W} {L : List Nat} {f : Nat → va_E} {cc : ByteArray} (hexec : p.tables.exec = Jvm.exec) (hb : c.code = cc) {own : String} {index : Nat} {ty : FieldType} {cy : ClassId} (hown : s.vm.findClass own = some m.cls) (hclink : (Cond.classLink own index ("[" ++ (FieldType.array ty).toString)).before args s = true) (hover : va_AOA ty s) (harr : (Cond.arrayClass ty).before args s = true) (hcy : s.vm.findClass (FieldType.array ty).toString = some cy)
    (hK : va_K D cl tys s) (hP : va_P D cl (X ++ va_pl L f) H) (hD : va_D A (X ++ va_pl L f)) (hS : va_S A H0 H locs) (hA : ∀ q, H0.size ≤ q → A q) {n k : Int32} {N' K' : Nat} {z : vp_A} (hn : ¬ n < 0) (hk : ¬ k < 0) (hN : n.toNatClampNeg = N') (hM : k.toNatClampNeg = K')
    (hb1 : N' * 4 ≤ 536870912) (hb2 : K' * componentBytes ty ≤ 536870912) (hb3 : K' ≤ 536870912) (hdf : fits ty (defaultValue ty) = true) (hdd : (defaultValue ty).isDefault = true) (hcells : cells + (1 + N') ≤ R.cells) (hslots : slots + (N' + N' * K') ≤ R.slots) (hz : ∀ c : ClassId, Jvm.Free.Multi.innerC c K' (defaultValue ty) = vp_cell c z) (hdg : decode cc pc = .ok (.multianewarray index 2, 4))
    (kk : ∀ (q : Nat) (r : Nat → Nat) (cA : ClassId) (H1 : Heap), (∀ i j : Nat, i < N' → j < N' → r i = r j → i = j) → (∀ i : Nat, i < N' → r i ∉ L) → va_K D cl (tys ++ [(cA, .array ty)]) s →
      va_P D cl ((X ++ [(q, .inl (cA, N', .inr (.inr (.inr (.inr (fun i => if i < N' then some (r i) else none))))))]) ++ va_pl (L ++ (List.range N').map r) (vr_up f ((List.range N').map r) (.inl (cy, z)))) H1 → va_D A ((X ++ [(q, .inl (cA, N', .inr (.inr (.inr (.inr (fun i => if i < N' then some (r i) else none))))))]) ++ va_pl (L ++ (List.range N').map r) (vr_up f ((List.range N').map r) (.inl (cy, z)))) → va_S A H0 H1 locs →
      W p l e R s m args below meth c H1 locs (cells + 1 + N') (slots + N' + N' * K') Q (F0 m (pc + 4) ls (.ref q :: rest))) : W p l e R s m args below meth c H locs cells slots Q (F0 m pc ls (.int k :: .int n :: rest)) := by
  subst hN
  subst hM
  intro T hT Xs
  obtain ⟨vm₁, cA, comp, -, fA, fC, hO, -, X', step⟩ := Xs.multianewarray2F hexec hown hclink (va_AOA.use hover) harr (g := F0 m pc ls (.int k :: .int n :: rest)) rfl (by rw [hb]; exact hdg) rfl hn hk hb1 hb2 hb3 hdf hdd hcells hslots
  have ec : some cy = some comp := hcy.symm.trans fC
  cases ec
  generalize hF : Jvm.Free.Multi.fill (T.setVm vm₁) cA cy n.toNatClampNeg k.toNatClampNeg (defaultValue ty) n.toNatClampNeg = F at X' step
  have hTh : (T.setVm vm₁).heap = H := hT
  obtain ⟨f1, f2, -, -⟩ := Jvm.Free.Multi.fill_facts (T.setVm vm₁) cA cy n.toNatClampNeg k.toNatClampNeg (defaultValue ty) n.toNatClampNeg
  rw [hF, hTh] at f1 f2
  have hold : ∀ x : Nat, x < H.size → F.heap[x]? = H[x]? := fun x hx => by
    have := Jvm.Free.Multi.fill_old (T.setVm vm₁) cA cy n.toNatClampNeg k.toNatClampNeg (defaultValue ty) (a := x) (by rw [hTh]; exact hx) n.toNatClampNeg
    rw [hF, hTh] at this
    exact this
  have hrow : ∀ j : Nat, j < n.toNatClampNeg → F.heap[H.size + 1 + j]? = some (vp_cell cy z) := fun j hj => by
    have := Jvm.Free.Multi.fill_inner (T.setVm vm₁) cA cy n.toNatClampNeg k.toNatClampNeg (defaultValue ty) n.toNatClampNeg j hj
    rw [hF, hTh, hz] at this
    exact this
  have hout : Jvm.Free.Multi.outerC cA n.toNatClampNeg H.size n.toNatClampNeg = vp_cell cA (n.toNatClampNeg, .inr (.inr (.inr (.inr (fun i => if i < n.toNatClampNeg then some (H.size + 1 + i) else none))))) := by
    rw [vp_cell_q]
    exact vr_outer cA n.toNatClampNeg H.size n.toNatClampNeg
  rw [hout] at f2
  have hlt : ∀ a, a ∈ L → a < H.size := fun a ha => by
    obtain ⟨k9, hk9⟩ := va_pl_get (X := X) (f := f) ha
    exact (hP k9 _ hk9).lt
  have hnl : ∀ i : Nat, i < n.toNatClampNeg → H.size + 1 + i ∉ L := fun i _ h => by
    have := hlt _ h
    omega
  have hnm : ∀ a, a ∈ (List.range n.toNatClampNeg).map (fun i => H.size + 1 + i) → a ∉ L := fun a ha h => by
    obtain ⟨i, -, rfl⟩ := List.mem_map.mp ha
    have := hlt _ h
    omega
  have hP0 : va_P D cl (X ++ va_pl L f) F.heap := hP.kept (fun k9 x hx => hold x.1 ((hP k9 x hx).lt))
  have hP1 : va_P D cl ((X ++ va_pl L f) ++ [(H.size, .inl (cA, n.toNatClampNeg, .inr (.inr (.inr (.inr (fun i => if i < n.toNatClampNeg then some (H.size + 1 + i) else none))))))]) F.heap := hP0.app (fun k9 x hx => by
    have h0 : k9 < 1 := (List.getElem?_eq_some_iff.mp hx).1
    rw [show k9 = 0 by omega] at hx
    cases hx
    exact f2)
  have hP2 : va_P D cl (((X ++ va_pl L f) ++ [(H.size, .inl (cA, n.toNatClampNeg, .inr (.inr (.inr (.inr (fun i => if i < n.toNatClampNeg then some (H.size + 1 + i) else none))))))]) ++ ((List.range n.toNatClampNeg).map (fun i => H.size + 1 + i)).map (fun a => (a, .inl (cy, z)))) F.heap := hP1.app (fun k9 x hx => by
    obtain ⟨a, ha, rfl⟩ := List.mem_map.mp (List.mem_of_getElem? hx)
    obtain ⟨i, hi, rfl⟩ := List.mem_map.mp ha
    exact hrow i (List.mem_range.mp hi))
  have hD2 : va_D A (((X ++ va_pl L f) ++ [(H.size, .inl (cA, n.toNatClampNeg, .inr (.inr (.inr (.inr (fun i => if i < n.toNatClampNeg then some (H.size + 1 + i) else none))))))]) ++ ((List.range n.toNatClampNeg).map (fun i => H.size + 1 + i)).map (fun a => (a, .inl (cy, z)))) := by
    have hD1 := hD.push (e := .inl (cA, n.toNatClampNeg, .inr (.inr (.inr (.inr (fun i => if i < n.toNatClampNeg then some (H.size + 1 + i) else none)))))) hP rfl (hA _ hS.1)
    generalize hW1 : (X ++ va_pl L f) ++ [(H.size, .inl (cA, n.toNatClampNeg, .inr (.inr (.inr (.inr (fun i => if i < n.toNatClampNeg then some (H.size + 1 + i) else none))))))] = W1 at hD1 hP1 ⊢
    have hle : ∀ (k9 : Nat) (x : Nat × va_E), W1[k9]? = some x → x.1 ≤ H.size := fun k9 x hx => by
      rw [← hW1] at hx
      by_cases hl : k9 < (X ++ va_pl L f).length
      · rw [List.getElem?_append_left hl] at hx
        exact Nat.le_of_lt ((hP k9 x hx).lt)
      · rw [List.getElem?_append_right (by omega)] at hx
        have h0 : k9 - (X ++ va_pl L f).length < 1 := (List.getElem?_eq_some_iff.mp hx).1
        rw [show k9 - (X ++ va_pl L f).length = 0 by omega] at hx
        cases hx
        exact Nat.le_refl _
    have hr : ∀ (k9 : Nat) (x : Nat × va_E), (((List.range n.toNatClampNeg).map (fun i => H.size + 1 + i)).map (fun a => ((a, .inl (cy, z)) : Nat × va_E)))[k9]? = some x → x.1 = H.size + 1 + k9 := fun k9 x hx => by
      rw [List.getElem?_map, List.getElem?_map] at hx
      by_cases h9 : k9 < n.toNatClampNeg
      · rw [List.getElem?_range h9] at hx
        cases hx
        rfl
      · have hn0 : (List.range n.toNatClampNeg)[k9]? = none := List.getElem?_eq_none (by rw [List.length_range]; omega)
        rw [hn0] at hx
        cases hx
    refine ⟨fun i j x y hi hj hxy => ?_, fun k9 x hx => ?_⟩
    · by_cases h1 : i < W1.length <;> by_cases h2 : j < W1.length
      · rw [List.getElem?_append_left h1] at hi
        rw [List.getElem?_append_left h2] at hj
        exact hD1.1 i j x y hi hj hxy
      · rw [List.getElem?_append_left h1] at hi
        rw [List.getElem?_append_right (by omega)] at hj
        have := hle _ _ hi
        have := hr _ _ hj
        omega
      · rw [List.getElem?_append_right (by omega)] at hi
        rw [List.getElem?_append_left h2] at hj
        have := hle _ _ hj
        have := hr _ _ hi
        omega
      · rw [List.getElem?_append_right (by omega)] at hi hj
        have := hr _ _ hi
        have := hr _ _ hj
        omega
    · by_cases h1 : k9 < W1.length
      · rw [List.getElem?_append_left h1] at hx
        exact hD1.2 k9 x hx
      · rw [List.getElem?_append_right (by omega)] at hx
        have := hr _ _ hx
        exact hA _ (by have := hS.1; omega)
  have hAr : ArrOfT s cA (.array ty) := fun N9 z9 => by
    obtain ⟨-, k9, hk9, cm9, hkk9⟩ := (hO 0 0 0).1
    exact ⟨(fun q hq => by cases hq), k9, hk9, cm9, hkk9⟩
  have hK2 : va_K D cl (tys ++ [(cA, .array ty)]) s := ⟨hK.1, fun k9 x hx => by
    by_cases hl : k9 < tys.length
    · rw [List.getElem?_append_left hl] at hx
      exact hK.2 k9 x hx
    · rw [List.getElem?_append_right (by omega)] at hx
      have h0 : k9 - tys.length < 1 := (List.getElem?_eq_some_iff.mp hx).1
      rw [show k9 - tys.length = 0 by omega] at hx
      cases hx
      exact ⟨hAr, fA⟩⟩
  obtain ⟨t, a1, b1⟩ := kk H.size (fun i => H.size + 1 + i) cA F.heap (fun i j _ _ h => by have h9 : H.size + 1 + i = H.size + 1 + j := h; omega) hnl hK2 (by rw [← vr_rows hnm]; exact vr_lay hP2) (by rw [← vr_rows hnm]; exact vr_layD hD2) ⟨by rw [f1]; have := hS.1; omega, fun x h1 h2 => (hold x (Nat.lt_of_lt_of_le h1 hS.1)).trans (hS.2.1 x h1 h2), hS.2.2⟩ F rfl X'
  refine ⟨t, step t ?_, b1⟩
  have e : T.heap.size = H.size := by rw [hT]
  rw [e]
  exact a1
end VGM
/-! ===== END ===== -/

/-! OWN LAYER: constructors; the world behind one is known but for its new addresses -/
def zad (l : List Nat) (k : Nat) : Nat := l.getD k 0
def zPi (z : zE) (av : List Value) (w : va_W) (sz : Nat) : Array Value → State → Prop := va_Pc av (fun U => U.heap.size = sz ∧ va_P z.1 vwCl w U.heap ∧ (va_K z.1 vwCl (zty z) U ∧ zN U ∧ va_AOA .int U) ∧ va_D (fun _ => True) w)
theorem zz_blindI {z : zE} {av : List Value} {w : va_W} {sz : Nat} : FrameBlind (zPi z av w sz) := fun a U g mk q => by
  obtain ⟨q0, q1, qP, ⟨qK, qN, qO⟩, qD⟩ := q
  exact ⟨q0, q1, qP, ⟨va_K.moved (u := U) (U := U.calling g mk a) (Vm.Alike.refl U.vm) qK, zN.same qN rfl, va_AOA.moved (Vm.Alike.refl U.vm) qO⟩, qD⟩
def zQe (z : zE) (A : Nat → Prop) (v : Option Value) (Pw : va_W → Prop) : Array Value → State → Outcome → State → Prop := fun _ st oc t => (oc = .returned v ∧ ∃ w', Pw w' ∧ va_P z.1 vwCl w' t.heap ∧ va_D A w') ∧ va_F A st t
def zCe (z : zE) (l : Launch) (y : MethodName) (ws : List Cond) (rm : Room) (av : List Value) (w : va_W) (v : Option Value) (Pw : va_W → Prop) (mc ms : Nat) : Prop :=
  ∀ sz : Nat, Met l y ws rm (zPi z av w sz) (zQe z (va_A w sz) v Pw) mc ms (va_A w sz)
theorem zz_ofE {z : zE} {l : Launch} {y : MethodName} {cc : ByteArray} {maxL mc ms : Nat} {ret : Option FieldType} {rm : Room} {av : List Value} {w : va_W} {v : Option Value} {Pw : va_W → Prop} (hy : plainName y.cls = true) (hnl : (lg_sl av).length ≤ maxL)
    (body : ∀ (p : Program) (e : Env) (s : State) (m : MethodId) (args : Array Value) (below : List Frame) (meth : Method) (c : Code) (A0 : Nat → Prop) (ls : Array Slot), zM z p s m args c cc maxL y.cls → va_AOA .int s → meth.name = y.name → meth.sig.returnType = ret → meth.locks = false → (∀ q : Nat, s.heap.size ≤ q → A0 q) →
      va_P z.1 vwCl w s.heap → va_D A0 w → lv_has ls maxL (lv_args 0 av) → W p l e rm s m args below meth c s.heap [] 0 0 (MQ below (zQe z A0 v Pw) args s mc ms A0) (F0 m 0 ls [])) : zCe z l y (Cond.code y cc maxL ret :: zTb) rm av w v Pw mc ms := by
  intro sz
  refine Met.ofW (cc := cc) (maxL := maxL) (ret := ret) hy rfl ?_
  intro p e s m args below meth c s₁ B hml hv
  obtain ⟨rfl, hsz, hP, ⟨hK, hN, hO⟩, hD0⟩ := hv
  have hts := atoms_spec (ws := Cond.code y cc maxL ret :: zTb) B.pre
  have hown : s.vm.findClass y.cls = some m.cls := findClass_of_methodNamed B.named
  subst hsz
  have hl := lv_entry av (n := maxL) hnl
  rw [lg_entry_eq]
  exact body p e s m _ below meth c _ _ ⟨B.exec, B.bytes, hml, hown, fun w h => hts w (List.mem_cons_of_mem _ h), hK, hN⟩ hO (name_of_methodNamed B.named B.method).1 B.returns B.notSynchronized (fun q h => Or.inr h) hP (hD0.self (sz := s.heap.size)) hl
section ZCT
variable {z : zE} {p : Program} {l : Launch} {e : Env} {R : Room} {s : State} {m : MethodId} {args : Array Value} {below : List Frame} {meth : Method} {c : Code} {H : Heap} {locs : List Loc} {Q : State → Prop} {cc : ByteArray} {A0 : Nat → Prop} {pc cells slots : Nat} {ls : Array Slot} {w w' : va_W} {H0 : Heap} {rest : List Value}
theorem zz_vretE {Pw : va_W → Prop} {mc ms : Nat} (hx : p.tables.exec = Jvm.exec) (hb : c.code = cc) (hr : meth.sig.returnType = none) (hlocks : meth.locks = false) (hw : Pw w) (hP : va_P z.1 vwCl w H) (hD : va_D A0 w) (hS : va_S A0 s.heap H locs) (hc : cells ≤ mc) (hs : slots ≤ ms) (hdg : decode cc pc = .ok (.return_, 1)) :
    W p l e R s m args below meth c H locs cells slots (MQ below (zQe z A0 none Pw) args s mc ms A0) (F0 m pc ls []) :=
  W.widen hc hs (W.vret hx hb hr (fun t ht hW => ⟨⟨rfl, w, hw, by rw [ht]; exact hP, hD⟩, hS.F ht⟩) hS.2.2 hdg hlocks)
theorem zz_swP {D : va_G} {cl : List vw_C} {a b : va_W} (h : va_P D cl (a ++ b) H) : va_P D cl (b ++ a) H := va_P.swap (a := []) h
theorem zz_swD {A : Nat → Prop} {a b : va_W} (h : va_D A (a ++ b)) : va_D A (b ++ a) := va_D.swap (a := []) h
theorem zz_s3P {D : va_G} {cl : List vw_C} {a b d : va_W} (h : va_P D cl (a ++ (b ++ d)) H) : va_P D cl (b ++ (a ++ d)) H := by
  have h1 := zz_swP h
  rw [List.append_assoc] at h1
  have h2 : va_P D cl ((b ++ d) ++ a) H := by rw [List.append_assoc]; exact h1
  have h3 := va_P.swap h2
  rw [List.append_assoc] at h3
  exact h3
theorem zz_s3D {A : Nat → Prop} {a b d : va_W} (h : va_D A (a ++ (b ++ d))) : va_D A (b ++ (a ++ d)) := by
  have h1 := zz_swD h
  rw [List.append_assoc] at h1
  have h2 : va_D A ((b ++ d) ++ a) := by rw [List.append_assoc]; exact h1
  have h3 := va_D.swap h2
  rw [List.append_assoc] at h3
  exact h3
/-- a new array of numbers, behind the first cells -/
theorem zz_newa {L Rr : va_W} (hexec : p.tables.exec = Jvm.exec) (hb : c.code = cc) {atype : ArrayType} {ty : FieldType} {cA : ClassId} (t0 : Nat) (harr : (Cond.arrayClass (newarray.typeOf atype)).before args s = true) (hty : newarray.typeOf atype = ty) (ht : (zty z)[t0]? = some (cA, ty)) (hno : ∀ C : String, ty ≠ .object C) (hK : va_K z.1 vwCl (zty z) s) (hP : va_P z.1 vwCl (L ++ Rr) H) (hD : va_D A0 (L ++ Rr)) (hS : va_S A0 H0 H locs) (hA : ∀ q : Nat, H0.size ≤ q → A0 q)
    {n : Int32} {N' : Nat} {a0 : vp_A} (ha : ∀ cA : ClassId, vp_cell cA a0 = arrV cA N' (fun _ => defaultValue ty)) (hn : ¬ n < 0) (hN : n.toNatClampNeg = N') (hbytes : N' * componentBytes ty ≤ 536870912) (hcells : cells + 1 ≤ R.cells) (hslots : slots + N' ≤ R.slots) (hdg : decode cc pc = .ok (.newarray atype, 2))
    (kk : ∀ (q : Nat) (H1 : Heap), va_P z.1 vwCl ((L ++ [(q, .inl (cA, a0))]) ++ Rr) H1 → va_D A0 ((L ++ [(q, .inl (cA, a0))]) ++ Rr) → va_S A0 H0 H1 locs →
      W p l e R s m args below meth c H1 locs (cells + 1) (slots + N') Q (F0 m (pc + 2) ls (.ref q :: rest))) : W p l e R s m args below meth c H locs cells slots Q (F0 m pc ls (.int n :: rest)) := by
  refine va_newa hexec hb harr hty hK hP hD hS hA ha hn hN hbytes hcells hslots hdg (fun q cB H1 hK1 hP1 hD1 hS1 => ?_)
  have e1 := (hK1.2 4 (cB, ty) rfl).2
  have e2 := (hK.2 t0 _ ht).2
  have e : cB = cA := by
    cases ty with
    | object C => exact absurd rfl (hno C)
    | _ => exact Option.some.inj (e1.symm.trans e2)
  subst e
  exact kk q H1 (va_P.swap hP1) (va_D.swap hD1) hS1
/-- new int[32][24] -/
theorem zz_mna {L Rr : va_W} {own : String} {index : Nat} (hexec : p.tables.exec = Jvm.exec) (hb : c.code = cc) (hown : s.vm.findClass own = some m.cls) (hclink : (Cond.classLink own index "[[I").before args s = true) (hover : va_AOA .int s) (harr : (Cond.arrayClass .int).before args s = true) (hK : va_K z.1 vwCl (zty z) s) (hP : va_P z.1 vwCl (L ++ Rr) H) (hD : va_D A0 (L ++ Rr)) (hS : va_S A0 H0 H locs) (hA : ∀ q : Nat, H0.size ≤ q → A0 q)
    (hcells : cells + 33 ≤ R.cells) (hslots : slots + 800 ≤ R.slots) (hdg : decode cc pc = .ok (.multianewarray index 2, 4))
    (kk : ∀ (q : Nat) (r : Nat → Nat) (H1 : Heap), va_P z.1 vwCl ((L ++ [(q, .inl (zG z, 32, .inr (.inr (.inr (.inr (fun i => some (r i)))))))]) ++ ((List.range 32).map (fun i => (r i, (.inl (zI z, 24, .inl (fun _ => 0)) : va_E))) ++ Rr)) H1 → va_D A0 ((L ++ [(q, .inl (zG z, 32, .inr (.inr (.inr (.inr (fun i => some (r i)))))))]) ++ ((List.range 32).map (fun i => (r i, (.inl (zI z, 24, .inl (fun _ => 0)) : va_E))) ++ Rr)) → va_S A0 H0 H1 locs →
      W p l e R s m args below meth c H1 locs (cells + 33) (slots + 800) Q (F0 m (pc + 4) ls (.ref q :: rest))) : W p l e R s m args below meth c H locs cells slots Q (F0 m pc ls (.int 24 :: .int 32 :: rest)) := by
  have hI : s.vm.findClass (FieldType.array .int).toString = some (zI z) := (hK.2 0 _ rfl).2
  have hG : s.vm.findClass ("[" ++ (FieldType.array .int).toString) = some (zG z) := (hK.2 3 _ rfl).2
  refine va_mna (X := L ++ Rr) (L := []) (f := fun _ => .inl (zI z, 24, .inl (fun _ => 0))) (z := (24, .inl (fun _ => 0))) (N' := 32) (K' := 24) hexec hb hown hclink hover harr hI hK (by rw [show va_pl [] _ = [] from rfl, List.append_nil]; exact hP) (by rw [show va_pl [] _ = [] from rfl, List.append_nil]; exact hD) hS hA (by decide) (by decide) (by decide) (by decide) (by decide) (by decide) (by decide) rfl rfl hcells hslots (fun c => by rw [vp_cell_i, ← arrV_new]; rfl) hdg ?_
  intro q r cA H1 hinj hnot hK1 hP1 hD1 hS1
  have ec : cA = zG z := Option.some.inj ((hK1.2 4 (cA, .array .int) rfl).2.symm.trans hG)
  subst ec
  have er : va_pl ([] ++ (List.range 32).map r) (vr_up (fun _ => (.inl (zI z, 24, .inl (fun _ => 0)) : va_E)) ((List.range 32).map r) (.inl (zI z, 24, .inl (fun _ => 0)))) = (List.range 32).map (fun i => (r i, (.inl (zI z, 24, .inl (fun _ => 0)) : va_E))) := by
    unfold va_pl
    rw [List.nil_append, List.map_map]
    refine List.map_congr_left (fun i _ => ?_)
    show (r i, vr_up _ _ _ (r i)) = _
    unfold vr_up
    split <;> rfl
  rw [er] at hP1 hD1
  have hcell : vp_cell (zG z) (32, .inr (.inr (.inr (.inr (fun i => if i < 32 then some (r i) else none))))) = vp_cell (zG z) (32, .inr (.inr (.inr (.inr (fun i => some (r i)))))) := by
    rw [vp_cell_q, vp_cell_q]
    unfold arrV
    congr 1
  have sP : va_P z.1 vwCl ((((L ++ Rr) ++ [(q, (.inl (zG z, 32, .inr (.inr (.inr (.inr (fun i => some (r i)))))) : va_E))]) ++ (List.range 32).map (fun i => (r i, (.inl (zI z, 24, .inl (fun _ => 0)) : va_E))))) H1 := by
    refine va_P.app (va_P.app ?_ ?_) ?_
    · intro k x hx
      have hk : k < (L ++ Rr).length := (List.getElem?_eq_some_iff.mp hx).1
      exact hP1 k x (by rw [List.getElem?_append_left (by simp; simp at hk; omega), List.getElem?_append_left hk]; exact hx)
    · intro k x hx
      have hk : k < 1 := (List.getElem?_eq_some_iff.mp hx).1
      rw [show k = 0 by omega] at hx
      cases hx
      have h9 := hP1 (L ++ Rr).length (q, .inl (zG z, 32, .inr (.inr (.inr (.inr (fun i => if i < 32 then some (r i) else none)))))) (by rw [List.getElem?_append_left (by simp), List.getElem?_append_right (Nat.le_refl _)]; simp)
      show H1[q]? = some (vp_cell _ _)
      rw [← hcell]
      exact h9
    · intro k x hx
      exact hP1 (((L ++ Rr) ++ [(q, (.inl (zG z, 32, .inr (.inr (.inr (.inr (fun i => if i < 32 then some (r i) else none))))) : va_E))]).length + k) x (by rw [List.getElem?_append_right (Nat.le_add_right _ _)]; rw [Nat.add_sub_cancel_left]; exact hx)
  have sD : va_D A0 ((((L ++ Rr) ++ [(q, (.inl (zG z, 32, .inr (.inr (.inr (.inr (fun i => some (r i)))))) : va_E))]) ++ (List.range 32).map (fun i => (r i, (.inl (zI z, 24, .inl (fun _ => 0)) : va_E))))) := by
    have key : ∀ (k : Nat) (x : Nat × va_E), ((((L ++ Rr) ++ [(q, (.inl (zG z, 32, .inr (.inr (.inr (.inr (fun i => some (r i)))))) : va_E))]) ++ (List.range 32).map (fun i => (r i, (.inl (zI z, 24, .inl (fun _ => 0)) : va_E)))))[k]? = some x → ∃ y : Nat × va_E, ((((L ++ Rr) ++ [(q, (.inl (zG z, 32, .inr (.inr (.inr (.inr (fun i => if i < 32 then some (r i) else none))))) : va_E))]) ++ (List.range 32).map (fun i => (r i, (.inl (zI z, 24, .inl (fun _ => 0)) : va_E)))))[k]? = some y ∧ y.1 = x.1 := by
      intro k x hx
      by_cases h1 : k < (L ++ Rr).length
      · rw [List.getElem?_append_left (by simp; simp at h1; omega), List.getElem?_append_left h1] at hx ⊢
        exact ⟨x, hx, rfl⟩
      · by_cases h2 : k = (L ++ Rr).length
        · subst h2
          rw [List.getElem?_append_left (by simp), List.getElem?_append_right (Nat.le_refl _)] at hx ⊢
          simp at hx ⊢
          rw [← hx]
        · rw [List.getElem?_append_right (by simp; simp at h1 h2; omega)] at hx ⊢
          refine ⟨x, ?_, rfl⟩
          simpa using hx
    refine ⟨fun i j x y hi hj hxy => ?_, fun k x hx => ?_⟩
    · obtain ⟨x', hx', ex⟩ := key i x hi
      obtain ⟨y', hy', ey⟩ := key j y hj
      exact hD1.1 i j x' y' hx' hy' (by rw [ex, ey]; exact hxy)
    · obtain ⟨x', hx', ex⟩ := key k x hx
      rw [← ex]
      exact hD1.2 k x' hx'
  refine kk q r H1 ?_ ?_ hS1
  · have h1 := sP
    rw [List.append_assoc (L ++ Rr)] at h1
    have h2 := va_P.swap h1
    rw [← List.append_assoc L] at h2
    rw [List.append_assoc (L ++ _)] at h2
    exact h2
  · have h1 := sD
    rw [List.append_assoc (L ++ Rr)] at h1
    have h2 := va_D.swap h1
    rw [← List.append_assoc L] at h2
    rw [List.append_assoc (L ++ _)] at h2
    exact h2
variable {y : MethodName} {bytes : ByteArray} {maxL nL n index mc ms : Nat} {ws : List Cond} {rm : Room} {Ts : List Cond} {own : String} {b : Addr} {As st0 : List Value} {v : Option Value} {Pw : va_W → Prop}
/-- a constructor called -/
theorem zz_goE (hM : zCe z l y ws rm (.ref b :: As) w none Pw mc ms) (S : CallFix p m c cc nL s args Ts own) (cw : CallB R s args own index y bytes maxL none ws rm mc ms n ∧ y.name = "<init>" ∧ (Cond.instanceMethod y).before args s = true) (hK : va_K z.1 vwCl (zty z) s) (hN : zN s) (hO : va_AOA .int s) (hP : va_P z.1 vwCl w H) (hD : va_D A0 w) (hS : va_S A0 H0 H locs) (hA : ∀ q : Nat, H0.size ≤ q → A0 q)
    (hn : As.length = n) (hsize : ls.size = nL) (hstack : st0 = As.reverse ++ .ref b :: rest) (hW : (rest.map fun v => v.category).sum ≤ 8) (hdg : decode cc pc = .ok (.invokespecial index, 3)) (hf : cells + mc ≤ R.cells ∧ slots + ms ≤ R.slots)
    (kk : ∀ (w' : va_W) (H1 : Heap) (locs1 : List Loc), Pw w' → va_P z.1 vwCl w' H1 → va_D A0 w' → va_S A0 H0 H1 locs1 → W p l e R s m args below meth c H1 locs1 (cells + mc) (slots + ms) Q (F0 m (pc + 3) ls rest)) : W p l e R s m args below meth c H locs cells slots Q (F0 m pc ls st0) := by
  have hF : ∀ q : Nat, va_A w H.size q → A0 q := fun q h => by
    rcases h with ⟨k, x, h⟩ | h
    · exact hD.2 k (q, x) h
    · exact hA q (Nat.le_trans hS.1 h)
  have hr := va_runI (l := l) (e := e) (below := below) (meth := meth) (locs := locs) (cells := cells) (slots := slots) (rest := rest) S (hM H.size) cw ⟨zz_blindI, fun U hU hW => ⟨rfl, by rw [hU], by rw [hU]; exact hP, ⟨va_K.moved hW.alike hK, hN.warm hW, va_AOA.moved hW.alike hO⟩, hD.weaken (fun _ _ _ _ => trivial)⟩⟩ (g := F0 m pc ls st0) rfl hn hsize hstack (lv_room hW) hdg hf
  intro T hT X
  obtain ⟨v', st₀, t, T', L, h0, X', hL, e1, e2, ⟨⟨hv, w', hw, hp, hd⟩, hz, hk⟩, st⟩ := hr T hT X
  cases hv
  rw [h0] at hz hk
  obtain ⟨t2, a1, b1⟩ := kk w' T'.heap (locs ++ L) hw (by rw [e1]; exact hp) (hd.weaken (fun _ q _ h => hF q.1 h))
    ⟨Nat.le_trans hS.1 (by rw [e1]; exact hz), fun q h1 h2 => by rw [e1, hk q (Nat.lt_of_lt_of_le h1 hS.1) (fun z => h2 (hF q z))]; exact hS.2.1 q h1 h2, fun q hq => by
      rcases List.mem_append.mp hq with h | h
      · exact hS.2.2 q h
      · exact hF _ (hL q h)⟩ T' rfl X'
  exact ⟨t2, st t2 a1, b1⟩
end ZCT
