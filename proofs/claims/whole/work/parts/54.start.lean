/-! OWN LAYER: what stands at the law's entry -/
theorem zz_arr {ty : FieldType} {args : Array Value} {s : State} (h : (Cond.arrayClass ty).before args s = true) (hno : ∀ C : String, ty ≠ .object C) : ∃ cA : ClassId, ArrOfT s cA ty ∧ va_RA s cA ty := by
  obtain ⟨c, k, comp, h1, h2, h3⟩ := Cond.arrayClass_spec h
  refine ⟨c, fun n z => ⟨fun k h => (by cases h), k, h2, comp, h3⟩, ?_⟩
  cases ty with
  | object C => exact absurd rfl (hno C)
  | _ => exact h1
theorem zz_over {ty : FieldType} {args : Array Value} {s : State} (h : (Cond.arrayOver (.array ty)).before args s = true) : ∃ cA : ClassId, ArrOfT s cA (.array ty) ∧ va_RA s cA (.array ty) := by
  simp only [Cond.before, Cond.holds, Cond.value, beq_iff_eq] at h
  cases hc : s.vm.findClass (FieldType.array ty).toString with
  | none => simp [hc] at h
  | some comp =>
    simp only [hc, Option.bind_some, Option.bind_eq_some_iff, Option.map_eq_some_iff] at h
    obtain ⟨c, hi, k, hk, hb⟩ := h
    cases hkind : k.kind with
    | array component ty' =>
      rw [hkind] at hb
      simp at hb
      obtain ⟨h1, h2⟩ := hb
      subst h1
      exact ⟨c, fun n z => ⟨fun k h => (by cases h), k, hk, component, hkind⟩, h2⟩
    | _ => rw [hkind] at hb; simp at hb
theorem zz_t1 {w : Cond} (i : Nat) (h : tables_1[i]? = some w) : w ∈ lw_tbl := List.mem_append_right _ (List.mem_of_getElem? h)
theorem zz_stN {args : Array Value} {s : State} (hts : ∀ w ∈ lw_tbl, w.before args s = true) : zN s := by
  have h1 : ∀ q ∈ zNf, Cond.fieldLinkNest q.1 q.2.1 q.2.2.1 q.2.2.2.1 q.2.2.2.2 "MemberChooser" ∈ tables_1 := by decide +kernel
  have h2 : ∀ q ∈ zNm, Cond.methodLinkNest q.1 q.2.1 q.2.2 "MemberChooser" ∈ tables_1 := by decide +kernel
  exact ⟨fun k q hq => va_Nw.of rfl (hts _ (List.mem_append_right _ (h1 q (List.mem_of_getElem? hq)))), fun k q hq => va_Nw.of rfl (hts _ (List.mem_append_right _ (h2 q (List.mem_of_getElem? hq))))⟩
theorem zz_stS {args : Array Value} {s : State} (hts : ∀ w ∈ lw_tbl, w.before args s = true) (hgv : (Jvm.Cond.and given_1 narrow_1).before args s = true) : zSt s := by
  have hf := flat_of_before _ hgv
  have h1 : ∀ q ∈ zXs, Cond.stringRef "MemberChooser" q.1 q.2 ∈ tables_1 := by decide +kernel
  have h2 : ∀ q ∈ zXs, Cond.exactly (.string "MemberChooser" q.1) "java/lang/String" ∈ flatC (Jvm.Cond.and given_1 narrow_1) := by decide +kernel
  have h3 : ∀ q ∈ zNcs, Cond.not (.castable q.1 q.2) ∈ flatC (Jvm.Cond.and given_1 narrow_1) := by decide +kernel
  have h4 : ∀ q ∈ [eIA, eIS, eAR, eNS], Cond.castable q q ∈ tables_1 := by decide +kernel
  refine ⟨fun k q hq => ?_, fun k q hq => va_Nc.of (hf _ (h3 q (List.mem_of_getElem? hq))), fun k q hq => va_Nw.of rfl (hts _ (List.mem_append_right _ (h4 q (List.mem_of_getElem? hq))))⟩
  obtain ⟨a, -, -, -, he, -⟩ := Cond.exactly_spec (hf _ (h2 q (List.mem_of_getElem? hq)))
  exact ⟨a, vk_R.of (hts _ (List.mem_append_right _ (h1 q (List.mem_of_getElem? hq)))) he⟩
theorem zz_stT {args : Array Value} {s : State} (hts : ∀ w ∈ lw_tbl, w.before args s = true) (hgv : (Jvm.Cond.and given_1 narrow_1).before args s = true) : zTh (fun q : Nat => s.heap.size ≤ q) s.vm s.heap := by
  have hf := flat_of_before _ hgv
  have hu1 : (Cond.laysStatic "java/lang/Throwable" "UNASSIGNED_STACK" "[Ljava/lang/StackTraceElement;").before args s = true := hts _ (zz_t1 317 (by decide +kernel))
  have hu2 : (Cond.laysStatic "java/lang/Throwable" "SUPPRESSED_SENTINEL" "Ljava/util/List;").before args s = true := hts _ (zz_t1 319 (by decide +kernel))
  have hr1 : (Cond.isRef (.static "java/lang/Throwable" "UNASSIGNED_STACK" "[Ljava/lang/StackTraceElement;")).before args s = true := hf _ (by decide +kernel)
  have hr2 : (Cond.isRef (.static "java/lang/Throwable" "SUPPRESSED_SENTINEL" "Ljava/util/List;")).before args s = true := hf _ (by decide +kernel)
  obtain ⟨c, k, i, f, a, cell, hc, hi, hst, ha, hcell, hs, hcls, hlt, hty⟩ := Cond.laysStatic_spec hu1
  obtain ⟨c', k', i', f', a', cell', hc', hi', hst', ha', hcell', hs', hcls', hlt', hty'⟩ := Cond.laysStatic_spec hu2
  have ec : c' = c := Option.some.inj (hc'.symm.trans hc)
  subst ec
  have ek : k' = k := Option.some.inj ((State.fieldFound?_spec hi').1.symm.trans (State.fieldFound?_spec hi).1)
  subst ek
  have ea : a' = a := Option.some.inj (ha'.symm.trans ha)
  subst ea
  have ecc : cell' = cell := Option.some.inj (hcell'.symm.trans hcell)
  subst ecc
  obtain ⟨u1, hv1⟩ := Cond.staticRefV hi hst ha hcell hs hr1
  obtain ⟨u2, hv2⟩ := Cond.staticRefV hi' hst' ha hcell hs hr2
  refine ⟨a', cell', hcell, Nat.not_le.mpr (Array.getElem?_eq_some_iff.mp hcell).1, fun U hU hcU => ?_⟩
  obtain ⟨k1, hi1, hek1⟩ := State.fieldFound?_setVm (s := s) hU hi
  obtain ⟨k2, hi2, hek2⟩ := State.fieldFound?_setVm (s := s) hU hi'
  have hi1' : U.fieldFound? "java/lang/Throwable" "UNASSIGNED_STACK" "[Ljava/lang/StackTraceElement;" = some (c', k1, i, f) := hi1
  have hi2' : U.fieldFound? "java/lang/Throwable" "SUPPRESSED_SENTINEL" "Ljava/util/List;" = some (c', k2, i', f') := hi2
  have hcU1 : U.vm.findClass "java/lang/Throwable" = some c' := by rw [hU.findClass]; exact hc
  have hs1 : k1.statics = some a' := by rw [hek1]; exact ha
  have hs2 : k2.statics = some a' := by rw [hek2]; exact ha
  have key : ∀ w : Cond, w ∈ [Cond.castable eIA eIA, .castable eIS eIS, .castable eAR eAR, .castable eNS eNS] → ∀ v : Array Value, w.before v U = true := by
    have h4 : ∀ w ∈ [Cond.castable eIA eIA, .castable eIS eIS, .castable eAR eAR, .castable eNS eNS], w ∈ tables_1 := by decide +kernel
    intro w hw v
    have h5 := hts w (List.mem_append_right _ (h4 w hw))
    simp only [List.mem_cons, List.not_mem_nil, or_false] at hw
    rcases hw with rfl | rfl | rfl | rfl
    all_goals exact va_tabs rfl (rfl : (s.setVm U.vm).vm = U.vm) (by rw [Cond.castable_setVm (args := args) hU]; exact h5)
  have key2 : ∀ x : MethodName, Cond.declares x ∈ tables_1 → ∀ v : Array Value, (Cond.declares x).before v U = true := fun x hx v => va_tabs rfl (rfl : (s.setVm U.vm).vm = U.vm) (by rw [Cond.declares_setVm (args := args) hU]; exact hts _ (List.mem_append_right _ hx))
  intro w hw v
  unfold zXw at hw
  simp only [List.mem_cons, List.not_mem_nil, or_false] at hw
  rcases hw with rfl | rfl | rfl | rfl | rfl | rfl | rfl | rfl | rfl | rfl | rfl
  · exact key _ (by simp) v
  · exact key _ (by simp) v
  · exact key _ (by simp) v
  · exact key _ (by simp) v
  · exact key2 _ (by decide +kernel) v
  · exact key2 _ (by decide +kernel) v
  · exact key2 _ (by decide +kernel) v
  · exact Cond.laysStatic_of hcU1 hi1' hst hs1 hcU hs hcls hlt (by rw [hek1]; exact hty)
  · exact Cond.laysStatic_of hcU1 hi2' hst' hs2 hcU hs hcls hlt' (by rw [hek2]; exact hty')
  · have he : (Term.static "java/lang/Throwable" "UNASSIGNED_STACK" "[Ljava/lang/StackTraceElement;").eval v U none [] U = some u1.v := by
      rw [← hv1]; simp [Term.eval, State.fieldNamed?, hi1', hst, hs1, hcU, hs]
    obtain ⟨vv, hvv⟩ := u1
    simp only [Cond.before, Cond.holds, Cond.value, he]
    cases vv <;> simp [Value.isRef] at hvv <;> rfl
  · have he : (Term.static "java/lang/Throwable" "SUPPRESSED_SENTINEL" "Ljava/util/List;").eval v U none [] U = some u2.v := by
      rw [← hv2]; simp [Term.eval, State.fieldNamed?, hi2', hst', hs2, hcU, hs]
    obtain ⟨vv, hvv⟩ := u2
    simp only [Cond.before, Cond.holds, Cond.value, he]
    cases vv <;> simp [Value.isRef] at hvv <;> rfl
theorem zz_stK {args : Array Value} {s : State} (hts : ∀ w ∈ lw_tbl, w.before args s = true) : ∃ z : zE, va_K z.1 vwCl (zty z) s := by
  obtain ⟨c0, i0, h0⟩ := u_known (C := R_X) (T := F_X) (N := 6) (n := 6) hts il_X (hts _ (List.mem_append_right _ (by decide +kernel)))
  obtain ⟨c1, i1, h1⟩ := u_known (C := R_T) (T := F_T) (N := 6) (n := 6) hts il_T (hts _ (List.mem_append_right _ (by decide +kernel)))
  obtain ⟨c2, i2, h2⟩ := u_known (C := R_M) (T := F_M) (N := 6) (n := 6) hts il_M (hts _ (List.mem_append_right _ (by decide +kernel)))
  obtain ⟨c3, i3, h3⟩ := u_known (C := R_H) (T := F_H) (N := 8) (n := 8) hts il_H (hts _ (List.mem_append_right _ (by decide +kernel)))
  obtain ⟨c4, i4, h4⟩ := u_known (C := R_K) (T := F_K) (N := 6) (n := 6) hts il_K (hts _ (List.mem_append_right _ (by decide +kernel)))
  obtain ⟨c5, i5, h5⟩ := u_known (C := R_Q) (T := F_Q) (N := 28) (n := 28) hts il_Q (hts _ (List.mem_append_right _ (by decide +kernel)))
  obtain ⟨aI, hI⟩ := zz_arr (ty := .int) (hts _ (List.mem_append_right _ (by decide +kernel))) (fun C h => by cases h)
  obtain ⟨aZ, hZ⟩ := zz_arr (ty := .boolean) (hts _ (List.mem_append_right _ (by decide +kernel))) (fun C h => by cases h)
  obtain ⟨aL, hL⟩ := zz_arr (ty := .long) (hts _ (List.mem_append_right _ (by decide +kernel))) (fun C h => by cases h)
  obtain ⟨aG, hG⟩ := zz_over (ty := .int) (hts _ (zz_t1 31 (by decide +kernel)))
  refine ⟨((fun k => if k = 0 then c0 else if k = 1 then c1 else if k = 2 then c2 else if k = 3 then c3 else if k = 4 then c4 else c5, fun k => if k = 0 then i0 else if k = 1 then i1 else if k = 2 then i2 else if k = 3 then i3 else if k = 4 then i4 else i5), aI, aZ, aL, aG), ?_, ?_⟩
  · intro k q hq
    match k, hq with
    | 0, hq => cases hq; exact h0
    | 1, hq => cases hq; exact h1
    | 2, hq => cases hq; exact h2
    | 3, hq => cases hq; exact h3
    | 4, hq => cases hq; exact h4
    | 5, hq => cases hq; exact h5
    | k + 6, hq => simp at hq
  · intro k q hq
    match k, hq with
    | 0, hq => cases hq; exact hI
    | 1, hq => cases hq; exact hZ
    | 2, hq => cases hq; exact hL
    | 3, hq => cases hq; exact hG
    | k + 4, hq => simp [zty] at hq
