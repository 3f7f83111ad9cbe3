theorem zz_wd0 : Cond.classLink "MemberChooserLaw" 8 "MemberChooser" ∈ zTb := zz_in 16 (by decide +kernel) rfl
theorem zz_wd1 : Cond.instantiable "MemberChooser" 6 ∈ zTb := zz_in 17 (by decide +kernel) rfl
theorem zz_wd2 : Cond.code ⟨"MemberChooser", "<init>", "()V"⟩ prog_1_method_1_code 1 (Option.none : Option Jvm.ClassFile.FieldType) ∈ zTb := zz_in 20 (by decide +kernel) rfl
theorem zz_wd3 : Cond.methodLink "MemberChooserLaw" 33 ⟨"MemberChooser", "<init>", "()V"⟩ ∈ zTb := zz_in 18 (by decide +kernel) rfl
theorem zz_wd4 : Cond.instanceMethod ⟨"MemberChooser", "<init>", "()V"⟩ ∈ zTb := zz_in 19 (by decide +kernel) rfl
theorem zz_wd5 : Cond.classLink "MemberChooserLaw" 34 "MemberChooserModel" ∈ zTb := zz_in 545 (by decide +kernel) rfl
theorem zz_wd6 : Cond.instantiable "MemberChooserModel" 28 ∈ zTb := zz_in 546 (by decide +kernel) rfl
theorem zz_wd7 : Cond.code ⟨"MemberChooserModel", "<init>", "()V"⟩ prog_7_method_1_code 1 (Option.none : Option Jvm.ClassFile.FieldType) ∈ zTb := zz_in 549 (by decide +kernel) rfl
theorem zz_wd8 : Cond.methodLink "MemberChooserLaw" 36 ⟨"MemberChooserModel", "<init>", "()V"⟩ ∈ zTb := zz_in 547 (by decide +kernel) rfl
theorem zz_wd9 : Cond.instanceMethod ⟨"MemberChooserModel", "<init>", "()V"⟩ ∈ zTb := zz_in 548 (by decide +kernel) rfl
/-! THE CLAIM OUT OF ONE WALK OF THE LAW'S BODY. Your part is whole_start (and what it stands on); all else here is the same for every law, but numbers. -/
def R_law : String := "MemberChooserLaw"
def lw_P (b : Addr) (xs : List Int32) (args : Array Value) (s : State) : Prop := args = #[.ref b] ∧ s.IntsAt b xs ∧ xs.length ≤ 3584 ∧ (Jvm.Cond.and given_1 narrow_1).before args s = true
def lw_Q (_ : Array Value) (s : State) (o : Outcome) (t : State) : Prop := o = .returned (some (.int 1)) ∧ Framed s o t [] 601024 7293033
def lw_Z (below : List Frame) (a : Array Value) (s : State) : State → Prop := fun t => ∃ o, t.status = .running ∧ Ended t below o ∧ lw_Q a s o t
/-- the law's own end, with 1 on the stack, nothing written that was there before, its room as the claim has it -/
theorem lw_ret {p : Program} {l : Launch} {e : Env} {s : State} {m : MethodId} {below : List Frame} {meth : Method} {c : Code} {b : Nat} (hx : p.tables.exec = Jvm.exec) (hb : c.code = code) (hr : meth.sig.returnType = ret) (hlocks : meth.locks = false) {pc : Nat} {H : Heap} {ls : Array Slot} (hdg : decode code pc = .ok (.ireturn, 1)) : W p l e room_1 s m #[Value.ref b] below meth c H [] 601024 7293033 (lw_Z below #[Value.ref b] s) (F0 m pc ls [.int 1]) := by
  intro T hT X
  obtain ⟨fs, hret, hrun, hended, hW, hframe⟩ := X.leave (v := some (.int 1)) (hlocks := hlocks) (fun h => by rw [hr] at h; cases h)
  have hmeth' : T.vm.method? m = some meth := X.method'
  refine ⟨T.setFrames fs, ?_, .returned (some (.int 1)), hrun, hended, rfl, ⟨_, rfl⟩, hW, hframe⟩
  jvm_step X.here [X.here.top, hx, hb, hdg, hmeth', hr, ret, narrow_b1]
  (try refine ⟨rfl, ?_⟩); (try refine ⟨rfl, ?_⟩)
  first | (intro acts; rw [hret _ acts rfl rfl rfl]) | rw [hret _ _ rfl rfl rfl]
  exact Steps.refl _
/-- what holds at the law's entry: the machine, the code, the tables' words (any of lw_tbl by 'hts w (by decide +kernel)'), the script of L ints xs at the cell b, what the Statement gives of the start (any of its parts by flat_of_before) -/
def lw_At (p : Program) (s : State) (m : MethodId) (meth : Method) (c : Code) (b L : Nat) (xs : Nat → Int32) : Prop :=
  p.tables.exec = Jvm.exec ∧ c.code = code ∧ meth.sig.returnType = ret ∧ c.maxLocals = 7 ∧ s.vm.findClass R_law = some m.cls ∧ (∀ w ∈ lw_tbl, w.before #[Value.ref b] s = true) ∧ va_X b L xs s s.heap ∧ b < s.heap.size ∧ meth.locks = false ∧ (Jvm.Cond.and given_1 narrow_1).before #[Value.ref b] s = true
set_option maxRecDepth 100000 in
set_option maxHeartbeats 4000000 in
theorem zz_whole {p : Program} {e : Env} {s : State} {m : MethodId} {below : List Frame} {meth : Method} {c : Code} (l : Launch) (hl0 : l.stackTraces = false) {b L : Nat} {xs : Nat → Int32} (C0 : lw_At p s m meth c b L xs) (n1 n : Nat) (S' : ZT) (hT : fx_T_init n1 zT0 = some S') (hz : zloop (fun (st : Int32 × ZC × ZQ × (Nat → Int64)) => st_law n xs L st.1 st.2.1 st.2.2.1 st.2.2.2) n (0, zS0 S', zQ0, fun _ => 0) = some ()) : W p l e room_1 s m #[Value.ref b] below meth c s.heap [] 0 0 (lw_Z below #[Value.ref b] s) (entryFrame m ([Value.ref b] : List Value).toArray 7) := by
  obtain ⟨hx, hb, hr, hml, hown, hts0, hX, hbl, hlocks, hgv⟩ := id C0
  obtain ⟨z, hK⟩ := zz_stK hts0
  have hN := zz_stN hts0
  have hSt := zz_stS hts0 hgv
  have hTh := zz_stT hts0 hgv
  have hO : va_AOA .int s := (hts0 _ (zz_t1 (w := .arrayOver (.array .int)) 31 (by decide +kernel)) : (Cond.arrayOver (.array .int)).before #[Value.ref b] s = true)
  have hts : ∀ w ∈ zTb, w.before #[Value.ref b] s = true := fun w h => hts0 w (List.mem_filter.mp h).1
  have hown : s.vm.findClass "MemberChooserLaw" = some m.cls := hown
  have hA : ∀ q : Nat, s.heap.size ≤ q → (fun q : Nat => s.heap.size ≤ q) q := fun _ h => h
  have hbA : ¬ (fun q : Nat => s.heap.size ≤ q) b := Nat.not_le.mpr hbl
  have hS : va_S (fun q : Nat => s.heap.size ≤ q) s.heap s.heap [] := va_S.rf
  have hP : va_P z.1 vwCl [] s.heap := fun k q h => by simp at h
  have hD : va_D (fun q : Nat => s.heap.size ≤ q) [] := ⟨fun i j p q h => by simp at h, fun k q h => by simp at h⟩
  have hl := lv_entry ([.ref b]) (n := 7) (Nat.le_of_ble_eq_true rfl)
  rw [lg_entry_eq]
  generalize (lg_sl ([.ref b]) ++ List.replicate (7 - (lg_sl ([.ref b])).length) Slot.unset).toArray = ls at hl ⊢
  have hl : lv_has ls 7 [(0, .ref b)] := hl
  refine va_new (ci := 0) (fs := [.null, .null, .null, .null, .int 0, .int 0]) (C := R_X) (T := F_X) (N := 6) hx hb hts i_X ty_X ty_X_ok hown (hts _ (zz_wd0)) (hts _ (zz_wd1)) (hts _ wq_1) hK hP hD hS hA rfl (fun j hj => by rcases (show j = 0 ∨ j = 1 ∨ j = 2 ∨ j = 3 ∨ j = 4 ∨ j = 5 by omega) with rfl | rfl | rfl | rfl | rfl | rfl <;> rfl) (Nat.le_of_ble_eq_true rfl) (Nat.le_of_ble_eq_true rfl) d_L_law_0 (fun qX H hP hD hS => ?_)
  have hP : va_P z.1 vwCl ([(qX, .inr (0, [.null, .null, .null, .null, .int 0, .int 0]))] ++ []) H := hP
  have hD : va_D (fun q : Nat => s.heap.size ≤ q) ([(qX, .inr (0, [.null, .null, .null, .null, .int 0, .int 0]))] ++ []) := hD
  refine lv_dup hx hb d_L_law_3 rfl ?_
  refine zz_goE (As := []) (rest := [.ref qX]) (k_X_init l z [] qX n1 S' hT) ⟨hx, hb, hml, hown, hts⟩ (cwI 0 hts (zz_gC (zz_wd2)) rfl rfl rfl (hts _ wq_1) (hts _ (zz_wd3)) (hts _ (zz_wd4)) rfl (by decide +kernel) ⟨Nat.le_of_ble_eq_true rfl, Nat.le_of_ble_eq_true rfl⟩) hK hN hO hP hD hS hA rfl hl.1 rfl (Nat.le_of_ble_eq_true rfl) d_L_law_4 ⟨Nat.le_of_ble_eq_true rfl, Nat.le_of_ble_eq_true rfl⟩ (fun w' H locs hw hP9 hD9 hS => ?_)
  obtain ⟨A, eA, rfl⟩ := hw
  subst eA
  rw [List.append_nil] at hP9 hD9
  refine lv_astore_n (lv' := [(1, .ref (A 0)), (0, .ref b)]) hx hb d_L_law_7 rfl hl (by decide) rfl (fun ls hl => ?_)
  refine va_new (ci := 5) (fs := [.int 0, .int 0, .null, .null, .null, .null, .int 0, .null, .null, .null, .null, .null, .int 0, .null, .null, .null, .null, .null, .int 0, .int 0, .int 0, .null, .int 0, .null, .int 0, .null, .null, .null]) (C := R_Q) (T := F_Q) (N := 28) hx hb hts i_Q ty_Q ty_Q_ok hown (hts _ (zz_wd5)) (hts _ (zz_wd6)) (hts _ wq_6) hK hP9 hD9 hS hA rfl (fun j hj => by rcases (show j = 0 ∨ j = 1 ∨ j = 2 ∨ j = 3 ∨ j = 4 ∨ j = 5 ∨ j = 6 ∨ j = 7 ∨ j = 8 ∨ j = 9 ∨ j = 10 ∨ j = 11 ∨ j = 12 ∨ j = 13 ∨ j = 14 ∨ j = 15 ∨ j = 16 ∨ j = 17 ∨ j = 18 ∨ j = 19 ∨ j = 20 ∨ j = 21 ∨ j = 22 ∨ j = 23 ∨ j = 24 ∨ j = 25 ∨ j = 26 ∨ j = 27 by omega) with rfl | rfl | rfl | rfl | rfl | rfl | rfl | rfl | rfl | rfl | rfl | rfl | rfl | rfl | rfl | rfl | rfl | rfl | rfl | rfl | rfl | rfl | rfl | rfl | rfl | rfl | rfl | rfl <;> rfl) (Nat.le_of_ble_eq_true rfl) (Nat.le_of_ble_eq_true rfl) d_L_law_8 (fun qQ H hP8 hD8 hS => ?_)
  have hP8 := zz_swP hP8
  have hD8 := zz_swD hD8
  refine lv_dup hx hb d_L_law_11 rfl ?_
  refine zz_goE (As := []) (rest := [.ref qQ]) (k_Q_init l z (cw z A (zS0 S')) qQ) ⟨hx, hb, hml, hown, hts⟩ (cwI 0 hts (zz_gC (zz_wd7)) rfl rfl rfl (hts _ wq_6) (hts _ (zz_wd8)) (hts _ (zz_wd9)) rfl (by decide +kernel) ⟨Nat.le_of_ble_eq_true rfl, Nat.le_of_ble_eq_true rfl⟩) hK hN hO hP8 hD8 hS hA rfl hl.1 rfl (Nat.le_of_ble_eq_true rfl) d_L_law_12 ⟨Nat.le_of_ble_eq_true rfl, Nat.le_of_ble_eq_true rfl⟩ (fun w' H locs hw hP7 hD7 hS => ?_)
  obtain ⟨B, eB, rfl⟩ := hw
  subst eB
  refine lv_astore_n (lv' := [(2, .ref (B 0)), (1, .ref (A 0)), (0, .ref b)]) hx hb d_L_law_15 rfl hl (by decide) rfl (fun ls hl => ?_)
  refine lv_iconst (v := 1) hx hb d_L_law_16 (by decide) ?_
  refine zz_newa (L := qw z B zQ0) (Rr := cw z A (zS0 S')) hx hb 2 (atype := .long) (a0 := (1, .inr (.inl (fun _ => 0)))) (N' := 1) (hts _ wq_89) rfl rfl (fun C h => by cases h) hK hP7 hD7 hS hA (fun _ => rfl) (by decide) (by decide) (by decide) (Nat.le_of_ble_eq_true rfl) (Nat.le_of_ble_eq_true rfl) d_L_law_17 (fun o H hP6 hD6 hS => ?_)
  have hP5 := va_P.swap hP6
  have hD5 := va_D.swap hD6
  rw [List.append_assoc] at hP5 hD5
  have hP : va_P z.1 vwCl (lww z A B o (zS0 S') zQ0 (fun _ => 0)) H := lw_ofQ hP5
  have hD : va_D (fun q : Nat => s.heap.size ≤ q) (lww z A B o (zS0 S') zQ0 (fun _ => 0)) := lw_ofQd hD5
  refine lv_astore_n (lv' := [(3, .ref o), (2, .ref (B 0)), (1, .ref (A 0)), (0, .ref b)]) hx hb d_L_law_19 rfl hl (by decide) rfl (fun ls hl => ?_)
  refine lv_iconst (v := 0) hx hb d_L_law_20 (by decide) ?_
  refine lv_istore (lv' := [(4, .int 0), (3, .ref o), (2, .ref (B 0)), (1, .ref (A 0)), (0, .ref b)]) hx hb d_L_law_21 hl (by decide) rfl (fun ls hl => ?_)
  refine W.widen (k := 76 + (0 : Int32).toNatClampNeg) (n := 5507 + 6 * (0 : Int32).toNatClampNeg) (Nat.le_of_ble_eq_true rfl) (Nat.le_of_ble_eq_true rfl) ?_
  refine lp_law hl0 ⟨hx, hb, hml, hown, hts, hK, hN⟩ hSt hTh hA hX hbl hbA n (0, zS0 S', zQ0, fun _ => 0) hz ?_ _ _ _ hP hD hS (lv_sub hl [4, 3, 2, 1, 0] rfl)
  intro H locs ls hS
  refine lv_iconst (v := 1) hx hb d_L_law_702 (by decide) ?_
  refine va_forget (fun q hq => hS.2.2 q hq) ?_
  refine W.widen (k := 601024) (n := 7293033) (Nat.le_of_ble_eq_true rfl) (Nat.le_of_ble_eq_true rfl) ?_
  exact lw_ret hx hb hr hlocks d_L_law_703
