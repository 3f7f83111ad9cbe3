abbrev b_X_join : ByteArray := prog_1_method_4_code
abbrev y_X_join : MethodName := ⟨"MemberChooser", "join", "(II)Z"⟩
abbrev w_X_join : List Cond := Cond.code y_X_join b_X_join 3 (some .boolean) :: zTb
theorem d_X_join_0 : decode b_X_join 0 = .ok (.aload_n 0, 1) := by decide +kernel
theorem d_X_join_1 : decode b_X_join 1 = .ok (.getfield 10, 3) := by decide +kernel
theorem d_X_join_4 : decode b_X_join 4 = .ok (.iload_n 1, 1) := by decide +kernel
theorem d_X_join_5 : decode b_X_join 5 = .ok (.iload_n 2, 1) := by decide +kernel
theorem d_X_join_6 : decode b_X_join 6 = .ok (.invokevirtual 70, 3) := by decide +kernel
theorem d_X_join_9 : decode b_X_join 9 = .ok (.ifCond .ne 5, 3) := by decide +kernel
theorem d_X_join_12 : decode b_X_join 12 = .ok (.iconst 0, 1) := by decide +kernel
theorem d_X_join_13 : decode b_X_join 13 = .ok (.ireturn, 1) := by decide +kernel
theorem d_X_join_14 : decode b_X_join 14 = .ok (.aload_n 0, 1) := by decide +kernel
theorem d_X_join_15 : decode b_X_join 15 = .ok (.getfield 35, 3) := by decide +kernel
theorem d_X_join_18 : decode b_X_join 18 = .ok (.invokevirtual 74, 3) := by decide +kernel
theorem d_X_join_21 : decode b_X_join 21 = .ok (.iconst 1, 1) := by decide +kernel
theorem d_X_join_22 : decode b_X_join 22 = .ok (.ireturn, 1) := by decide +kernel
abbrev rm_X_join : Room := { frames := 4, cells := 0, slots := 0, locals := 89 }
def fx_X_join (n : Nat) (S : ZC) (a1 : Int32) (a2 : Int32) : Option (Int32 × ZC) :=
  zbind (fx_T_addFaceAbove n S a1 a2) (fun r_1 S_1 =>
  (if r_1 = 0 then
  some ((0 : Int32), S_1)
  else
  zbind1 (fx_K_letGoAll n S_1) (fun S_3 =>
    some ((1 : Int32), S_3))))

set_option maxRecDepth 100000 in
set_option maxHeartbeats 4000000 in
theorem k_X_join (l : Launch) (z : zE) (A : Nat → Nat) (Rr : va_W) (n : Nat) (S : ZC) (a1 : Int32) (a2 : Int32) (r0 : Int32) (S' : ZC) (h : fx_X_join n S a1 a2 = some (r0, S')) : zC z l y_X_join w_X_join rm_X_join [.ref (A 0), .int a1, .int a2] (cw z A S ++ Rr) (some (.int r0)) (cw z A S' ++ Rr) := by
  refine zz_of (by decide) (Nat.le_of_ble_eq_true rfl) ?_
  intro p e s m args below meth c A0 ls hM hr hlocks hA hP hD hl
  have hM : zM z p s m args c b_X_join 3 R_X := hM
  obtain ⟨hx, hb, hml, hown, hts, hK, hN⟩ := id hM
  have hS : va_S A0 s.heap s.heap [] := va_S.rf
  have hl : lv_has ls 3 [(0, .ref (A 0)), (1, .int a1), (2, .int a2)] := hl
  unfold fx_X_join at h
  refine lv_aload_n hx hb d_X_join_0 rfl (lv_at hl 0 rfl) ?_
  refine va_get (D := z.1) (ci := 0) (v := .ref (A 1)) (C := R_X) (T := F_X) (N := 6) hx hb hts i_X hown hK hP 0 rfl rfl 0 (by decide) (hts _ wq_149) (fun _ h9 => h9) rfl d_X_join_1 ?_
  refine lv_iload_n hx hb d_X_join_4 rfl (lv_at hl 1 rfl) ?_
  refine lv_iload_n hx hb d_X_join_5 rfl (lv_at hl 2 rfl) ?_
  obtain ⟨r_1, S_1, e_1, h⟩ := zz_bind h
  refine zz_goI (zz_runV (As := [.int a1, .int a2]) (rest := []) (k_T_addFaceAbove l z A Rr n _ _ _ _ _ e_1) ⟨hx, hb, hml, hown, hts⟩ (cwV 2 hts (zz_gV wq_172 wq_173 wq_174 wq_2 wq_175) rfl rfl rfl (by decide +kernel) ⟨Nat.le_of_ble_eq_true rfl, Nat.le_of_ble_eq_true rfl⟩) hK hN hP hD (va_recv hK hP (ci := 1) (q0 := 1) rfl rfl) rfl hl.1 rfl (Nat.le_of_ble_eq_true rfl) d_X_join_6 ⟨Nat.le_of_ble_eq_true rfl, Nat.le_of_ble_eq_true rfl⟩) hD hS hA (fun H locs hP hD hS => ?_)
  refine lv_if_ne (tgt := 14) hx hb d_X_join_9 (by decide) (fun c_2 => ?_) (fun c_2 => ?_)
  · replace h := zz_f c_2 h
    refine lv_aload_n hx hb d_X_join_14 rfl (lv_at hl 0 rfl) ?_
    refine va_get (D := z.1) (ci := 0) (v := .ref (A 4)) (C := R_X) (T := F_X) (N := 6) hx hb hts i_X hown hK hP 0 rfl rfl 3 (by decide) (hts _ wq_152) (fun _ h9 => h9) rfl d_X_join_15 ?_
    obtain ⟨S_3, e_3, h⟩ := zz_bind1 h
    refine zz_goV (zz_runV (As := []) (rest := []) (k_K_letGoAll l z A Rr n _ _ e_3) ⟨hx, hb, hml, hown, hts⟩ (cwV 0 hts (zz_gV wq_203 wq_204 wq_205 wq_5 wq_206) rfl rfl rfl (by decide +kernel) ⟨Nat.le_of_ble_eq_true rfl, Nat.le_of_ble_eq_true rfl⟩) hK hN hP hD (va_recv hK hP (ci := 4) (q0 := 4) rfl rfl) rfl hl.1 rfl (Nat.le_of_ble_eq_true rfl) d_X_join_18 ⟨Nat.le_of_ble_eq_true rfl, Nat.le_of_ble_eq_true rfl⟩) hD hS hA (fun H locs hP hD hS => ?_)
    refine lv_iconst (v := 1) hx hb d_X_join_21 (by decide) ?_
    exact zz_zret (fun S => cw z A S ++ Rr) hx hb hr hlocks hP hD hS rfl h d_X_join_22
  · replace h := zz_t c_2 h
    refine lv_iconst (v := 0) hx hb d_X_join_12 (by decide) ?_
    exact zz_zret (fun S => cw z A S ++ Rr) hx hb hr hlocks hP hD hS rfl h d_X_join_13

abbrev b_X_subtype : ByteArray := prog_1_method_6_code
abbrev y_X_subtype : MethodName := ⟨"MemberChooser", "subtype", "(II)Z"⟩
abbrev w_X_subtype : List Cond := Cond.code y_X_subtype b_X_subtype 3 (some .boolean) :: zTb
theorem d_X_subtype_0 : decode b_X_subtype 0 = .ok (.aload_n 0, 1) := by decide +kernel
theorem d_X_subtype_1 : decode b_X_subtype 1 = .ok (.getfield 10, 3) := by decide +kernel
theorem d_X_subtype_4 : decode b_X_subtype 4 = .ok (.iload_n 1, 1) := by decide +kernel
theorem d_X_subtype_5 : decode b_X_subtype 5 = .ok (.iload_n 2, 1) := by decide +kernel
theorem d_X_subtype_6 : decode b_X_subtype 6 = .ok (.invokevirtual 108, 3) := by decide +kernel
theorem d_X_subtype_9 : decode b_X_subtype 9 = .ok (.ireturn, 1) := by decide +kernel
abbrev rm_X_subtype : Room := { frames := 2, cells := 0, slots := 0, locals := 43 }
def fx_X_subtype (n : Nat) (S : ZC) (a1 : Int32) (a2 : Int32) : Option (Int32 × ZC) :=
  zbind (fx_T_isSubtype n S a1 a2) (fun r_1 S_1 =>
  (if r_1 = 0 ∨ r_1 = 1 then some (r_1, S_1) else none))

set_option maxRecDepth 100000 in
set_option maxHeartbeats 4000000 in
theorem k_X_subtype (l : Launch) (z : zE) (A : Nat → Nat) (Rr : va_W) (n : Nat) (S : ZC) (a1 : Int32) (a2 : Int32) (r0 : Int32) (S' : ZC) (h : fx_X_subtype n S a1 a2 = some (r0, S')) : zC z l y_X_subtype w_X_subtype rm_X_subtype [.ref (A 0), .int a1, .int a2] (cw z A S ++ Rr) (some (.int r0)) (cw z A S' ++ Rr) := by
  refine zz_of (by decide) (Nat.le_of_ble_eq_true rfl) ?_
  intro p e s m args below meth c A0 ls hM hr hlocks hA hP hD hl
  have hM : zM z p s m args c b_X_subtype 3 R_X := hM
  obtain ⟨hx, hb, hml, hown, hts, hK, hN⟩ := id hM
  have hS : va_S A0 s.heap s.heap [] := va_S.rf
  have hl : lv_has ls 3 [(0, .ref (A 0)), (1, .int a1), (2, .int a2)] := hl
  unfold fx_X_subtype at h
  refine lv_aload_n hx hb d_X_subtype_0 rfl (lv_at hl 0 rfl) ?_
  refine va_get (D := z.1) (ci := 0) (v := .ref (A 1)) (C := R_X) (T := F_X) (N := 6) hx hb hts i_X hown hK hP 0 rfl rfl 0 (by decide) (hts _ wq_149) (fun _ h9 => h9) rfl d_X_subtype_1 ?_
  refine lv_iload_n hx hb d_X_subtype_4 rfl (lv_at hl 1 rfl) ?_
  refine lv_iload_n hx hb d_X_subtype_5 rfl (lv_at hl 2 rfl) ?_
  obtain ⟨r_1, S_1, e_1, h⟩ := zz_bind h
  refine zz_goI (zz_runV (As := [.int a1, .int a2]) (rest := []) (k_T_isSubtype l z A Rr n _ _ _ _ _ e_1) ⟨hx, hb, hml, hown, hts⟩ (cwV 2 hts (zz_gV wq_211 wq_189 wq_190 wq_2 wq_191) rfl rfl rfl (by decide +kernel) ⟨Nat.le_of_ble_eq_true rfl, Nat.le_of_ble_eq_true rfl⟩) hK hN hP hD (va_recv hK hP (ci := 1) (q0 := 1) rfl rfl) rfl hl.1 rfl (Nat.le_of_ble_eq_true rfl) d_X_subtype_6 ⟨Nat.le_of_ble_eq_true rfl, Nat.le_of_ble_eq_true rfl⟩) hD hS hA (fun H locs hP hD hS => ?_)
  obtain ⟨c_2, h⟩ := zz_grd h
  exact zz_zret (fun S => cw z A S ++ Rr) hx hb hr hlocks hP hD hS (zz_bool c_2) h d_X_subtype_9

abbrev b_H_isHidden : ByteArray := prog_2_method_6_code
abbrev y_H_isHidden : MethodName := ⟨"MemberChooser$Chooser", "isHidden", "(I)Z"⟩
abbrev w_H_isHidden : List Cond := Cond.code y_H_isHidden b_H_isHidden 3 (some .boolean) :: zTb
theorem d_H_isHidden_0 : decode b_H_isHidden 0 = .ok (.iconst 0, 1) := by decide +kernel
theorem d_H_isHidden_1 : decode b_H_isHidden 1 = .ok (.istore_n 2, 1) := by decide +kernel
theorem d_H_isHidden_2 : decode b_H_isHidden 2 = .ok (.iload_n 2, 1) := by decide +kernel
theorem d_H_isHidden_3 : decode b_H_isHidden 3 = .ok (.aload_n 0, 1) := by decide +kernel
theorem d_H_isHidden_4 : decode b_H_isHidden 4 = .ok (.getfield 33, 3) := by decide +kernel
theorem d_H_isHidden_7 : decode b_H_isHidden 7 = .ok (.if_icmp .ge 28, 3) := by decide +kernel
theorem d_H_isHidden_10 : decode b_H_isHidden 10 = .ok (.aload_n 0, 1) := by decide +kernel
theorem d_H_isHidden_11 : decode b_H_isHidden 11 = .ok (.getfield 15, 3) := by decide +kernel
theorem d_H_isHidden_14 : decode b_H_isHidden 14 = .ok (.iload_n 1, 1) := by decide +kernel
theorem d_H_isHidden_15 : decode b_H_isHidden 15 = .ok (.aload_n 0, 1) := by decide +kernel
theorem d_H_isHidden_16 : decode b_H_isHidden 16 = .ok (.getfield 27, 3) := by decide +kernel
theorem d_H_isHidden_19 : decode b_H_isHidden 19 = .ok (.iload_n 2, 1) := by decide +kernel
theorem d_H_isHidden_20 : decode b_H_isHidden 20 = .ok (.iaload, 1) := by decide +kernel
theorem d_H_isHidden_21 : decode b_H_isHidden 21 = .ok (.invokevirtual 73, 3) := by decide +kernel
theorem d_H_isHidden_24 : decode b_H_isHidden 24 = .ok (.ifCond .eq 5, 3) := by decide +kernel
theorem d_H_isHidden_27 : decode b_H_isHidden 27 = .ok (.iconst 1, 1) := by decide +kernel
theorem d_H_isHidden_28 : decode b_H_isHidden 28 = .ok (.ireturn, 1) := by decide +kernel
theorem d_H_isHidden_29 : decode b_H_isHidden 29 = .ok (.iinc 2 1, 3) := by decide +kernel
theorem d_H_isHidden_32 : decode b_H_isHidden 32 = .ok (.goto (-30), 3) := by decide +kernel
theorem d_H_isHidden_35 : decode b_H_isHidden 35 = .ok (.iconst 0, 1) := by decide +kernel
theorem d_H_isHidden_36 : decode b_H_isHidden 36 = .ok (.ireturn, 1) := by decide +kernel
abbrev rm_H_isHidden : Room := { frames := 1, cells := 0, slots := 0, locals := 22 }
def st_H_isHidden_L2 (n : Nat) (v1 : Int32) (v2 : Int32) (S : ZC) : Option ((Int32 × ZC) ⊕ (Nat × Int32 × ZC)) :=
  (if (hMc S) ≤ v2 then
  some (.inr (35, v2, S))
  else
  (if zoob v2 80 then none else
    zbind (fx_M_haveSameParameters n S v1 ((hMe S) v2.toNatClampNeg)) (fun r_3 S_3 =>
    (if r_3 = 0 then
    some (.inl ((v2 + (1 : Int32)), S_3))
    else
    some (.inr (27, v2, S_3))))))

def fx_H_isHidden_L2 (n : Nat) (v1 : Int32) (v2 : Int32) (S : ZC) : Option (Nat × Int32 × ZC) := zloop (fun (st : Int32 × ZC) => st_H_isHidden_L2 n v1 st.1 st.2) n (v2, S)

def fx_H_isHidden (n : Nat) (S : ZC) (a1 : Int32) : Option (Int32 × ZC) :=
  zbL2 (fx_H_isHidden_L2 n a1 (0 : Int32) S) (fun x_5 v2_5 S_5 =>
  if x_5 = 27 then
  some ((1 : Int32), S_5)
  else if x_5 = 35 then
  some ((0 : Int32), S_5)
  else none)

set_option maxRecDepth 100000 in
set_option maxHeartbeats 4000000 in
theorem lp_H_isHidden_L2 {z : zE} {A : Nat → Nat} {Rr : va_W} {p : Program} {l : Launch} {e : Env} {s : State} {m : MethodId} {args : Array Value} {below : List Frame} {meth : Method} {c : Code} {Q : State → Prop} {H0 : Heap} {A0 : Nat → Prop} (hM : zM z p s m args c b_H_isHidden 3 R_H) (hA : ∀ q : Nat, H0.size ≤ q → A0 q) (n : Nat) (v1 : Int32) :
    ∀ (v2 : Int32) (S : ZC) (r : Nat × Int32 × ZC), fx_H_isHidden_L2 n v1 v2 S = some r → (∀ (H : Heap) (locs : List Loc) (ls : Array Slot), va_P z.1 vwCl (cw z A r.2.2 ++ Rr) H → va_D A0 (cw z A r.2.2 ++ Rr) → va_S A0 H0 H locs → lv_has ls 3 [(0, .ref (A 3)), (1, .int v1), (2, .int r.2.1)] → W p l e rm_H_isHidden s m args below meth c H locs 0 0 Q (F0 m r.1 ls [])) →
    ∀ (H : Heap) (locs : List Loc) (ls : Array Slot), va_P z.1 vwCl (cw z A S ++ Rr) H → va_D A0 (cw z A S ++ Rr) → va_S A0 H0 H locs → lv_has ls 3 [(0, .ref (A 3)), (1, .int v1), (2, .int v2)] → W p l e rm_H_isHidden s m args below meth c H locs 0 0 Q (F0 m 2 ls []) := by
  obtain ⟨hx, hb, hml, hown, hts, hK, hN⟩ := id hM
  intro v2 S r h hE
  refine zz_loop (G := fun (st : Int32 × ZC) => ∀ (H : Heap) (locs : List Loc) (ls : Array Slot), va_P z.1 vwCl (cw z A st.2 ++ Rr) H → va_D A0 (cw z A st.2 ++ Rr) → va_S A0 H0 H locs → lv_has ls 3 [(0, .ref (A 3)), (1, .int v1), (2, .int st.1)] → W p l e rm_H_isHidden s m args below meth c H locs 0 0 Q (F0 m 2 ls [])) (E := fun (r : Nat × Int32 × ZC) => ∀ (H : Heap) (locs : List Loc) (ls : Array Slot), va_P z.1 vwCl (cw z A r.2.2 ++ Rr) H → va_D A0 (cw z A r.2.2 ++ Rr) → va_S A0 H0 H locs → lv_has ls 3 [(0, .ref (A 3)), (1, .int v1), (2, .int r.2.1)] → W p l e rm_H_isHidden s m args below meth c H locs 0 0 Q (F0 m r.1 ls [])) ?_ n (v2, S) r h hE
  clear h hE r v2 S
  rintro ⟨v2, S⟩ o h hG hE H locs ls hP hD hS hl
  have h : st_H_isHidden_L2 n v1 v2 S = some o := h
  have hl : lv_has ls 3 [(0, .ref (A 3)), (1, .int v1), (2, .int v2)] := hl
  have hP : va_P z.1 vwCl (cw z A S ++ Rr) H := hP
  have hD : va_D A0 (cw z A S ++ Rr) := hD
  unfold st_H_isHidden_L2 at h
  refine lv_iload_n hx hb d_H_isHidden_2 rfl (lv_at hl 2 rfl) ?_
  refine lv_aload_n hx hb d_H_isHidden_3 rfl (lv_at hl 0 rfl) ?_
  refine va_get (D := z.1) (ci := 3) (v := .int (hMc S)) (C := R_H) (T := F_H) (N := 8) hx hb hts i_H hown hK hP 3 rfl rfl 5 (by decide) (hts _ wq_101) (fun _ h9 => h9) rfl d_H_isHidden_4 ?_
  refine lv_icmp_ge (tgt := 35) hx hb d_H_isHidden_7 (by decide) (fun c_1 => ?_) (fun c_1 => ?_)
  · replace h := zz_t c_1 h
    exact hE _ (Option.some.inj h).symm _ _ _ hP hD hS hl
  · replace h := zz_f c_1 h
    refine lv_aload_n hx hb d_H_isHidden_10 rfl (lv_at hl 0 rfl) ?_
    refine va_get (D := z.1) (ci := 3) (v := .ref (A 2)) (C := R_H) (T := F_H) (N := 8) hx hb hts i_H hown hK hP 3 rfl rfl 1 (by decide) (hts _ wq_97) (fun _ h9 => h9) rfl d_H_isHidden_11 ?_
    refine lv_iload_n hx hb d_H_isHidden_14 rfl (lv_at hl 1 rfl) ?_
    refine lv_aload_n hx hb d_H_isHidden_15 rfl (lv_at hl 0 rfl) ?_
    refine va_get (D := z.1) (ci := 3) (v := .ref (A 16)) (C := R_H) (T := F_H) (N := 8) hx hb hts i_H hown hK hP 3 rfl rfl 3 (by decide) (hts _ wq_99) (fun _ h9 => h9) rfl d_H_isHidden_16 ?_
    refine lv_iload_n hx hb d_H_isHidden_19 rfl (lv_at hl 2 rfl) ?_
    obtain ⟨c_2, h⟩ := zz_oob h
    refine va_iald hx hb hK hP 16 0 rfl rfl c_2 d_H_isHidden_20 ?_
    obtain ⟨r_3, S_3, e_3, h⟩ := zz_bind h
    refine zz_goI (zz_runV (As := [.int v1, .int ((hMe S) v2.toNatClampNeg)]) (rest := []) (k_M_haveSameParameters l z A Rr n _ _ _ _ _ e_3) ⟨hx, hb, hml, hown, hts⟩ (cwV 2 hts (zz_gV wq_243 wq_244 wq_245 wq_3 wq_246) rfl rfl rfl (by decide +kernel) ⟨Nat.le_of_ble_eq_true rfl, Nat.le_of_ble_eq_true rfl⟩) hK hN hP hD (va_recv hK hP (ci := 2) (q0 := 2) rfl rfl) rfl hl.1 rfl (Nat.le_of_ble_eq_true rfl) d_H_isHidden_21 ⟨Nat.le_of_ble_eq_true rfl, Nat.le_of_ble_eq_true rfl⟩) hD hS hA (fun H locs hP hD hS => ?_)
    refine lv_if_eq (tgt := 29) hx hb d_H_isHidden_24 (by decide) (fun c_4 => ?_) (fun c_4 => ?_)
    · replace h := zz_t c_4 h
      refine lv_iinc (v := (v2 + (1 : Int32))) (lv' := [(2, .int (v2 + (1 : Int32))), (0, .ref (A 3)), (1, .int v1)]) hx hb d_H_isHidden_29 hl (k := 2) rfl rfl (by decide) rfl (fun ls hl => ?_)
      refine lv_goto (tgt := 2) hx hb d_H_isHidden_32 (by decide) ?_
      exact hG _ (Option.some.inj h).symm _ _ _ hP hD hS (lv_sub hl [1, 2, 0] rfl)
    · replace h := zz_f c_4 h
      exact hE _ (Option.some.inj h).symm _ _ _ hP hD hS hl

set_option maxRecDepth 100000 in
set_option maxHeartbeats 4000000 in
theorem k_H_isHidden (l : Launch) (z : zE) (A : Nat → Nat) (Rr : va_W) (n : Nat) (S : ZC) (a1 : Int32) (r0 : Int32) (S' : ZC) (h : fx_H_isHidden n S a1 = some (r0, S')) : zC z l y_H_isHidden w_H_isHidden rm_H_isHidden [.ref (A 3), .int a1] (cw z A S ++ Rr) (some (.int r0)) (cw z A S' ++ Rr) := by
  refine zz_of (by decide) (Nat.le_of_ble_eq_true rfl) ?_
  intro p e s m args below meth c A0 ls hM hr hlocks hA hP hD hl
  have hM : zM z p s m args c b_H_isHidden 3 R_H := hM
  obtain ⟨hx, hb, hml, hown, hts, hK, hN⟩ := id hM
  have hS : va_S A0 s.heap s.heap [] := va_S.rf
  have hl : lv_has ls 3 [(0, .ref (A 3)), (1, .int a1)] := hl
  unfold fx_H_isHidden at h
  refine lv_iconst (v := 0) hx hb d_H_isHidden_0 (by decide) ?_
  refine lv_istore_n (lv' := [(2, .int (0 : Int32)), (0, .ref (A 3)), (1, .int a1)]) hx hb d_H_isHidden_1 rfl hl (by decide) rfl (fun ls hl => ?_)
  replace h := zz_bL2 h
  obtain ⟨x_5, v2_5, S_5, e_5, h⟩ := h
  refine lp_H_isHidden_L2 hM hA n a1 _ _ _ e_5 ?_ _ _ _ hP hD hS (lv_sub hl [1, 2, 0] rfl)
  intro H locs ls hP hD hS hl
  have hl : lv_has ls 3 [(0, .ref (A 3)), (1, .int a1), (2, .int v2_5)] := hl
  have hP : va_P z.1 vwCl (cw z A S_5 ++ Rr) H := hP
  have hD : va_D A0 (cw z A S_5 ++ Rr) := hD
  by_cases c_5 : x_5 = 27
  · replace h := zz_t c_5 h
    subst c_5
    refine W.eq (g2 := F0 m 27 ls []) rfl ?_
    refine lv_iconst (v := 1) hx hb d_H_isHidden_27 (by decide) ?_
    exact zz_zret (fun S => cw z A S ++ Rr) hx hb hr hlocks hP hD hS rfl h d_H_isHidden_28
  replace h := zz_f c_5 h
  replace h := zz_grd h
  obtain ⟨c_5, h⟩ := h
  subst c_5
  refine W.eq (g2 := F0 m 35 ls []) rfl ?_
  refine lv_iconst (v := 0) hx hb d_H_isHidden_35 (by decide) ?_
  exact zz_zret (fun S => cw z A S ++ Rr) hx hb hr hlocks hP hD hS rfl h d_H_isHidden_36

abbrev b_H_appendMembers : ByteArray := prog_2_method_5_code
abbrev y_H_appendMembers : MethodName := ⟨"MemberChooser$Chooser", "appendMembers", "(II)V"⟩
abbrev w_H_appendMembers : List Cond := Cond.code y_H_appendMembers b_H_appendMembers 4 none :: zTb
theorem d_H_appendMembers_0 : decode b_H_appendMembers 0 = .ok (.iconst 0, 1) := by decide +kernel
theorem d_H_appendMembers_1 : decode b_H_appendMembers 1 = .ok (.istore_n 3, 1) := by decide +kernel
theorem d_H_appendMembers_2 : decode b_H_appendMembers 2 = .ok (.iload_n 3, 1) := by decide +kernel
theorem d_H_appendMembers_3 : decode b_H_appendMembers 3 = .ok (.aload_n 0, 1) := by decide +kernel
theorem d_H_appendMembers_4 : decode b_H_appendMembers 4 = .ok (.getfield 15, 3) := by decide +kernel
theorem d_H_appendMembers_7 : decode b_H_appendMembers 7 = .ok (.getfield 62, 3) := by decide +kernel
theorem d_H_appendMembers_10 : decode b_H_appendMembers 10 = .ok (.if_icmp .ge 62, 3) := by decide +kernel
theorem d_H_appendMembers_13 : decode b_H_appendMembers 13 = .ok (.aload_n 0, 1) := by decide +kernel
theorem d_H_appendMembers_14 : decode b_H_appendMembers 14 = .ok (.getfield 15, 3) := by decide +kernel
theorem d_H_appendMembers_17 : decode b_H_appendMembers 17 = .ok (.iload_n 3, 1) := by decide +kernel
theorem d_H_appendMembers_18 : decode b_H_appendMembers 18 = .ok (.iload_n 1, 1) := by decide +kernel
theorem d_H_appendMembers_19 : decode b_H_appendMembers 19 = .ok (.iload_n 2, 1) := by decide +kernel
theorem d_H_appendMembers_20 : decode b_H_appendMembers 20 = .ok (.invokevirtual 65, 3) := by decide +kernel
theorem d_H_appendMembers_23 : decode b_H_appendMembers 23 = .ok (.ifCond .eq 43, 3) := by decide +kernel
theorem d_H_appendMembers_26 : decode b_H_appendMembers 26 = .ok (.aload_n 0, 1) := by decide +kernel
theorem d_H_appendMembers_27 : decode b_H_appendMembers 27 = .ok (.iload_n 3, 1) := by decide +kernel
theorem d_H_appendMembers_28 : decode b_H_appendMembers 28 = .ok (.invokevirtual 69, 3) := by decide +kernel
theorem d_H_appendMembers_31 : decode b_H_appendMembers 31 = .ok (.ifCond .ne 35, 3) := by decide +kernel
theorem d_H_appendMembers_34 : decode b_H_appendMembers 34 = .ok (.aload_n 0, 1) := by decide +kernel
theorem d_H_appendMembers_35 : decode b_H_appendMembers 35 = .ok (.getfield 33, 3) := by decide +kernel
theorem d_H_appendMembers_38 : decode b_H_appendMembers 38 = .ok (.aload_n 0, 1) := by decide +kernel
theorem d_H_appendMembers_39 : decode b_H_appendMembers 39 = .ok (.getfield 27, 3) := by decide +kernel
theorem d_H_appendMembers_42 : decode b_H_appendMembers 42 = .ok (.arraylength, 1) := by decide +kernel
theorem d_H_appendMembers_43 : decode b_H_appendMembers 43 = .ok (.if_icmp .ge 23, 3) := by decide +kernel
theorem d_H_appendMembers_46 : decode b_H_appendMembers 46 = .ok (.aload_n 0, 1) := by decide +kernel
theorem d_H_appendMembers_47 : decode b_H_appendMembers 47 = .ok (.getfield 27, 3) := by decide +kernel
theorem d_H_appendMembers_50 : decode b_H_appendMembers 50 = .ok (.aload_n 0, 1) := by decide +kernel
theorem d_H_appendMembers_51 : decode b_H_appendMembers 51 = .ok (.getfield 33, 3) := by decide +kernel
theorem d_H_appendMembers_54 : decode b_H_appendMembers 54 = .ok (.iload_n 3, 1) := by decide +kernel
theorem d_H_appendMembers_55 : decode b_H_appendMembers 55 = .ok (.iastore, 1) := by decide +kernel
theorem d_H_appendMembers_56 : decode b_H_appendMembers 56 = .ok (.aload_n 0, 1) := by decide +kernel
theorem d_H_appendMembers_57 : decode b_H_appendMembers 57 = .ok (.dup, 1) := by decide +kernel
theorem d_H_appendMembers_58 : decode b_H_appendMembers 58 = .ok (.getfield 33, 3) := by decide +kernel
theorem d_H_appendMembers_61 : decode b_H_appendMembers 61 = .ok (.iconst 1, 1) := by decide +kernel
theorem d_H_appendMembers_62 : decode b_H_appendMembers 62 = .ok (.iadd, 1) := by decide +kernel
theorem d_H_appendMembers_63 : decode b_H_appendMembers 63 = .ok (.putfield 33, 3) := by decide +kernel
theorem d_H_appendMembers_66 : decode b_H_appendMembers 66 = .ok (.iinc 3 1, 3) := by decide +kernel
theorem d_H_appendMembers_69 : decode b_H_appendMembers 69 = .ok (.goto (-67), 3) := by decide +kernel
theorem d_H_appendMembers_72 : decode b_H_appendMembers 72 = .ok (.return_, 1) := by decide +kernel
abbrev rm_H_appendMembers : Room := { frames := 2, cells := 0, slots := 0, locals := 44 }
def st_H_appendMembers_L2 (n : Nat) (v1 : Int32) (v2 : Int32) (v3 : Int32) (S : ZC) : Option ((Int32 × ZC) ⊕ (Nat × Int32 × ZC)) :=
  (if (mTo S) ≤ v3 then
  some (.inr (72, v3, S))
  else
  zbind (fx_M_isOf n S v3 v1 v2) (fun r_2 S_2 =>
    (if r_2 = 0 then
    some (.inl ((v3 + (1 : Int32)), S_2))
    else
    zbind (fx_H_isHidden n S_2 v3) (fun r_4 S_4 =>
      (if r_4 = 0 then
      (if (80 : Int32) ≤ (hMc S_4) then
        some (.inl ((v3 + (1 : Int32)), S_4))
        else
        (if zoob (hMc S_4) 80 then none else
          zlet (hMe' S_4 (upd (hMe S_4) (hMc S_4).toNatClampNeg v3)) (fun S_8 =>
          zlet (hMc' S_8 ((hMc S_8) + (1 : Int32))) (fun S_9 =>
          some (.inl ((v3 + (1 : Int32)), S_9))))))
      else
      some (.inl ((v3 + (1 : Int32)), S_4)))))))

def fx_H_appendMembers_L2 (n : Nat) (v1 : Int32) (v2 : Int32) (v3 : Int32) (S : ZC) : Option (Nat × Int32 × ZC) := zloop (fun (st : Int32 × ZC) => st_H_appendMembers_L2 n v1 v2 st.1 st.2) n (v3, S)

def fx_H_appendMembers (n : Nat) (S : ZC) (a1 : Int32) (a2 : Int32) : Option (ZC) :=
  zbL2 (fx_H_appendMembers_L2 n a1 a2 (0 : Int32) S) (fun x_10 v3_10 S_10 =>
  if x_10 = 72 then
  some S_10
  else none)

set_option maxRecDepth 100000 in
set_option maxHeartbeats 4000000 in
theorem lp_H_appendMembers_L2 {z : zE} {A : Nat → Nat} {Rr : va_W} {p : Program} {l : Launch} {e : Env} {s : State} {m : MethodId} {args : Array Value} {below : List Frame} {meth : Method} {c : Code} {Q : State → Prop} {H0 : Heap} {A0 : Nat → Prop} (hM : zM z p s m args c b_H_appendMembers 4 R_H) (hA : ∀ q : Nat, H0.size ≤ q → A0 q) (n : Nat) (v1 : Int32) (v2 : Int32) :
    ∀ (v3 : Int32) (S : ZC) (r : Nat × Int32 × ZC), fx_H_appendMembers_L2 n v1 v2 v3 S = some r → (∀ (H : Heap) (locs : List Loc) (ls : Array Slot), va_P z.1 vwCl (cw z A r.2.2 ++ Rr) H → va_D A0 (cw z A r.2.2 ++ Rr) → va_S A0 H0 H locs → lv_has ls 4 [(0, .ref (A 3)), (1, .int v1), (2, .int v2), (3, .int r.2.1)] → W p l e rm_H_appendMembers s m args below meth c H locs 0 0 Q (F0 m r.1 ls [])) →
    ∀ (H : Heap) (locs : List Loc) (ls : Array Slot), va_P z.1 vwCl (cw z A S ++ Rr) H → va_D A0 (cw z A S ++ Rr) → va_S A0 H0 H locs → lv_has ls 4 [(0, .ref (A 3)), (1, .int v1), (2, .int v2), (3, .int v3)] → W p l e rm_H_appendMembers s m args below meth c H locs 0 0 Q (F0 m 2 ls []) := by
  obtain ⟨hx, hb, hml, hown, hts, hK, hN⟩ := id hM
  intro v3 S r h hE
  refine zz_loop (G := fun (st : Int32 × ZC) => ∀ (H : Heap) (locs : List Loc) (ls : Array Slot), va_P z.1 vwCl (cw z A st.2 ++ Rr) H → va_D A0 (cw z A st.2 ++ Rr) → va_S A0 H0 H locs → lv_has ls 4 [(0, .ref (A 3)), (1, .int v1), (2, .int v2), (3, .int st.1)] → W p l e rm_H_appendMembers s m args below meth c H locs 0 0 Q (F0 m 2 ls [])) (E := fun (r : Nat × Int32 × ZC) => ∀ (H : Heap) (locs : List Loc) (ls : Array Slot), va_P z.1 vwCl (cw z A r.2.2 ++ Rr) H → va_D A0 (cw z A r.2.2 ++ Rr) → va_S A0 H0 H locs → lv_has ls 4 [(0, .ref (A 3)), (1, .int v1), (2, .int v2), (3, .int r.2.1)] → W p l e rm_H_appendMembers s m args below meth c H locs 0 0 Q (F0 m r.1 ls [])) ?_ n (v3, S) r h hE
  clear h hE r v3 S
  rintro ⟨v3, S⟩ o h hG hE H locs ls hP hD hS hl
  have h : st_H_appendMembers_L2 n v1 v2 v3 S = some o := h
  have hl : lv_has ls 4 [(0, .ref (A 3)), (1, .int v1), (2, .int v2), (3, .int v3)] := hl
  have hP : va_P z.1 vwCl (cw z A S ++ Rr) H := hP
  have hD : va_D A0 (cw z A S ++ Rr) := hD
  unfold st_H_appendMembers_L2 at h
  refine lv_iload_n hx hb d_H_appendMembers_2 rfl (lv_at hl 3 rfl) ?_
  refine lv_aload_n hx hb d_H_appendMembers_3 rfl (lv_at hl 0 rfl) ?_
  refine va_get (D := z.1) (ci := 3) (v := .ref (A 2)) (C := R_H) (T := F_H) (N := 8) hx hb hts i_H hown hK hP 3 rfl rfl 1 (by decide) (hts _ wq_97) (fun _ h9 => h9) rfl d_H_appendMembers_4 ?_
  refine va_getN (D := z.1) (ci := 2) (v := .int (mTo S)) (C := R_M) (T := F_M) (N := 6) hx hb hts i_M hown hK hP 2 rfl rfl 5 (by decide) (zz_nf hN 4 rfl) (fun _ h9 => h9) rfl d_H_appendMembers_7 ?_
  refine lv_icmp_ge (tgt := 72) hx hb d_H_appendMembers_10 (by decide) (fun c_1 => ?_) (fun c_1 => ?_)
  · replace h := zz_t c_1 h
    exact hE _ (Option.some.inj h).symm _ _ _ hP hD hS hl
  · replace h := zz_f c_1 h
    refine lv_aload_n hx hb d_H_appendMembers_13 rfl (lv_at hl 0 rfl) ?_
    refine va_get (D := z.1) (ci := 3) (v := .ref (A 2)) (C := R_H) (T := F_H) (N := 8) hx hb hts i_H hown hK hP 3 rfl rfl 1 (by decide) (hts _ wq_97) (fun _ h9 => h9) rfl d_H_appendMembers_14 ?_
    refine lv_iload_n hx hb d_H_appendMembers_17 rfl (lv_at hl 3 rfl) ?_
    refine lv_iload_n hx hb d_H_appendMembers_18 rfl (lv_at hl 1 rfl) ?_
    refine lv_iload_n hx hb d_H_appendMembers_19 rfl (lv_at hl 2 rfl) ?_
    obtain ⟨r_2, S_2, e_2, h⟩ := zz_bind h
    refine zz_goI (zz_runV (As := [.int v3, .int v1, .int v2]) (rest := []) (k_M_isOf l z A Rr n _ _ _ _ _ _ e_2) ⟨hx, hb, hml, hown, hts⟩ (cwV 3 hts (zz_gV wq_235 wq_236 wq_237 wq_3 wq_238) rfl rfl rfl (by decide +kernel) ⟨Nat.le_of_ble_eq_true rfl, Nat.le_of_ble_eq_true rfl⟩) hK hN hP hD (va_recv hK hP (ci := 2) (q0 := 2) rfl rfl) rfl hl.1 rfl (Nat.le_of_ble_eq_true rfl) d_H_appendMembers_20 ⟨Nat.le_of_ble_eq_true rfl, Nat.le_of_ble_eq_true rfl⟩) hD hS hA (fun H locs hP hD hS => ?_)
    refine lv_if_eq (tgt := 66) hx hb d_H_appendMembers_23 (by decide) (fun c_3 => ?_) (fun c_3 => ?_)
    · replace h := zz_t c_3 h
      refine lv_iinc (v := (v3 + (1 : Int32))) (lv' := [(3, .int (v3 + (1 : Int32))), (0, .ref (A 3)), (1, .int v1), (2, .int v2)]) hx hb d_H_appendMembers_66 hl (k := 3) rfl rfl (by decide) rfl (fun ls hl => ?_)
      refine lv_goto (tgt := 2) hx hb d_H_appendMembers_69 (by decide) ?_
      exact hG _ (Option.some.inj h).symm _ _ _ hP hD hS (lv_sub hl [1, 2, 3, 0] rfl)
    · replace h := zz_f c_3 h
      refine lv_aload_n hx hb d_H_appendMembers_26 rfl (lv_at hl 0 rfl) ?_
      refine lv_iload_n hx hb d_H_appendMembers_27 rfl (lv_at hl 3 rfl) ?_
      obtain ⟨r_4, S_4, e_4, h⟩ := zz_bind h
      refine zz_goI (zz_runV (As := [.int v3]) (rest := []) (k_H_isHidden l z A Rr n _ _ _ _ e_4) ⟨hx, hb, hml, hown, hts⟩ (cwV 1 hts (zz_gV wq_239 wq_241 wp_4 wq_4 wq_242) rfl rfl rfl (by decide +kernel) ⟨Nat.le_of_ble_eq_true rfl, Nat.le_of_ble_eq_true rfl⟩) hK hN hP hD (va_recv hK hP (ci := 3) (q0 := 3) rfl rfl) rfl hl.1 rfl (Nat.le_of_ble_eq_true rfl) d_H_appendMembers_28 ⟨Nat.le_of_ble_eq_true rfl, Nat.le_of_ble_eq_true rfl⟩) hD hS hA (fun H locs hP hD hS => ?_)
      refine lv_if_ne (tgt := 66) hx hb d_H_appendMembers_31 (by decide) (fun c_5 => ?_) (fun c_5 => ?_)
      · replace h := zz_f c_5 h
        refine lv_iinc (v := (v3 + (1 : Int32))) (lv' := [(3, .int (v3 + (1 : Int32))), (0, .ref (A 3)), (1, .int v1), (2, .int v2)]) hx hb d_H_appendMembers_66 hl (k := 3) rfl rfl (by decide) rfl (fun ls hl => ?_)
        refine lv_goto (tgt := 2) hx hb d_H_appendMembers_69 (by decide) ?_
        exact hG _ (Option.some.inj h).symm _ _ _ hP hD hS (lv_sub hl [1, 2, 3, 0] rfl)
      · replace h := zz_t c_5 h
        refine lv_aload_n hx hb d_H_appendMembers_34 rfl (lv_at hl 0 rfl) ?_
        refine va_get (D := z.1) (ci := 3) (v := .int (hMc S_4)) (C := R_H) (T := F_H) (N := 8) hx hb hts i_H hown hK hP 3 rfl rfl 5 (by decide) (hts _ wq_101) (fun _ h9 => h9) rfl d_H_appendMembers_35 ?_
        refine lv_aload_n hx hb d_H_appendMembers_38 rfl (lv_at hl 0 rfl) ?_
        refine va_get (D := z.1) (ci := 3) (v := .ref (A 16)) (C := R_H) (T := F_H) (N := 8) hx hb hts i_H hown hK hP 3 rfl rfl 3 (by decide) (hts _ wq_99) (fun _ h9 => h9) rfl d_H_appendMembers_39 ?_
        refine va_alen hx hb hK hP 16 0 rfl rfl (v := (80 : Int32)) rfl d_H_appendMembers_42 ?_
        refine lv_icmp_ge (tgt := 66) hx hb d_H_appendMembers_43 (by decide) (fun c_6 => ?_) (fun c_6 => ?_)
        · replace h := zz_t c_6 h
          refine lv_iinc (v := (v3 + (1 : Int32))) (lv' := [(3, .int (v3 + (1 : Int32))), (0, .ref (A 3)), (1, .int v1), (2, .int v2)]) hx hb d_H_appendMembers_66 hl (k := 3) rfl rfl (by decide) rfl (fun ls hl => ?_)
          refine lv_goto (tgt := 2) hx hb d_H_appendMembers_69 (by decide) ?_
          exact hG _ (Option.some.inj h).symm _ _ _ hP hD hS (lv_sub hl [1, 2, 3, 0] rfl)
        · replace h := zz_f c_6 h
          refine lv_aload_n hx hb d_H_appendMembers_46 rfl (lv_at hl 0 rfl) ?_
          refine va_get (D := z.1) (ci := 3) (v := .ref (A 16)) (C := R_H) (T := F_H) (N := 8) hx hb hts i_H hown hK hP 3 rfl rfl 3 (by decide) (hts _ wq_99) (fun _ h9 => h9) rfl d_H_appendMembers_47 ?_
          refine lv_aload_n hx hb d_H_appendMembers_50 rfl (lv_at hl 0 rfl) ?_
          refine va_get (D := z.1) (ci := 3) (v := .int (hMc S_4)) (C := R_H) (T := F_H) (N := 8) hx hb hts i_H hown hK hP 3 rfl rfl 5 (by decide) (hts _ wq_101) (fun _ h9 => h9) rfl d_H_appendMembers_51 ?_
          refine lv_iload_n hx hb d_H_appendMembers_54 rfl (lv_at hl 3 rfl) ?_
          obtain ⟨c_7, h⟩ := zz_oob h
          obtain ⟨S_8, e_8, h⟩ := zz_let h
          refine va_iast hx hb hK hP hD hS 16 0 rfl rfl c_7 d_H_appendMembers_55 (fun H locs hP hD hS => ?_)
          have hP : va_P z.1 vwCl (cw z A S_8 ++ Rr) H := by rw [e_8]; exact hP
          have hD : va_D A0 (cw z A S_8 ++ Rr) := by rw [e_8]; exact hD
          refine lv_aload_n hx hb d_H_appendMembers_56 rfl (lv_at hl 0 rfl) ?_
          refine lv_dup hx hb d_H_appendMembers_57 rfl ?_
          refine va_get (D := z.1) (ci := 3) (v := .int (hMc S_8)) (C := R_H) (T := F_H) (N := 8) hx hb hts i_H hown hK hP 3 rfl rfl 5 (by decide) (hts _ wq_101) (fun _ h9 => h9) rfl d_H_appendMembers_58 ?_
          refine lv_iconst (v := 1) hx hb d_H_appendMembers_61 (by decide) ?_
          refine lv_iadd hx hb d_H_appendMembers_62 ?_
          obtain ⟨S_9, e_9, h⟩ := zz_let h
          refine va_put (D := z.1) (ci := 3) (v := .int ((hMc S_8) + (1 : Int32))) (ty := .int) (C := R_H) (T := F_H) (N := 8) hx hb hts i_H ty_H ty_H_ok n_H hown hK hP hD hS 3 rfl rfl 5 (by decide) (hts _ wq_101) (fun _ h9 => h9) rfl (by decide +kernel) rfl rfl (Nat.le_of_ble_eq_true rfl) d_H_appendMembers_63 (fun H locs hP hD hS => ?_)
          have hP : va_P z.1 vwCl (cw z A S_9 ++ Rr) H := by rw [e_9]; exact hP
          have hD : va_D A0 (cw z A S_9 ++ Rr) := by rw [e_9]; exact hD
          refine lv_iinc (v := (v3 + (1 : Int32))) (lv' := [(3, .int (v3 + (1 : Int32))), (0, .ref (A 3)), (1, .int v1), (2, .int v2)]) hx hb d_H_appendMembers_66 hl (k := 3) rfl rfl (by decide) rfl (fun ls hl => ?_)
          refine lv_goto (tgt := 2) hx hb d_H_appendMembers_69 (by decide) ?_
          exact hG _ (Option.some.inj h).symm _ _ _ hP hD hS (lv_sub hl [1, 2, 3, 0] rfl)

set_option maxRecDepth 100000 in
set_option maxHeartbeats 4000000 in
theorem k_H_appendMembers (l : Launch) (z : zE) (A : Nat → Nat) (Rr : va_W) (n : Nat) (S : ZC) (a1 : Int32) (a2 : Int32) (S' : ZC) (h : fx_H_appendMembers n S a1 a2 = some S') : zC z l y_H_appendMembers w_H_appendMembers rm_H_appendMembers [.ref (A 3), .int a1, .int a2] (cw z A S ++ Rr) none (cw z A S' ++ Rr) := by
  refine zz_of (by decide) (Nat.le_of_ble_eq_true rfl) ?_
  intro p e s m args below meth c A0 ls hM hr hlocks hA hP hD hl
  have hM : zM z p s m args c b_H_appendMembers 4 R_H := hM
  obtain ⟨hx, hb, hml, hown, hts, hK, hN⟩ := id hM
  have hS : va_S A0 s.heap s.heap [] := va_S.rf
  have hl : lv_has ls 4 [(0, .ref (A 3)), (1, .int a1), (2, .int a2)] := hl
  unfold fx_H_appendMembers at h
  refine lv_iconst (v := 0) hx hb d_H_appendMembers_0 (by decide) ?_
  refine lv_istore_n (lv' := [(3, .int (0 : Int32)), (0, .ref (A 3)), (1, .int a1), (2, .int a2)]) hx hb d_H_appendMembers_1 rfl hl (by decide) rfl (fun ls hl => ?_)
  replace h := zz_bL2 h
  obtain ⟨x_10, v3_10, S_10, e_10, h⟩ := h
  refine lp_H_appendMembers_L2 hM hA n a1 a2 _ _ _ e_10 ?_ _ _ _ hP hD hS (lv_sub hl [1, 2, 3, 0] rfl)
  intro H locs ls hP hD hS hl
  have hl : lv_has ls 4 [(0, .ref (A 3)), (1, .int a1), (2, .int a2), (3, .int v3_10)] := hl
  have hP : va_P z.1 vwCl (cw z A S_10 ++ Rr) H := hP
  have hD : va_D A0 (cw z A S_10 ++ Rr) := hD
  replace h := zz_grd h
  obtain ⟨c_10, h⟩ := h
  subst c_10
  refine W.eq (g2 := F0 m 72 ls []) rfl ?_
  exact zz_vret (fun S => cw z A S ++ Rr) hx hb hr hlocks hP hD hS h d_H_appendMembers_72

abbrev b_X_look : ByteArray := prog_1_method_9_code
abbrev y_X_look : MethodName := ⟨"MemberChooser", "look", "(II)I"⟩
abbrev w_X_look : List Cond := Cond.code y_X_look b_X_look 3 (some .int) :: zTb
theorem d_X_look_0 : decode b_X_look 0 = .ok (.aload_n 0, 1) := by decide +kernel
theorem d_X_look_1 : decode b_X_look 1 = .ok (.getfield 19, 3) := by decide +kernel
theorem d_X_look_4 : decode b_X_look 4 = .ok (.iload_n 1, 1) := by decide +kernel
theorem d_X_look_5 : decode b_X_look 5 = .ok (.iload_n 2, 1) := by decide +kernel
theorem d_X_look_6 : decode b_X_look 6 = .ok (.invokevirtual 145, 3) := by decide +kernel
theorem d_X_look_9 : decode b_X_look 9 = .ok (.ireturn, 1) := by decide +kernel
abbrev rm_X_look : Room := { frames := 2, cells := 0, slots := 0, locals := 44 }
def fx_X_look (n : Nat) (S : ZC) (a1 : Int32) (a2 : Int32) : Option (Int32 × ZC) :=
  zbind (fx_M_tell n S a1 a2) (fun r_1 S_1 =>
  some (r_1, S_1))

set_option maxRecDepth 100000 in
set_option maxHeartbeats 4000000 in
theorem k_X_look (l : Launch) (z : zE) (A : Nat → Nat) (Rr : va_W) (n : Nat) (S : ZC) (a1 : Int32) (a2 : Int32) (r0 : Int32) (S' : ZC) (h : fx_X_look n S a1 a2 = some (r0, S')) : zC z l y_X_look w_X_look rm_X_look [.ref (A 0), .int a1, .int a2] (cw z A S ++ Rr) (some (.int r0)) (cw z A S' ++ Rr) := by
  refine zz_of (by decide) (Nat.le_of_ble_eq_true rfl) ?_
  intro p e s m args below meth c A0 ls hM hr hlocks hA hP hD hl
  have hM : zM z p s m args c b_X_look 3 R_X := hM
  obtain ⟨hx, hb, hml, hown, hts, hK, hN⟩ := id hM
  have hS : va_S A0 s.heap s.heap [] := va_S.rf
  have hl : lv_has ls 3 [(0, .ref (A 0)), (1, .int a1), (2, .int a2)] := hl
  unfold fx_X_look at h
  refine lv_aload_n hx hb d_X_look_0 rfl (lv_at hl 0 rfl) ?_
  refine va_get (D := z.1) (ci := 0) (v := .ref (A 2)) (C := R_X) (T := F_X) (N := 6) hx hb hts i_X hown hK hP 0 rfl rfl 1 (by decide) (hts _ wq_150) (fun _ h9 => h9) rfl d_X_look_1 ?_
  refine lv_iload_n hx hb d_X_look_4 rfl (lv_at hl 1 rfl) ?_
  refine lv_iload_n hx hb d_X_look_5 rfl (lv_at hl 2 rfl) ?_
  obtain ⟨r_1, S_1, e_1, h⟩ := zz_bind h
  refine zz_goI (zz_runV (As := [.int a1, .int a2]) (rest := []) (k_M_tell l z A Rr n _ _ _ _ _ e_1) ⟨hx, hb, hml, hown, hts⟩ (cwV 2 hts (zz_gV wq_251 wq_252 wq_253 wq_3 wq_254) rfl rfl rfl (by decide +kernel) ⟨Nat.le_of_ble_eq_true rfl, Nat.le_of_ble_eq_true rfl⟩) hK hN hP hD (va_recv hK hP (ci := 2) (q0 := 2) rfl rfl) rfl hl.1 rfl (Nat.le_of_ble_eq_true rfl) d_X_look_6 ⟨Nat.le_of_ble_eq_true rfl, Nat.le_of_ble_eq_true rfl⟩) hD hS hA (fun H locs hP hD hS => ?_)
  exact zz_iret (fun S => cw z A S ++ Rr) hx hb hr hlocks hP hD hS h d_X_look_9

abbrev b_X_above : ByteArray := prog_1_method_10_code
abbrev y_X_above : MethodName := ⟨"MemberChooser", "above", "(II)I"⟩
abbrev w_X_above : List Cond := Cond.code y_X_above b_X_above 3 (some .int) :: zTb
theorem d_X_above_0 : decode b_X_above 0 = .ok (.aload_n 0, 1) := by decide +kernel
theorem d_X_above_1 : decode b_X_above 1 = .ok (.getfield 10, 3) := by decide +kernel
theorem d_X_above_4 : decode b_X_above 4 = .ok (.iload_n 1, 1) := by decide +kernel
theorem d_X_above_5 : decode b_X_above 5 = .ok (.iload_n 2, 1) := by decide +kernel
theorem d_X_above_6 : decode b_X_above 6 = .ok (.invokevirtual 149, 3) := by decide +kernel
theorem d_X_above_9 : decode b_X_above 9 = .ok (.ireturn, 1) := by decide +kernel
abbrev rm_X_above : Room := { frames := 3, cells := 0, slots := 0, locals := 64 }
def fx_X_above (n : Nat) (S : ZC) (a1 : Int32) (a2 : Int32) : Option (Int32 × ZC) :=
  zbind (fx_T_tell n S a1 a2) (fun r_1 S_1 =>
  some (r_1, S_1))

set_option maxRecDepth 100000 in
set_option maxHeartbeats 4000000 in
theorem k_X_above (l : Launch) (z : zE) (A : Nat → Nat) (Rr : va_W) (n : Nat) (S : ZC) (a1 : Int32) (a2 : Int32) (r0 : Int32) (S' : ZC) (h : fx_X_above n S a1 a2 = some (r0, S')) : zC z l y_X_above w_X_above rm_X_above [.ref (A 0), .int a1, .int a2] (cw z A S ++ Rr) (some (.int r0)) (cw z A S' ++ Rr) := by
  refine zz_of (by decide) (Nat.le_of_ble_eq_true rfl) ?_
  intro p e s m args below meth c A0 ls hM hr hlocks hA hP hD hl
  have hM : zM z p s m args c b_X_above 3 R_X := hM
  obtain ⟨hx, hb, hml, hown, hts, hK, hN⟩ := id hM
  have hS : va_S A0 s.heap s.heap [] := va_S.rf
  have hl : lv_has ls 3 [(0, .ref (A 0)), (1, .int a1), (2, .int a2)] := hl
  unfold fx_X_above at h
  refine lv_aload_n hx hb d_X_above_0 rfl (lv_at hl 0 rfl) ?_
  refine va_get (D := z.1) (ci := 0) (v := .ref (A 1)) (C := R_X) (T := F_X) (N := 6) hx hb hts i_X hown hK hP 0 rfl rfl 0 (by decide) (hts _ wq_149) (fun _ h9 => h9) rfl d_X_above_1 ?_
  refine lv_iload_n hx hb d_X_above_4 rfl (lv_at hl 1 rfl) ?_
  refine lv_iload_n hx hb d_X_above_5 rfl (lv_at hl 2 rfl) ?_
  obtain ⟨r_1, S_1, e_1, h⟩ := zz_bind h
  refine zz_goI (zz_runV (As := [.int a1, .int a2]) (rest := []) (k_T_tell l z A Rr n _ _ _ _ _ e_1) ⟨hx, hb, hml, hown, hts⟩ (cwV 2 hts (zz_gV wq_263 wq_264 wq_265 wq_2 wq_266) rfl rfl rfl (by decide +kernel) ⟨Nat.le_of_ble_eq_true rfl, Nat.le_of_ble_eq_true rfl⟩) hK hN hP hD (va_recv hK hP (ci := 1) (q0 := 1) rfl rfl) rfl hl.1 rfl (Nat.le_of_ble_eq_true rfl) d_X_above_6 ⟨Nat.le_of_ble_eq_true rfl, Nat.le_of_ble_eq_true rfl⟩) hD hS hA (fun H locs hP hD hS => ?_)
  exact zz_iret (fun S => cw z A S ++ Rr) hx hb hr hlocks hP hD hS h d_X_above_9

abbrev b_X_count : ByteArray := prog_1_method_11_code
abbrev y_X_count : MethodName := ⟨"MemberChooser", "count", "(I)I"⟩
abbrev w_X_count : List Cond := Cond.code y_X_count b_X_count 2 (some .int) :: zTb
theorem d_X_count_0 : decode b_X_count 0 = .ok (.iload_n 1, 1) := by decide +kernel
theorem d_X_count_1 : decode b_X_count 1 = .ok (.tableswitch 81 0 5 #[39, 47, 55, 63, 68, 73], 39) := by decide +kernel
theorem d_X_count_40 : decode b_X_count 40 = .ok (.aload_n 0, 1) := by decide +kernel
theorem d_X_count_41 : decode b_X_count 41 = .ok (.getfield 10, 3) := by decide +kernel
theorem d_X_count_44 : decode b_X_count 44 = .ok (.getfield 150, 3) := by decide +kernel
theorem d_X_count_47 : decode b_X_count 47 = .ok (.ireturn, 1) := by decide +kernel
theorem d_X_count_48 : decode b_X_count 48 = .ok (.aload_n 0, 1) := by decide +kernel
theorem d_X_count_49 : decode b_X_count 49 = .ok (.getfield 19, 3) := by decide +kernel
theorem d_X_count_52 : decode b_X_count 52 = .ok (.getfield 153, 3) := by decide +kernel
theorem d_X_count_55 : decode b_X_count 55 = .ok (.ireturn, 1) := by decide +kernel
theorem d_X_count_56 : decode b_X_count 56 = .ok (.aload_n 0, 1) := by decide +kernel
theorem d_X_count_57 : decode b_X_count 57 = .ok (.getfield 35, 3) := by decide +kernel
theorem d_X_count_60 : decode b_X_count 60 = .ok (.getfield 154, 3) := by decide +kernel
theorem d_X_count_63 : decode b_X_count 63 = .ok (.ireturn, 1) := by decide +kernel
theorem d_X_count_64 : decode b_X_count 64 = .ok (.aload_n 0, 1) := by decide +kernel
theorem d_X_count_65 : decode b_X_count 65 = .ok (.getfield 39, 3) := by decide +kernel
theorem d_X_count_68 : decode b_X_count 68 = .ok (.ireturn, 1) := by decide +kernel
theorem d_X_count_69 : decode b_X_count 69 = .ok (.aload_n 0, 1) := by decide +kernel
theorem d_X_count_70 : decode b_X_count 70 = .ok (.getfield 43, 3) := by decide +kernel
theorem d_X_count_73 : decode b_X_count 73 = .ok (.ireturn, 1) := by decide +kernel
theorem d_X_count_74 : decode b_X_count 74 = .ok (.aload_n 0, 1) := by decide +kernel
theorem d_X_count_75 : decode b_X_count 75 = .ok (.getfield 28, 3) := by decide +kernel
theorem d_X_count_78 : decode b_X_count 78 = .ok (.getfield 157, 3) := by decide +kernel
theorem d_X_count_81 : decode b_X_count 81 = .ok (.ireturn, 1) := by decide +kernel
theorem d_X_count_82 : decode b_X_count 82 = .ok (.iconst (-1), 1) := by decide +kernel
theorem d_X_count_83 : decode b_X_count 83 = .ok (.ireturn, 1) := by decide +kernel
abbrev rm_X_count : Room := { frames := 0, cells := 0, slots := 0, locals := 0 }
def fx_X_count (n : Nat) (S : ZC) (a1 : Int32) : Option (Int32 × ZC) :=
  (if a1 = (0 : Int32) then
  some ((tTo S), S)
  else (if a1 = (1 : Int32) then
  some ((mTo S), S)
  else (if a1 = (2 : Int32) then
  some ((kHe S), S)
  else (if a1 = (3 : Int32) then
  some ((xWk S), S)
  else (if a1 = (4 : Int32) then
  some ((xFk S), S)
  else (if a1 = (5 : Int32) then
  some ((hPh S), S)
  else some ((-1 : Int32), S)))))))

set_option maxRecDepth 100000 in
set_option maxHeartbeats 4000000 in
theorem k_X_count (l : Launch) (z : zE) (A : Nat → Nat) (Rr : va_W) (n : Nat) (S : ZC) (a1 : Int32) (r0 : Int32) (S' : ZC) (h : fx_X_count n S a1 = some (r0, S')) : zC z l y_X_count w_X_count rm_X_count [.ref (A 0), .int a1] (cw z A S ++ Rr) (some (.int r0)) (cw z A S' ++ Rr) := by
  refine zz_of (by decide) (Nat.le_of_ble_eq_true rfl) ?_
  intro p e s m args below meth c A0 ls hM hr hlocks hA hP hD hl
  have hM : zM z p s m args c b_X_count 2 R_X := hM
  obtain ⟨hx, hb, hml, hown, hts, hK, hN⟩ := id hM
  have hS : va_S A0 s.heap s.heap [] := va_S.rf
  have hl : lv_has ls 2 [(0, .ref (A 0)), (1, .int a1)] := hl
  unfold fx_X_count at h
  refine lv_iload_n hx hb d_X_count_0 rfl (lv_at hl 1 rfl) ?_
  by_cases c_1 : a1 = (0 : Int32)
  · replace h := zz_t c_1 h
    refine lv_tableIn (tgt := 40) hx hb d_X_count_1 (by rw [c_1]; decide) (by rw [c_1]; decide) (by rw [c_1]; rfl) (by decide) ?_
    refine lv_aload_n hx hb d_X_count_40 rfl (lv_at hl 0 rfl) ?_
    refine va_get (D := z.1) (ci := 0) (v := .ref (A 1)) (C := R_X) (T := F_X) (N := 6) hx hb hts i_X hown hK hP 0 rfl rfl 0 (by decide) (hts _ wq_149) (fun _ h9 => h9) rfl d_X_count_41 ?_
    refine va_getN (D := z.1) (ci := 1) (v := .int (tTo S)) (C := R_T) (T := F_T) (N := 6) hx hb hts i_T hown hK hP 1 rfl rfl 5 (by decide) (zz_nf hN 0 rfl) (fun _ h9 => h9) rfl d_X_count_44 ?_
    exact zz_iret (fun S => cw z A S ++ Rr) hx hb hr hlocks hP hD hS h d_X_count_47
  replace h := zz_f c_1 h
  by_cases c_2 : a1 = (1 : Int32)
  · replace h := zz_t c_2 h
    refine lv_tableIn (tgt := 48) hx hb d_X_count_1 (by rw [c_2]; decide) (by rw [c_2]; decide) (by rw [c_2]; rfl) (by decide) ?_
    refine lv_aload_n hx hb d_X_count_48 rfl (lv_at hl 0 rfl) ?_
    refine va_get (D := z.1) (ci := 0) (v := .ref (A 2)) (C := R_X) (T := F_X) (N := 6) hx hb hts i_X hown hK hP 0 rfl rfl 1 (by decide) (hts _ wq_150) (fun _ h9 => h9) rfl d_X_count_49 ?_
    refine va_getN (D := z.1) (ci := 2) (v := .int (mTo S)) (C := R_M) (T := F_M) (N := 6) hx hb hts i_M hown hK hP 2 rfl rfl 5 (by decide) (zz_nf hN 1 rfl) (fun _ h9 => h9) rfl d_X_count_52 ?_
    exact zz_iret (fun S => cw z A S ++ Rr) hx hb hr hlocks hP hD hS h d_X_count_55
  replace h := zz_f c_2 h
  by_cases c_3 : a1 = (2 : Int32)
  · replace h := zz_t c_3 h
    refine lv_tableIn (tgt := 56) hx hb d_X_count_1 (by rw [c_3]; decide) (by rw [c_3]; decide) (by rw [c_3]; rfl) (by decide) ?_
    refine lv_aload_n hx hb d_X_count_56 rfl (lv_at hl 0 rfl) ?_
    refine va_get (D := z.1) (ci := 0) (v := .ref (A 4)) (C := R_X) (T := F_X) (N := 6) hx hb hts i_X hown hK hP 0 rfl rfl 3 (by decide) (hts _ wq_152) (fun _ h9 => h9) rfl d_X_count_57 ?_
    refine va_getN (D := z.1) (ci := 4) (v := .int (kHe S)) (C := R_K) (T := F_K) (N := 6) hx hb hts i_K hown hK hP 4 rfl rfl 5 (by decide) (zz_nf hN 2 rfl) (fun _ h9 => h9) rfl d_X_count_60 ?_
    exact zz_iret (fun S => cw z A S ++ Rr) hx hb hr hlocks hP hD hS h d_X_count_63
  replace h := zz_f c_3 h
  by_cases c_4 : a1 = (3 : Int32)
  · replace h := zz_t c_4 h
    refine lv_tableIn (tgt := 64) hx hb d_X_count_1 (by rw [c_4]; decide) (by rw [c_4]; decide) (by rw [c_4]; rfl) (by decide) ?_
    refine lv_aload_n hx hb d_X_count_64 rfl (lv_at hl 0 rfl) ?_
    refine va_get (D := z.1) (ci := 0) (v := .int (xWk S)) (C := R_X) (T := F_X) (N := 6) hx hb hts i_X hown hK hP 0 rfl rfl 4 (by decide) (hts _ wq_153) (fun _ h9 => h9) rfl d_X_count_65 ?_
    exact zz_iret (fun S => cw z A S ++ Rr) hx hb hr hlocks hP hD hS h d_X_count_68
  replace h := zz_f c_4 h
  by_cases c_5 : a1 = (4 : Int32)
  · replace h := zz_t c_5 h
    refine lv_tableIn (tgt := 69) hx hb d_X_count_1 (by rw [c_5]; decide) (by rw [c_5]; decide) (by rw [c_5]; rfl) (by decide) ?_
    refine lv_aload_n hx hb d_X_count_69 rfl (lv_at hl 0 rfl) ?_
    refine va_get (D := z.1) (ci := 0) (v := .int (xFk S)) (C := R_X) (T := F_X) (N := 6) hx hb hts i_X hown hK hP 0 rfl rfl 5 (by decide) (hts _ wq_154) (fun _ h9 => h9) rfl d_X_count_70 ?_
    exact zz_iret (fun S => cw z A S ++ Rr) hx hb hr hlocks hP hD hS h d_X_count_73
  replace h := zz_f c_5 h
  by_cases c_6 : a1 = (5 : Int32)
  · replace h := zz_t c_6 h
    refine lv_tableIn (tgt := 74) hx hb d_X_count_1 (by rw [c_6]; decide) (by rw [c_6]; decide) (by rw [c_6]; rfl) (by decide) ?_
    refine lv_aload_n hx hb d_X_count_74 rfl (lv_at hl 0 rfl) ?_
    refine va_get (D := z.1) (ci := 0) (v := .ref (A 3)) (C := R_X) (T := F_X) (N := 6) hx hb hts i_X hown hK hP 0 rfl rfl 2 (by decide) (hts _ wq_151) (fun _ h9 => h9) rfl d_X_count_75 ?_
    refine va_getN (D := z.1) (ci := 3) (v := .int (hPh S)) (C := R_H) (T := F_H) (N := 8) hx hb hts i_H hown hK hP 3 rfl rfl 7 (by decide) (zz_nf hN 3 rfl) (fun _ h9 => h9) rfl d_X_count_78 ?_
    exact zz_iret (fun S => cw z A S ++ Rr) hx hb hr hlocks hP hD hS h d_X_count_81
  replace h := zz_f c_6 h
  refine lv_tableOut (tgt := 82) hx hb d_X_count_1 (by have qc_1 := zz_tne (a := 0) (by decide) c_1; have qc_2 := zz_tne (a := 1) (by decide) c_2; have qc_3 := zz_tne (a := 2) (by decide) c_3; have qc_4 := zz_tne (a := 3) (by decide) c_4; have qc_5 := zz_tne (a := 4) (by decide) c_5; have qc_6 := zz_tne (a := 5) (by decide) c_6; omega) (by decide) ?_
  refine lv_iconst (v := -1) hx hb d_X_count_82 (by decide) ?_
  exact zz_iret (fun S => cw z A S ++ Rr) hx hb hr hlocks hP hD hS h d_X_count_83

abbrev b_X_areParameters : ByteArray := prog_1_method_12_code
abbrev y_X_areParameters : MethodName := ⟨"MemberChooser", "areParameters", "(IJ)Z"⟩
abbrev w_X_areParameters : List Cond := Cond.code y_X_areParameters b_X_areParameters 5 (some .boolean) :: zTb
theorem d_X_areParameters_0 : decode b_X_areParameters 0 = .ok (.iload_n 1, 1) := by decide +kernel
theorem d_X_areParameters_1 : decode b_X_areParameters 1 = .ok (.ifCond .lt 8, 3) := by decide +kernel
theorem d_X_areParameters_4 : decode b_X_areParameters 4 = .ok (.iload_n 1, 1) := by decide +kernel
theorem d_X_areParameters_5 : decode b_X_areParameters 5 = .ok (.iconst 4, 1) := by decide +kernel
theorem d_X_areParameters_6 : decode b_X_areParameters 6 = .ok (.if_icmp .le 5, 3) := by decide +kernel
theorem d_X_areParameters_9 : decode b_X_areParameters 9 = .ok (.iconst 0, 1) := by decide +kernel
theorem d_X_areParameters_10 : decode b_X_areParameters 10 = .ok (.ireturn, 1) := by decide +kernel
theorem d_X_areParameters_11 : decode b_X_areParameters 11 = .ok (.iconst 0, 1) := by decide +kernel
theorem d_X_areParameters_12 : decode b_X_areParameters 12 = .ok (.istore 4, 2) := by decide +kernel
theorem d_X_areParameters_14 : decode b_X_areParameters 14 = .ok (.iload 4, 2) := by decide +kernel
theorem d_X_areParameters_16 : decode b_X_areParameters 16 = .ok (.iload_n 1, 1) := by decide +kernel
theorem d_X_areParameters_17 : decode b_X_areParameters 17 = .ok (.if_icmp .ge 27, 3) := by decide +kernel
theorem d_X_areParameters_20 : decode b_X_areParameters 20 = .ok (.aload_n 0, 1) := by decide +kernel
theorem d_X_areParameters_21 : decode b_X_areParameters 21 = .ok (.getfield 10, 3) := by decide +kernel
theorem d_X_areParameters_24 : decode b_X_areParameters 24 = .ok (.lload_n 2, 1) := by decide +kernel
theorem d_X_areParameters_25 : decode b_X_areParameters 25 = .ok (.iload 4, 2) := by decide +kernel
theorem d_X_areParameters_27 : decode b_X_areParameters 27 = .ok (.invokestatic 160, 3) := by decide +kernel
theorem d_X_areParameters_30 : decode b_X_areParameters 30 = .ok (.invokevirtual 164, 3) := by decide +kernel
theorem d_X_areParameters_33 : decode b_X_areParameters 33 = .ok (.ifCond .ne 5, 3) := by decide +kernel
theorem d_X_areParameters_36 : decode b_X_areParameters 36 = .ok (.iconst 0, 1) := by decide +kernel
theorem d_X_areParameters_37 : decode b_X_areParameters 37 = .ok (.ireturn, 1) := by decide +kernel
theorem d_X_areParameters_38 : decode b_X_areParameters 38 = .ok (.iinc 4 1, 3) := by decide +kernel
theorem d_X_areParameters_41 : decode b_X_areParameters 41 = .ok (.goto (-27), 3) := by decide +kernel
theorem d_X_areParameters_44 : decode b_X_areParameters 44 = .ok (.iconst 1, 1) := by decide +kernel
theorem d_X_areParameters_45 : decode b_X_areParameters 45 = .ok (.ireturn, 1) := by decide +kernel
abbrev rm_X_areParameters : Room := { frames := 1, cells := 0, slots := 0, locals := 22 }
def st_X_areParameters_L14 (n : Nat) (v1 : Int32) (v2 : Int64) (v4 : Int32) (S : ZC) : Option ((Int32 × ZC) ⊕ (Nat × Int32 × ZC)) :=
  (if v1 ≤ v4 then
  some (.inr (44, v4, S))
  else
  zbind1 (fx_X_byteAt n v2 v4) (fun r_4 =>
    zbind (fx_T_exists n S r_4) (fun r_5 S_5 =>
    (if r_5 = 0 then
    some (.inr (36, v4, S_5))
    else
    some (.inl ((v4 + (1 : Int32)), S_5))))))

def fx_X_areParameters_L14 (n : Nat) (v1 : Int32) (v2 : Int64) (v4 : Int32) (S : ZC) : Option (Nat × Int32 × ZC) := zloop (fun (st : Int32 × ZC) => st_X_areParameters_L14 n v1 v2 st.1 st.2) n (v4, S)

def fx_X_areParameters (n : Nat) (S : ZC) (a1 : Int32) (a2 : Int64) : Option (Int32 × ZC) :=
  (if a1 < 0 then
  some ((0 : Int32), S)
  else
  (if a1 ≤ (4 : Int32) then
    zbL2 (fx_X_areParameters_L14 n a1 a2 (0 : Int32) S) (fun x_7 v4_7 S_7 =>
      if x_7 = 36 then
      some ((0 : Int32), S_7)
      else if x_7 = 44 then
      some ((1 : Int32), S_7)
      else none)
    else
    some ((0 : Int32), S)))

set_option maxRecDepth 100000 in
set_option maxHeartbeats 4000000 in
theorem lp_X_areParameters_L14 {z : zE} {A : Nat → Nat} {Rr : va_W} {p : Program} {l : Launch} {e : Env} {s : State} {m : MethodId} {args : Array Value} {below : List Frame} {meth : Method} {c : Code} {Q : State → Prop} {H0 : Heap} {A0 : Nat → Prop} (hM : zM z p s m args c b_X_areParameters 5 R_X) (hA : ∀ q : Nat, H0.size ≤ q → A0 q) (n : Nat) (v1 : Int32) (v2 : Int64) :
    ∀ (v4 : Int32) (S : ZC) (r : Nat × Int32 × ZC), fx_X_areParameters_L14 n v1 v2 v4 S = some r → (∀ (H : Heap) (locs : List Loc) (ls : Array Slot), va_P z.1 vwCl (cw z A r.2.2 ++ Rr) H → va_D A0 (cw z A r.2.2 ++ Rr) → va_S A0 H0 H locs → lv_has ls 5 [(0, .ref (A 0)), (1, .int v1), (2, .long v2), (4, .int r.2.1)] → W p l e rm_X_areParameters s m args below meth c H locs 0 0 Q (F0 m r.1 ls [])) →
    ∀ (H : Heap) (locs : List Loc) (ls : Array Slot), va_P z.1 vwCl (cw z A S ++ Rr) H → va_D A0 (cw z A S ++ Rr) → va_S A0 H0 H locs → lv_has ls 5 [(0, .ref (A 0)), (1, .int v1), (2, .long v2), (4, .int v4)] → W p l e rm_X_areParameters s m args below meth c H locs 0 0 Q (F0 m 14 ls []) := by
  obtain ⟨hx, hb, hml, hown, hts, hK, hN⟩ := id hM
  intro v4 S r h hE
  refine zz_loop (G := fun (st : Int32 × ZC) => ∀ (H : Heap) (locs : List Loc) (ls : Array Slot), va_P z.1 vwCl (cw z A st.2 ++ Rr) H → va_D A0 (cw z A st.2 ++ Rr) → va_S A0 H0 H locs → lv_has ls 5 [(0, .ref (A 0)), (1, .int v1), (2, .long v2), (4, .int st.1)] → W p l e rm_X_areParameters s m args below meth c H locs 0 0 Q (F0 m 14 ls [])) (E := fun (r : Nat × Int32 × ZC) => ∀ (H : Heap) (locs : List Loc) (ls : Array Slot), va_P z.1 vwCl (cw z A r.2.2 ++ Rr) H → va_D A0 (cw z A r.2.2 ++ Rr) → va_S A0 H0 H locs → lv_has ls 5 [(0, .ref (A 0)), (1, .int v1), (2, .long v2), (4, .int r.2.1)] → W p l e rm_X_areParameters s m args below meth c H locs 0 0 Q (F0 m r.1 ls [])) ?_ n (v4, S) r h hE
  clear h hE r v4 S
  rintro ⟨v4, S⟩ o h hG hE H locs ls hP hD hS hl
  have h : st_X_areParameters_L14 n v1 v2 v4 S = some o := h
  have hl : lv_has ls 5 [(0, .ref (A 0)), (1, .int v1), (2, .long v2), (4, .int v4)] := hl
  have hP : va_P z.1 vwCl (cw z A S ++ Rr) H := hP
  have hD : va_D A0 (cw z A S ++ Rr) := hD
  unfold st_X_areParameters_L14 at h
  refine lv_iload hx hb d_X_areParameters_14 (lv_at hl 3 rfl) ?_
  refine lv_iload_n hx hb d_X_areParameters_16 rfl (lv_at hl 1 rfl) ?_
  refine lv_icmp_ge (tgt := 44) hx hb d_X_areParameters_17 (by decide) (fun c_3 => ?_) (fun c_3 => ?_)
  · replace h := zz_t c_3 h
    exact hE _ (Option.some.inj h).symm _ _ _ hP hD hS hl
  · replace h := zz_f c_3 h
    refine lv_aload_n hx hb d_X_areParameters_20 rfl (lv_at hl 0 rfl) ?_
    refine va_get (D := z.1) (ci := 0) (v := .ref (A 1)) (C := R_X) (T := F_X) (N := 6) hx hb hts i_X hown hK hP 0 rfl rfl 0 (by decide) (hts _ wq_149) (fun _ h9 => h9) rfl d_X_areParameters_21 ?_
    refine lv_lload_n hx hb d_X_areParameters_24 rfl (lv_at hl 2 rfl) ?_
    refine lv_iload hx hb d_X_areParameters_25 (lv_at hl 3 rfl) ?_
    obtain ⟨r_4, e_4, h⟩ := zz_bind1 h
    refine zz_goI (zz_runS (As := [.long v2, .int v4]) (rest := [.ref (A 1)]) (k_X_byteAt l z _ n _ _ _ e_4) ⟨hx, hb, hml, hown, hts⟩ (va_cwS 2 hts (zz_gS wq_406 wq_256 wq_1 wq_257) rfl rfl rfl (by decide +kernel) ⟨Nat.le_of_ble_eq_true rfl, Nat.le_of_ble_eq_true rfl⟩) hK hN hP hD rfl hl.1 rfl (Nat.le_of_ble_eq_true rfl) d_X_areParameters_27 ⟨Nat.le_of_ble_eq_true rfl, Nat.le_of_ble_eq_true rfl⟩) hD hS hA (fun H locs hP hD hS => ?_)
    obtain ⟨r_5, S_5, e_5, h⟩ := zz_bind h
    refine zz_goI (zz_runV (As := [.int r_4]) (rest := []) (k_T_exists l z A Rr n _ _ _ _ e_5) ⟨hx, hb, hml, hown, hts⟩ (cwV 1 hts (zz_gV wq_407 wq_181 wq_182 wq_2 wq_183) rfl rfl rfl (by decide +kernel) ⟨Nat.le_of_ble_eq_true rfl, Nat.le_of_ble_eq_true rfl⟩) hK hN hP hD (va_recv hK hP (ci := 1) (q0 := 1) rfl rfl) rfl hl.1 rfl (Nat.le_of_ble_eq_true rfl) d_X_areParameters_30 ⟨Nat.le_of_ble_eq_true rfl, Nat.le_of_ble_eq_true rfl⟩) hD hS hA (fun H locs hP hD hS => ?_)
    refine lv_if_ne (tgt := 38) hx hb d_X_areParameters_33 (by decide) (fun c_6 => ?_) (fun c_6 => ?_)
    · replace h := zz_f c_6 h
      refine lv_iinc (v := (v4 + (1 : Int32))) (lv' := [(4, .int (v4 + (1 : Int32))), (0, .ref (A 0)), (1, .int v1), (2, .long v2)]) hx hb d_X_areParameters_38 hl (k := 3) rfl rfl (by decide) rfl (fun ls hl => ?_)
      refine lv_goto (tgt := 14) hx hb d_X_areParameters_41 (by decide) ?_
      exact hG _ (Option.some.inj h).symm _ _ _ hP hD hS (lv_sub hl [1, 2, 3, 0] rfl)
    · replace h := zz_t c_6 h
      exact hE _ (Option.some.inj h).symm _ _ _ hP hD hS hl

set_option maxRecDepth 100000 in
set_option maxHeartbeats 4000000 in
theorem k_X_areParameters (l : Launch) (z : zE) (A : Nat → Nat) (Rr : va_W) (n : Nat) (S : ZC) (a1 : Int32) (a2 : Int64) (r0 : Int32) (S' : ZC) (h : fx_X_areParameters n S a1 a2 = some (r0, S')) : zC z l y_X_areParameters w_X_areParameters rm_X_areParameters [.ref (A 0), .int a1, .long a2] (cw z A S ++ Rr) (some (.int r0)) (cw z A S' ++ Rr) := by
  refine zz_of (by decide) (Nat.le_of_ble_eq_true rfl) ?_
  intro p e s m args below meth c A0 ls hM hr hlocks hA hP hD hl
  have hM : zM z p s m args c b_X_areParameters 5 R_X := hM
  obtain ⟨hx, hb, hml, hown, hts, hK, hN⟩ := id hM
  have hS : va_S A0 s.heap s.heap [] := va_S.rf
  have hl : lv_has ls 5 [(0, .ref (A 0)), (1, .int a1), (2, .long a2)] := hl
  unfold fx_X_areParameters at h
  refine lv_iload_n hx hb d_X_areParameters_0 rfl (lv_at hl 1 rfl) ?_
  refine lv_if_lt (tgt := 9) hx hb d_X_areParameters_1 (by decide) (fun c_1 => ?_) (fun c_1 => ?_)
  · replace h := zz_t c_1 h
    refine lv_iconst (v := 0) hx hb d_X_areParameters_9 (by decide) ?_
    exact zz_zret (fun S => cw z A S ++ Rr) hx hb hr hlocks hP hD hS rfl h d_X_areParameters_10
  · replace h := zz_f c_1 h
    refine lv_iload_n hx hb d_X_areParameters_4 rfl (lv_at hl 1 rfl) ?_
    refine lv_iconst (v := 4) hx hb d_X_areParameters_5 (by decide) ?_
    refine lv_icmp_le (tgt := 11) hx hb d_X_areParameters_6 (by decide) (fun c_2 => ?_) (fun c_2 => ?_)
    · replace h := zz_t c_2 h
      refine lv_iconst (v := 0) hx hb d_X_areParameters_11 (by decide) ?_
      refine lv_istore (lv' := [(4, .int (0 : Int32)), (0, .ref (A 0)), (1, .int a1), (2, .long a2)]) hx hb d_X_areParameters_12 hl (by decide) rfl (fun ls hl => ?_)
      replace h := zz_bL2 h
      obtain ⟨x_7, v4_7, S_7, e_7, h⟩ := h
      refine lp_X_areParameters_L14 hM hA n a1 a2 _ _ _ e_7 ?_ _ _ _ hP hD hS (lv_sub hl [1, 2, 3, 0] rfl)
      intro H locs ls hP hD hS hl
      have hl : lv_has ls 5 [(0, .ref (A 0)), (1, .int a1), (2, .long a2), (4, .int v4_7)] := hl
      have hP : va_P z.1 vwCl (cw z A S_7 ++ Rr) H := hP
      have hD : va_D A0 (cw z A S_7 ++ Rr) := hD
      by_cases c_7 : x_7 = 36
      · replace h := zz_t c_7 h
        subst c_7
        refine W.eq (g2 := F0 m 36 ls []) rfl ?_
        refine lv_iconst (v := 0) hx hb d_X_areParameters_36 (by decide) ?_
        exact zz_zret (fun S => cw z A S ++ Rr) hx hb hr hlocks hP hD hS rfl h d_X_areParameters_37
      replace h := zz_f c_7 h
      replace h := zz_grd h
      obtain ⟨c_7, h⟩ := h
      subst c_7
      refine W.eq (g2 := F0 m 44 ls []) rfl ?_
      refine lv_iconst (v := 1) hx hb d_X_areParameters_44 (by decide) ?_
      exact zz_zret (fun S => cw z A S ++ Rr) hx hb hr hlocks hP hD hS rfl h d_X_areParameters_45
    · replace h := zz_f c_2 h
      refine lv_iconst (v := 0) hx hb d_X_areParameters_9 (by decide) ?_
      exact zz_zret (fun S => cw z A S ++ Rr) hx hb hr hlocks hP hD hS rfl h d_X_areParameters_10

abbrev b_X_isValue : ByteArray := prog_1_method_14_code
abbrev y_X_isValue : MethodName := ⟨"MemberChooser", "isValue", "(I)Z"⟩
abbrev w_X_isValue : List Cond := Cond.code y_X_isValue b_X_isValue 2 (some .boolean) :: zTb
theorem d_X_isValue_0 : decode b_X_isValue 0 = .ok (.iload_n 1, 1) := by decide +kernel
theorem d_X_isValue_1 : decode b_X_isValue 1 = .ok (.sipush 255, 3) := by decide +kernel
theorem d_X_isValue_4 : decode b_X_isValue 4 = .ok (.if_icmp .eq 21, 3) := by decide +kernel
theorem d_X_isValue_7 : decode b_X_isValue 7 = .ok (.aload_n 0, 1) := by decide +kernel
theorem d_X_isValue_8 : decode b_X_isValue 8 = .ok (.getfield 10, 3) := by decide +kernel
theorem d_X_isValue_11 : decode b_X_isValue 11 = .ok (.iload_n 1, 1) := by decide +kernel
theorem d_X_isValue_12 : decode b_X_isValue 12 = .ok (.invokevirtual 164, 3) := by decide +kernel
theorem d_X_isValue_15 : decode b_X_isValue 15 = .ok (.ifCond .eq 14, 3) := by decide +kernel
theorem d_X_isValue_18 : decode b_X_isValue 18 = .ok (.iload_n 1, 1) := by decide +kernel
theorem d_X_isValue_19 : decode b_X_isValue 19 = .ok (.invokestatic 170, 3) := by decide +kernel
theorem d_X_isValue_22 : decode b_X_isValue 22 = .ok (.ifCond .ne 7, 3) := by decide +kernel
theorem d_X_isValue_25 : decode b_X_isValue 25 = .ok (.iconst 1, 1) := by decide +kernel
theorem d_X_isValue_26 : decode b_X_isValue 26 = .ok (.goto 4, 3) := by decide +kernel
theorem d_X_isValue_29 : decode b_X_isValue 29 = .ok (.iconst 0, 1) := by decide +kernel
theorem d_X_isValue_30 : decode b_X_isValue 30 = .ok (.ireturn, 1) := by decide +kernel
abbrev rm_X_isValue : Room := { frames := 1, cells := 0, slots := 0, locals := 21 }
def fx_X_isValue (n : Nat) (S : ZC) (a1 : Int32) : Option (Int32 × ZC) :=
  (if a1 = (255 : Int32) then
  some ((1 : Int32), S)
  else
  zbind (fx_T_exists n S a1) (fun r_2 S_2 =>
    (if r_2 = 0 then
    some ((0 : Int32), S_2)
    else
    zbind1 (fx_T_isPrimitive n a1) (fun r_4 =>
      (if r_4 = 0 then
      some ((1 : Int32), S_2)
      else
      some ((0 : Int32), S_2))))))

set_option maxRecDepth 100000 in
set_option maxHeartbeats 4000000 in
theorem k_X_isValue (l : Launch) (z : zE) (A : Nat → Nat) (Rr : va_W) (n : Nat) (S : ZC) (a1 : Int32) (r0 : Int32) (S' : ZC) (h : fx_X_isValue n S a1 = some (r0, S')) : zC z l y_X_isValue w_X_isValue rm_X_isValue [.ref (A 0), .int a1] (cw z A S ++ Rr) (some (.int r0)) (cw z A S' ++ Rr) := by
  refine zz_of (by decide) (Nat.le_of_ble_eq_true rfl) ?_
  intro p e s m args below meth c A0 ls hM hr hlocks hA hP hD hl
  have hM : zM z p s m args c b_X_isValue 2 R_X := hM
  obtain ⟨hx, hb, hml, hown, hts, hK, hN⟩ := id hM
  have hS : va_S A0 s.heap s.heap [] := va_S.rf
  have hl : lv_has ls 2 [(0, .ref (A 0)), (1, .int a1)] := hl
  unfold fx_X_isValue at h
  refine lv_iload_n hx hb d_X_isValue_0 rfl (lv_at hl 1 rfl) ?_
  refine lv_sipush (v := 255) hx hb d_X_isValue_1 (by decide) ?_
  refine lv_icmp_eq (tgt := 25) hx hb d_X_isValue_4 (by decide) (fun c_1 => ?_) (fun c_1 => ?_)
  · replace h := zz_t c_1 h
    refine lv_iconst (v := 1) hx hb d_X_isValue_25 (by decide) ?_
    refine lv_goto (tgt := 30) hx hb d_X_isValue_26 (by decide) ?_
    exact zz_zret (fun S => cw z A S ++ Rr) hx hb hr hlocks hP hD hS rfl h d_X_isValue_30
  · replace h := zz_f c_1 h
    refine lv_aload_n hx hb d_X_isValue_7 rfl (lv_at hl 0 rfl) ?_
    refine va_get (D := z.1) (ci := 0) (v := .ref (A 1)) (C := R_X) (T := F_X) (N := 6) hx hb hts i_X hown hK hP 0 rfl rfl 0 (by decide) (hts _ wq_149) (fun _ h9 => h9) rfl d_X_isValue_8 ?_
    refine lv_iload_n hx hb d_X_isValue_11 rfl (lv_at hl 1 rfl) ?_
    obtain ⟨r_2, S_2, e_2, h⟩ := zz_bind h
    refine zz_goI (zz_runV (As := [.int a1]) (rest := []) (k_T_exists l z A Rr n _ _ _ _ e_2) ⟨hx, hb, hml, hown, hts⟩ (cwV 1 hts (zz_gV wq_407 wq_181 wq_182 wq_2 wq_183) rfl rfl rfl (by decide +kernel) ⟨Nat.le_of_ble_eq_true rfl, Nat.le_of_ble_eq_true rfl⟩) hK hN hP hD (va_recv hK hP (ci := 1) (q0 := 1) rfl rfl) rfl hl.1 rfl (Nat.le_of_ble_eq_true rfl) d_X_isValue_12 ⟨Nat.le_of_ble_eq_true rfl, Nat.le_of_ble_eq_true rfl⟩) hD hS hA (fun H locs hP hD hS => ?_)
    refine lv_if_eq (tgt := 29) hx hb d_X_isValue_15 (by decide) (fun c_3 => ?_) (fun c_3 => ?_)
    · replace h := zz_t c_3 h
      refine lv_iconst (v := 0) hx hb d_X_isValue_29 (by decide) ?_
      exact zz_zret (fun S => cw z A S ++ Rr) hx hb hr hlocks hP hD hS rfl h d_X_isValue_30
    · replace h := zz_f c_3 h
      refine lv_iload_n hx hb d_X_isValue_18 rfl (lv_at hl 1 rfl) ?_
      obtain ⟨r_4, e_4, h⟩ := zz_bind1 h
      refine zz_goI (zz_runS (As := [.int a1]) (rest := []) (k_T_isPrimitive l z _ n _ _ e_4) ⟨hx, hb, hml, hown, hts⟩ (va_cwS 1 hts (zz_gS wq_451 wq_33 wq_2 wq_34) rfl rfl rfl (by decide +kernel) ⟨Nat.le_of_ble_eq_true rfl, Nat.le_of_ble_eq_true rfl⟩) hK hN hP hD rfl hl.1 rfl (Nat.le_of_ble_eq_true rfl) d_X_isValue_19 ⟨Nat.le_of_ble_eq_true rfl, Nat.le_of_ble_eq_true rfl⟩) hD hS hA (fun H locs hP hD hS => ?_)
      refine lv_if_ne (tgt := 29) hx hb d_X_isValue_22 (by decide) (fun c_5 => ?_) (fun c_5 => ?_)
      · replace h := zz_f c_5 h
        refine lv_iconst (v := 0) hx hb d_X_isValue_29 (by decide) ?_
        exact zz_zret (fun S => cw z A S ++ Rr) hx hb hr hlocks hP hD hS rfl h d_X_isValue_30
      · replace h := zz_t c_5 h
        refine lv_iconst (v := 1) hx hb d_X_isValue_25 (by decide) ?_
        refine lv_goto (tgt := 30) hx hb d_X_isValue_26 (by decide) ?_
        exact zz_zret (fun S => cw z A S ++ Rr) hx hb hr hlocks hP hD hS rfl h d_X_isValue_30

abbrev b_X_areValues : ByteArray := prog_1_method_13_code
abbrev y_X_areValues : MethodName := ⟨"MemberChooser", "areValues", "(IJ)Z"⟩
abbrev w_X_areValues : List Cond := Cond.code y_X_areValues b_X_areValues 5 (some .boolean) :: zTb
theorem d_X_areValues_0 : decode b_X_areValues 0 = .ok (.iload_n 1, 1) := by decide +kernel
theorem d_X_areValues_1 : decode b_X_areValues 1 = .ok (.ifCond .lt 9, 3) := by decide +kernel
theorem d_X_areValues_4 : decode b_X_areValues 4 = .ok (.iload_n 1, 1) := by decide +kernel
theorem d_X_areValues_5 : decode b_X_areValues 5 = .ok (.bipush 6, 2) := by decide +kernel
theorem d_X_areValues_7 : decode b_X_areValues 7 = .ok (.if_icmp .le 5, 3) := by decide +kernel
theorem d_X_areValues_10 : decode b_X_areValues 10 = .ok (.iconst 0, 1) := by decide +kernel
theorem d_X_areValues_11 : decode b_X_areValues 11 = .ok (.ireturn, 1) := by decide +kernel
theorem d_X_areValues_12 : decode b_X_areValues 12 = .ok (.iconst 0, 1) := by decide +kernel
theorem d_X_areValues_13 : decode b_X_areValues 13 = .ok (.istore 4, 2) := by decide +kernel
theorem d_X_areValues_15 : decode b_X_areValues 15 = .ok (.iload 4, 2) := by decide +kernel
theorem d_X_areValues_17 : decode b_X_areValues 17 = .ok (.iload_n 1, 1) := by decide +kernel
theorem d_X_areValues_18 : decode b_X_areValues 18 = .ok (.if_icmp .ge 24, 3) := by decide +kernel
theorem d_X_areValues_21 : decode b_X_areValues 21 = .ok (.aload_n 0, 1) := by decide +kernel
theorem d_X_areValues_22 : decode b_X_areValues 22 = .ok (.lload_n 2, 1) := by decide +kernel
theorem d_X_areValues_23 : decode b_X_areValues 23 = .ok (.iload 4, 2) := by decide +kernel
theorem d_X_areValues_25 : decode b_X_areValues 25 = .ok (.invokestatic 160, 3) := by decide +kernel
theorem d_X_areValues_28 : decode b_X_areValues 28 = .ok (.invokevirtual 167, 3) := by decide +kernel
theorem d_X_areValues_31 : decode b_X_areValues 31 = .ok (.ifCond .ne 5, 3) := by decide +kernel
theorem d_X_areValues_34 : decode b_X_areValues 34 = .ok (.iconst 0, 1) := by decide +kernel
theorem d_X_areValues_35 : decode b_X_areValues 35 = .ok (.ireturn, 1) := by decide +kernel
theorem d_X_areValues_36 : decode b_X_areValues 36 = .ok (.iinc 4 1, 3) := by decide +kernel
theorem d_X_areValues_39 : decode b_X_areValues 39 = .ok (.goto (-24), 3) := by decide +kernel
theorem d_X_areValues_42 : decode b_X_areValues 42 = .ok (.iconst 1, 1) := by decide +kernel
theorem d_X_areValues_43 : decode b_X_areValues 43 = .ok (.ireturn, 1) := by decide +kernel
abbrev rm_X_areValues : Room := { frames := 2, cells := 0, slots := 0, locals := 42 }
def st_X_areValues_L15 (n : Nat) (v1 : Int32) (v2 : Int64) (v4 : Int32) (S : ZC) : Option ((Int32 × ZC) ⊕ (Nat × Int32 × ZC)) :=
  (if v1 ≤ v4 then
  some (.inr (42, v4, S))
  else
  zbind1 (fx_X_byteAt n v2 v4) (fun r_4 =>
    zbind (fx_X_isValue n S r_4) (fun r_5 S_5 =>
    (if r_5 = 0 then
    some (.inr (34, v4, S_5))
    else
    some (.inl ((v4 + (1 : Int32)), S_5))))))

def fx_X_areValues_L15 (n : Nat) (v1 : Int32) (v2 : Int64) (v4 : Int32) (S : ZC) : Option (Nat × Int32 × ZC) := zloop (fun (st : Int32 × ZC) => st_X_areValues_L15 n v1 v2 st.1 st.2) n (v4, S)

def fx_X_areValues (n : Nat) (S : ZC) (a1 : Int32) (a2 : Int64) : Option (Int32 × ZC) :=
  (if a1 < 0 then
  some ((0 : Int32), S)
  else
  (if a1 ≤ (6 : Int32) then
    zbL2 (fx_X_areValues_L15 n a1 a2 (0 : Int32) S) (fun x_7 v4_7 S_7 =>
      if x_7 = 34 then
      some ((0 : Int32), S_7)
      else if x_7 = 42 then
      some ((1 : Int32), S_7)
      else none)
    else
    some ((0 : Int32), S)))

set_option maxRecDepth 100000 in
set_option maxHeartbeats 4000000 in
theorem lp_X_areValues_L15 {z : zE} {A : Nat → Nat} {Rr : va_W} {p : Program} {l : Launch} {e : Env} {s : State} {m : MethodId} {args : Array Value} {below : List Frame} {meth : Method} {c : Code} {Q : State → Prop} {H0 : Heap} {A0 : Nat → Prop} (hM : zM z p s m args c b_X_areValues 5 R_X) (hA : ∀ q : Nat, H0.size ≤ q → A0 q) (n : Nat) (v1 : Int32) (v2 : Int64) :
    ∀ (v4 : Int32) (S : ZC) (r : Nat × Int32 × ZC), fx_X_areValues_L15 n v1 v2 v4 S = some r → (∀ (H : Heap) (locs : List Loc) (ls : Array Slot), va_P z.1 vwCl (cw z A r.2.2 ++ Rr) H → va_D A0 (cw z A r.2.2 ++ Rr) → va_S A0 H0 H locs → lv_has ls 5 [(0, .ref (A 0)), (1, .int v1), (2, .long v2), (4, .int r.2.1)] → W p l e rm_X_areValues s m args below meth c H locs 0 0 Q (F0 m r.1 ls [])) →
    ∀ (H : Heap) (locs : List Loc) (ls : Array Slot), va_P z.1 vwCl (cw z A S ++ Rr) H → va_D A0 (cw z A S ++ Rr) → va_S A0 H0 H locs → lv_has ls 5 [(0, .ref (A 0)), (1, .int v1), (2, .long v2), (4, .int v4)] → W p l e rm_X_areValues s m args below meth c H locs 0 0 Q (F0 m 15 ls []) := by
  obtain ⟨hx, hb, hml, hown, hts, hK, hN⟩ := id hM
  intro v4 S r h hE
  refine zz_loop (G := fun (st : Int32 × ZC) => ∀ (H : Heap) (locs : List Loc) (ls : Array Slot), va_P z.1 vwCl (cw z A st.2 ++ Rr) H → va_D A0 (cw z A st.2 ++ Rr) → va_S A0 H0 H locs → lv_has ls 5 [(0, .ref (A 0)), (1, .int v1), (2, .long v2), (4, .int st.1)] → W p l e rm_X_areValues s m args below meth c H locs 0 0 Q (F0 m 15 ls [])) (E := fun (r : Nat × Int32 × ZC) => ∀ (H : Heap) (locs : List Loc) (ls : Array Slot), va_P z.1 vwCl (cw z A r.2.2 ++ Rr) H → va_D A0 (cw z A r.2.2 ++ Rr) → va_S A0 H0 H locs → lv_has ls 5 [(0, .ref (A 0)), (1, .int v1), (2, .long v2), (4, .int r.2.1)] → W p l e rm_X_areValues s m args below meth c H locs 0 0 Q (F0 m r.1 ls [])) ?_ n (v4, S) r h hE
  clear h hE r v4 S
  rintro ⟨v4, S⟩ o h hG hE H locs ls hP hD hS hl
  have h : st_X_areValues_L15 n v1 v2 v4 S = some o := h
  have hl : lv_has ls 5 [(0, .ref (A 0)), (1, .int v1), (2, .long v2), (4, .int v4)] := hl
  have hP : va_P z.1 vwCl (cw z A S ++ Rr) H := hP
  have hD : va_D A0 (cw z A S ++ Rr) := hD
  unfold st_X_areValues_L15 at h
  refine lv_iload hx hb d_X_areValues_15 (lv_at hl 3 rfl) ?_
  refine lv_iload_n hx hb d_X_areValues_17 rfl (lv_at hl 1 rfl) ?_
  refine lv_icmp_ge (tgt := 42) hx hb d_X_areValues_18 (by decide) (fun c_3 => ?_) (fun c_3 => ?_)
  · replace h := zz_t c_3 h
    exact hE _ (Option.some.inj h).symm _ _ _ hP hD hS hl
  · replace h := zz_f c_3 h
    refine lv_aload_n hx hb d_X_areValues_21 rfl (lv_at hl 0 rfl) ?_
    refine lv_lload_n hx hb d_X_areValues_22 rfl (lv_at hl 2 rfl) ?_
    refine lv_iload hx hb d_X_areValues_23 (lv_at hl 3 rfl) ?_
    obtain ⟨r_4, e_4, h⟩ := zz_bind1 h
    refine zz_goI (zz_runS (As := [.long v2, .int v4]) (rest := [.ref (A 0)]) (k_X_byteAt l z _ n _ _ _ e_4) ⟨hx, hb, hml, hown, hts⟩ (va_cwS 2 hts (zz_gS wq_406 wq_256 wq_1 wq_257) rfl rfl rfl (by decide +kernel) ⟨Nat.le_of_ble_eq_true rfl, Nat.le_of_ble_eq_true rfl⟩) hK hN hP hD rfl hl.1 rfl (Nat.le_of_ble_eq_true rfl) d_X_areValues_25 ⟨Nat.le_of_ble_eq_true rfl, Nat.le_of_ble_eq_true rfl⟩) hD hS hA (fun H locs hP hD hS => ?_)
    obtain ⟨r_5, S_5, e_5, h⟩ := zz_bind h
    refine zz_goI (zz_runV (As := [.int r_4]) (rest := []) (k_X_isValue l z A Rr n _ _ _ _ e_5) ⟨hx, hb, hml, hown, hts⟩ (cwV 1 hts (zz_gV wq_447 wq_449 wp_9 wq_1 wq_450) rfl rfl rfl (by decide +kernel) ⟨Nat.le_of_ble_eq_true rfl, Nat.le_of_ble_eq_true rfl⟩) hK hN hP hD (va_recv hK hP (ci := 0) (q0 := 0) rfl rfl) rfl hl.1 rfl (Nat.le_of_ble_eq_true rfl) d_X_areValues_28 ⟨Nat.le_of_ble_eq_true rfl, Nat.le_of_ble_eq_true rfl⟩) hD hS hA (fun H locs hP hD hS => ?_)
    refine lv_if_ne (tgt := 36) hx hb d_X_areValues_31 (by decide) (fun c_6 => ?_) (fun c_6 => ?_)
    · replace h := zz_f c_6 h
      refine lv_iinc (v := (v4 + (1 : Int32))) (lv' := [(4, .int (v4 + (1 : Int32))), (0, .ref (A 0)), (1, .int v1), (2, .long v2)]) hx hb d_X_areValues_36 hl (k := 3) rfl rfl (by decide) rfl (fun ls hl => ?_)
      refine lv_goto (tgt := 15) hx hb d_X_areValues_39 (by decide) ?_
      exact hG _ (Option.some.inj h).symm _ _ _ hP hD hS (lv_sub hl [1, 2, 3, 0] rfl)
    · replace h := zz_t c_6 h
      exact hE _ (Option.some.inj h).symm _ _ _ hP hD hS hl

set_option maxRecDepth 100000 in
set_option maxHeartbeats 4000000 in
theorem k_X_areValues (l : Launch) (z : zE) (A : Nat → Nat) (Rr : va_W) (n : Nat) (S : ZC) (a1 : Int32) (a2 : Int64) (r0 : Int32) (S' : ZC) (h : fx_X_areValues n S a1 a2 = some (r0, S')) : zC z l y_X_areValues w_X_areValues rm_X_areValues [.ref (A 0), .int a1, .long a2] (cw z A S ++ Rr) (some (.int r0)) (cw z A S' ++ Rr) := by
  refine zz_of (by decide) (Nat.le_of_ble_eq_true rfl) ?_
  intro p e s m args below meth c A0 ls hM hr hlocks hA hP hD hl
  have hM : zM z p s m args c b_X_areValues 5 R_X := hM
  obtain ⟨hx, hb, hml, hown, hts, hK, hN⟩ := id hM
  have hS : va_S A0 s.heap s.heap [] := va_S.rf
  have hl : lv_has ls 5 [(0, .ref (A 0)), (1, .int a1), (2, .long a2)] := hl
  unfold fx_X_areValues at h
  refine lv_iload_n hx hb d_X_areValues_0 rfl (lv_at hl 1 rfl) ?_
  refine lv_if_lt (tgt := 10) hx hb d_X_areValues_1 (by decide) (fun c_1 => ?_) (fun c_1 => ?_)
  · replace h := zz_t c_1 h
    refine lv_iconst (v := 0) hx hb d_X_areValues_10 (by decide) ?_
    exact zz_zret (fun S => cw z A S ++ Rr) hx hb hr hlocks hP hD hS rfl h d_X_areValues_11
  · replace h := zz_f c_1 h
    refine lv_iload_n hx hb d_X_areValues_4 rfl (lv_at hl 1 rfl) ?_
    refine lv_bipush (v := 6) hx hb d_X_areValues_5 (by decide) ?_
    refine lv_icmp_le (tgt := 12) hx hb d_X_areValues_7 (by decide) (fun c_2 => ?_) (fun c_2 => ?_)
    · replace h := zz_t c_2 h
      refine lv_iconst (v := 0) hx hb d_X_areValues_12 (by decide) ?_
      refine lv_istore (lv' := [(4, .int (0 : Int32)), (0, .ref (A 0)), (1, .int a1), (2, .long a2)]) hx hb d_X_areValues_13 hl (by decide) rfl (fun ls hl => ?_)
      replace h := zz_bL2 h
      obtain ⟨x_7, v4_7, S_7, e_7, h⟩ := h
      refine lp_X_areValues_L15 hM hA n a1 a2 _ _ _ e_7 ?_ _ _ _ hP hD hS (lv_sub hl [1, 2, 3, 0] rfl)
      intro H locs ls hP hD hS hl
      have hl : lv_has ls 5 [(0, .ref (A 0)), (1, .int a1), (2, .long a2), (4, .int v4_7)] := hl
      have hP : va_P z.1 vwCl (cw z A S_7 ++ Rr) H := hP
      have hD : va_D A0 (cw z A S_7 ++ Rr) := hD
      by_cases c_7 : x_7 = 34
      · replace h := zz_t c_7 h
        subst c_7
        refine W.eq (g2 := F0 m 34 ls []) rfl ?_
        refine lv_iconst (v := 0) hx hb d_X_areValues_34 (by decide) ?_
        exact zz_zret (fun S => cw z A S ++ Rr) hx hb hr hlocks hP hD hS rfl h d_X_areValues_35
      replace h := zz_f c_7 h
      replace h := zz_grd h
      obtain ⟨c_7, h⟩ := h
      subst c_7
      refine W.eq (g2 := F0 m 42 ls []) rfl ?_
      refine lv_iconst (v := 1) hx hb d_X_areValues_42 (by decide) ?_
      exact zz_zret (fun S => cw z A S ++ Rr) hx hb hr hlocks hP hD hS rfl h d_X_areValues_43
    · replace h := zz_f c_2 h
      refine lv_iconst (v := 0) hx hb d_X_areValues_10 (by decide) ?_
      exact zz_zret (fun S => cw z A S ++ Rr) hx hb hr hlocks hP hD hS rfl h d_X_areValues_11

abbrev b_H_goesTo : ByteArray := prog_2_method_10_code
abbrev y_H_goesTo : MethodName := ⟨"MemberChooser$Chooser", "goesTo", "(II)Z"⟩
abbrev w_H_goesTo : List Cond := Cond.code y_H_goesTo b_H_goesTo 3 (some .boolean) :: zTb
theorem d_H_goesTo_0 : decode b_H_goesTo 0 = .ok (.iload_n 2, 1) := by decide +kernel
theorem d_H_goesTo_1 : decode b_H_goesTo 1 = .ok (.invokestatic 102, 3) := by decide +kernel
theorem d_H_goesTo_4 : decode b_H_goesTo 4 = .ok (.ifCond .eq 25, 3) := by decide +kernel
theorem d_H_goesTo_7 : decode b_H_goesTo 7 = .ok (.aload_n 0, 1) := by decide +kernel
theorem d_H_goesTo_8 : decode b_H_goesTo 8 = .ok (.getfield 40, 3) := by decide +kernel
theorem d_H_goesTo_11 : decode b_H_goesTo 11 = .ok (.iconst 1, 1) := by decide +kernel
theorem d_H_goesTo_12 : decode b_H_goesTo 12 = .ok (.if_icmp .le 15, 3) := by decide +kernel
theorem d_H_goesTo_15 : decode b_H_goesTo 15 = .ok (.iload_n 1, 1) := by decide +kernel
theorem d_H_goesTo_16 : decode b_H_goesTo 16 = .ok (.iload_n 2, 1) := by decide +kernel
theorem d_H_goesTo_17 : decode b_H_goesTo 17 = .ok (.invokestatic 105, 3) := by decide +kernel
theorem d_H_goesTo_20 : decode b_H_goesTo 20 = .ok (.ifCond .eq 7, 3) := by decide +kernel
theorem d_H_goesTo_23 : decode b_H_goesTo 23 = .ok (.iconst 1, 1) := by decide +kernel
theorem d_H_goesTo_24 : decode b_H_goesTo 24 = .ok (.goto 4, 3) := by decide +kernel
theorem d_H_goesTo_27 : decode b_H_goesTo 27 = .ok (.iconst 0, 1) := by decide +kernel
theorem d_H_goesTo_28 : decode b_H_goesTo 28 = .ok (.ireturn, 1) := by decide +kernel
theorem d_H_goesTo_29 : decode b_H_goesTo 29 = .ok (.iload_n 1, 1) := by decide +kernel
theorem d_H_goesTo_30 : decode b_H_goesTo 30 = .ok (.sipush 255, 3) := by decide +kernel
theorem d_H_goesTo_33 : decode b_H_goesTo 33 = .ok (.if_icmp .eq 15, 3) := by decide +kernel
theorem d_H_goesTo_36 : decode b_H_goesTo 36 = .ok (.aload_n 0, 1) := by decide +kernel
theorem d_H_goesTo_37 : decode b_H_goesTo 37 = .ok (.getfield 9, 3) := by decide +kernel
theorem d_H_goesTo_40 : decode b_H_goesTo 40 = .ok (.iload_n 1, 1) := by decide +kernel
theorem d_H_goesTo_41 : decode b_H_goesTo 41 = .ok (.iload_n 2, 1) := by decide +kernel
theorem d_H_goesTo_42 : decode b_H_goesTo 42 = .ok (.invokevirtual 108, 3) := by decide +kernel
theorem d_H_goesTo_45 : decode b_H_goesTo 45 = .ok (.ifCond .eq 7, 3) := by decide +kernel
theorem d_H_goesTo_48 : decode b_H_goesTo 48 = .ok (.iconst 1, 1) := by decide +kernel
theorem d_H_goesTo_49 : decode b_H_goesTo 49 = .ok (.goto 4, 3) := by decide +kernel
theorem d_H_goesTo_52 : decode b_H_goesTo 52 = .ok (.iconst 0, 1) := by decide +kernel
theorem d_H_goesTo_53 : decode b_H_goesTo 53 = .ok (.ireturn, 1) := by decide +kernel
abbrev rm_H_goesTo : Room := { frames := 2, cells := 0, slots := 0, locals := 43 }
def fx_H_goesTo (n : Nat) (S : ZC) (a1 : Int32) (a2 : Int32) : Option (Int32 × ZC) :=
  zbind1 (fx_T_isPrimitive n a2) (fun r_1 =>
  (if r_1 = 0 then
  (if a1 = (255 : Int32) then
    some ((1 : Int32), S)
    else
    zbind (fx_T_isSubtype n S a1 a2) (fun r_4 S_4 =>
      (if r_4 = 0 then
      some ((0 : Int32), S_4)
      else
      some ((1 : Int32), S_4))))
  else
  (if (hPh S) ≤ (1 : Int32) then
    some ((0 : Int32), S)
    else
    zbind1 (fx_H_unboxesTo n a1 a2) (fun r_7 =>
      (if r_7 = 0 then
      some ((0 : Int32), S)
      else
      some ((1 : Int32), S))))))

set_option maxRecDepth 100000 in
set_option maxHeartbeats 4000000 in
theorem k_H_goesTo (l : Launch) (z : zE) (A : Nat → Nat) (Rr : va_W) (n : Nat) (S : ZC) (a1 : Int32) (a2 : Int32) (r0 : Int32) (S' : ZC) (h : fx_H_goesTo n S a1 a2 = some (r0, S')) : zC z l y_H_goesTo w_H_goesTo rm_H_goesTo [.ref (A 3), .int a1, .int a2] (cw z A S ++ Rr) (some (.int r0)) (cw z A S' ++ Rr) := by
  refine zz_of (by decide) (Nat.le_of_ble_eq_true rfl) ?_
  intro p e s m args below meth c A0 ls hM hr hlocks hA hP hD hl
  have hM : zM z p s m args c b_H_goesTo 3 R_H := hM
  obtain ⟨hx, hb, hml, hown, hts, hK, hN⟩ := id hM
  have hS : va_S A0 s.heap s.heap [] := va_S.rf
  have hl : lv_has ls 3 [(0, .ref (A 3)), (1, .int a1), (2, .int a2)] := hl
  unfold fx_H_goesTo at h
  refine lv_iload_n hx hb d_H_goesTo_0 rfl (lv_at hl 2 rfl) ?_
  obtain ⟨r_1, e_1, h⟩ := zz_bind1 h
  refine zz_goI (zz_runS (As := [.int a2]) (rest := []) (k_T_isPrimitive l z _ n _ _ e_1) ⟨hx, hb, hml, hown, hts⟩ (va_cwS 1 hts (zz_gS wq_485 wq_33 wq_2 wq_34) rfl rfl rfl (by decide +kernel) ⟨Nat.le_of_ble_eq_true rfl, Nat.le_of_ble_eq_true rfl⟩) hK hN hP hD rfl hl.1 rfl (Nat.le_of_ble_eq_true rfl) d_H_goesTo_1 ⟨Nat.le_of_ble_eq_true rfl, Nat.le_of_ble_eq_true rfl⟩) hD hS hA (fun H locs hP hD hS => ?_)
  refine lv_if_eq (tgt := 29) hx hb d_H_goesTo_4 (by decide) (fun c_2 => ?_) (fun c_2 => ?_)
  · replace h := zz_t c_2 h
    refine lv_iload_n hx hb d_H_goesTo_29 rfl (lv_at hl 1 rfl) ?_
    refine lv_sipush (v := 255) hx hb d_H_goesTo_30 (by decide) ?_
    refine lv_icmp_eq (tgt := 48) hx hb d_H_goesTo_33 (by decide) (fun c_3 => ?_) (fun c_3 => ?_)
    · replace h := zz_t c_3 h
      refine lv_iconst (v := 1) hx hb d_H_goesTo_48 (by decide) ?_
      refine lv_goto (tgt := 53) hx hb d_H_goesTo_49 (by decide) ?_
      exact zz_zret (fun S => cw z A S ++ Rr) hx hb hr hlocks hP hD hS rfl h d_H_goesTo_53
    · replace h := zz_f c_3 h
      refine lv_aload_n hx hb d_H_goesTo_36 rfl (lv_at hl 0 rfl) ?_
      refine va_get (D := z.1) (ci := 3) (v := .ref (A 1)) (C := R_H) (T := F_H) (N := 8) hx hb hts i_H hown hK hP 3 rfl rfl 0 (by decide) (hts _ wq_96) (fun _ h9 => h9) rfl d_H_goesTo_37 ?_
      refine lv_iload_n hx hb d_H_goesTo_40 rfl (lv_at hl 1 rfl) ?_
      refine lv_iload_n hx hb d_H_goesTo_41 rfl (lv_at hl 2 rfl) ?_
      obtain ⟨r_4, S_4, e_4, h⟩ := zz_bind h
      refine zz_goI (zz_runV (As := [.int a1, .int a2]) (rest := []) (k_T_isSubtype l z A Rr n _ _ _ _ _ e_4) ⟨hx, hb, hml, hown, hts⟩ (cwV 2 hts (zz_gV wq_489 wq_189 wq_190 wq_2 wq_191) rfl rfl rfl (by decide +kernel) ⟨Nat.le_of_ble_eq_true rfl, Nat.le_of_ble_eq_true rfl⟩) hK hN hP hD (va_recv hK hP (ci := 1) (q0 := 1) rfl rfl) rfl hl.1 rfl (Nat.le_of_ble_eq_true rfl) d_H_goesTo_42 ⟨Nat.le_of_ble_eq_true rfl, Nat.le_of_ble_eq_true rfl⟩) hD hS hA (fun H locs hP hD hS => ?_)
      refine lv_if_eq (tgt := 52) hx hb d_H_goesTo_45 (by decide) (fun c_5 => ?_) (fun c_5 => ?_)
      · replace h := zz_t c_5 h
        refine lv_iconst (v := 0) hx hb d_H_goesTo_52 (by decide) ?_
        exact zz_zret (fun S => cw z A S ++ Rr) hx hb hr hlocks hP hD hS rfl h d_H_goesTo_53
      · replace h := zz_f c_5 h
        refine lv_iconst (v := 1) hx hb d_H_goesTo_48 (by decide) ?_
        refine lv_goto (tgt := 53) hx hb d_H_goesTo_49 (by decide) ?_
        exact zz_zret (fun S => cw z A S ++ Rr) hx hb hr hlocks hP hD hS rfl h d_H_goesTo_53
  · replace h := zz_f c_2 h
    refine lv_aload_n hx hb d_H_goesTo_7 rfl (lv_at hl 0 rfl) ?_
    refine va_get (D := z.1) (ci := 3) (v := .int (hPh S)) (C := R_H) (T := F_H) (N := 8) hx hb hts i_H hown hK hP 3 rfl rfl 7 (by decide) (hts _ wq_103) (fun _ h9 => h9) rfl d_H_goesTo_8 ?_
    refine lv_iconst (v := 1) hx hb d_H_goesTo_11 (by decide) ?_
    refine lv_icmp_le (tgt := 27) hx hb d_H_goesTo_12 (by decide) (fun c_6 => ?_) (fun c_6 => ?_)
    · replace h := zz_t c_6 h
      refine lv_iconst (v := 0) hx hb d_H_goesTo_27 (by decide) ?_
      exact zz_zret (fun S => cw z A S ++ Rr) hx hb hr hlocks hP hD hS rfl h d_H_goesTo_28
    · replace h := zz_f c_6 h
      refine lv_iload_n hx hb d_H_goesTo_15 rfl (lv_at hl 1 rfl) ?_
      refine lv_iload_n hx hb d_H_goesTo_16 rfl (lv_at hl 2 rfl) ?_
      obtain ⟨r_7, e_7, h⟩ := zz_bind1 h
      refine zz_goI (zz_runS (As := [.int a1, .int a2]) (rest := []) (k_H_unboxesTo l z _ n _ _ _ e_7) ⟨hx, hb, hml, hown, hts⟩ (va_cwS 2 hts (zz_gS wq_486 wq_487 wq_4 wq_488) rfl rfl rfl (by decide +kernel) ⟨Nat.le_of_ble_eq_true rfl, Nat.le_of_ble_eq_true rfl⟩) hK hN hP hD rfl hl.1 rfl (Nat.le_of_ble_eq_true rfl) d_H_goesTo_17 ⟨Nat.le_of_ble_eq_true rfl, Nat.le_of_ble_eq_true rfl⟩) hD hS hA (fun H locs hP hD hS => ?_)
      refine lv_if_eq (tgt := 27) hx hb d_H_goesTo_20 (by decide) (fun c_8 => ?_) (fun c_8 => ?_)
      · replace h := zz_t c_8 h
        refine lv_iconst (v := 0) hx hb d_H_goesTo_27 (by decide) ?_
        exact zz_zret (fun S => cw z A S ++ Rr) hx hb hr hlocks hP hD hS rfl h d_H_goesTo_28
      · replace h := zz_f c_8 h
        refine lv_iconst (v := 1) hx hb d_H_goesTo_23 (by decide) ?_
        refine lv_goto (tgt := 28) hx hb d_H_goesTo_24 (by decide) ?_
        exact zz_zret (fun S => cw z A S ++ Rr) hx hb hr hlocks hP hD hS rfl h d_H_goesTo_28

abbrev b_H_takesSoMany : ByteArray := prog_2_method_9_code
abbrev y_H_takesSoMany : MethodName := ⟨"MemberChooser$Chooser", "takesSoMany", "(II)Z"⟩
abbrev w_H_takesSoMany : List Cond := Cond.code y_H_takesSoMany b_H_takesSoMany 3 (some .boolean) :: zTb
theorem d_H_takesSoMany_0 : decode b_H_takesSoMany 0 = .ok (.aload_n 0, 1) := by decide +kernel
theorem d_H_takesSoMany_1 : decode b_H_takesSoMany 1 = .ok (.getfield 40, 3) := by decide +kernel
theorem d_H_takesSoMany_4 : decode b_H_takesSoMany 4 = .ok (.iconst 3, 1) := by decide +kernel
theorem d_H_takesSoMany_5 : decode b_H_takesSoMany 5 = .ok (.if_icmp .ne 36, 3) := by decide +kernel
theorem d_H_takesSoMany_8 : decode b_H_takesSoMany 8 = .ok (.aload_n 0, 1) := by decide +kernel
theorem d_H_takesSoMany_9 : decode b_H_takesSoMany 9 = .ok (.getfield 15, 3) := by decide +kernel
theorem d_H_takesSoMany_12 : decode b_H_takesSoMany 12 = .ok (.getfield 95, 3) := by decide +kernel
theorem d_H_takesSoMany_15 : decode b_H_takesSoMany 15 = .ok (.iload_n 1, 1) := by decide +kernel
theorem d_H_takesSoMany_16 : decode b_H_takesSoMany 16 = .ok (.baload, 1) := by decide +kernel
theorem d_H_takesSoMany_17 : decode b_H_takesSoMany 17 = .ok (.ifCond .eq 22, 3) := by decide +kernel
theorem d_H_takesSoMany_20 : decode b_H_takesSoMany 20 = .ok (.iload_n 2, 1) := by decide +kernel
theorem d_H_takesSoMany_21 : decode b_H_takesSoMany 21 = .ok (.aload_n 0, 1) := by decide +kernel
theorem d_H_takesSoMany_22 : decode b_H_takesSoMany 22 = .ok (.getfield 15, 3) := by decide +kernel
theorem d_H_takesSoMany_25 : decode b_H_takesSoMany 25 = .ok (.getfield 99, 3) := by decide +kernel
theorem d_H_takesSoMany_28 : decode b_H_takesSoMany 28 = .ok (.iload_n 1, 1) := by decide +kernel
theorem d_H_takesSoMany_29 : decode b_H_takesSoMany 29 = .ok (.iaload, 1) := by decide +kernel
theorem d_H_takesSoMany_30 : decode b_H_takesSoMany 30 = .ok (.iconst 1, 1) := by decide +kernel
theorem d_H_takesSoMany_31 : decode b_H_takesSoMany 31 = .ok (.isub, 1) := by decide +kernel
theorem d_H_takesSoMany_32 : decode b_H_takesSoMany 32 = .ok (.if_icmp .lt 7, 3) := by decide +kernel
theorem d_H_takesSoMany_35 : decode b_H_takesSoMany 35 = .ok (.iconst 1, 1) := by decide +kernel
theorem d_H_takesSoMany_36 : decode b_H_takesSoMany 36 = .ok (.goto 4, 3) := by decide +kernel
theorem d_H_takesSoMany_39 : decode b_H_takesSoMany 39 = .ok (.iconst 0, 1) := by decide +kernel
theorem d_H_takesSoMany_40 : decode b_H_takesSoMany 40 = .ok (.ireturn, 1) := by decide +kernel
theorem d_H_takesSoMany_41 : decode b_H_takesSoMany 41 = .ok (.aload_n 0, 1) := by decide +kernel
theorem d_H_takesSoMany_42 : decode b_H_takesSoMany 42 = .ok (.getfield 15, 3) := by decide +kernel
theorem d_H_takesSoMany_45 : decode b_H_takesSoMany 45 = .ok (.getfield 95, 3) := by decide +kernel
theorem d_H_takesSoMany_48 : decode b_H_takesSoMany 48 = .ok (.iload_n 1, 1) := by decide +kernel
theorem d_H_takesSoMany_49 : decode b_H_takesSoMany 49 = .ok (.baload, 1) := by decide +kernel
theorem d_H_takesSoMany_50 : decode b_H_takesSoMany 50 = .ok (.ifCond .ne 20, 3) := by decide +kernel
theorem d_H_takesSoMany_53 : decode b_H_takesSoMany 53 = .ok (.iload_n 2, 1) := by decide +kernel
theorem d_H_takesSoMany_54 : decode b_H_takesSoMany 54 = .ok (.aload_n 0, 1) := by decide +kernel
theorem d_H_takesSoMany_55 : decode b_H_takesSoMany 55 = .ok (.getfield 15, 3) := by decide +kernel
theorem d_H_takesSoMany_58 : decode b_H_takesSoMany 58 = .ok (.getfield 99, 3) := by decide +kernel
theorem d_H_takesSoMany_61 : decode b_H_takesSoMany 61 = .ok (.iload_n 1, 1) := by decide +kernel
theorem d_H_takesSoMany_62 : decode b_H_takesSoMany 62 = .ok (.iaload, 1) := by decide +kernel
theorem d_H_takesSoMany_63 : decode b_H_takesSoMany 63 = .ok (.if_icmp .ne 7, 3) := by decide +kernel
theorem d_H_takesSoMany_66 : decode b_H_takesSoMany 66 = .ok (.iconst 1, 1) := by decide +kernel
theorem d_H_takesSoMany_67 : decode b_H_takesSoMany 67 = .ok (.goto 4, 3) := by decide +kernel
theorem d_H_takesSoMany_70 : decode b_H_takesSoMany 70 = .ok (.iconst 0, 1) := by decide +kernel
theorem d_H_takesSoMany_71 : decode b_H_takesSoMany 71 = .ok (.ireturn, 1) := by decide +kernel
abbrev rm_H_takesSoMany : Room := { frames := 0, cells := 0, slots := 0, locals := 0 }
def fx_H_takesSoMany (n : Nat) (S : ZC) (a1 : Int32) (a2 : Int32) : Option (Int32 × ZC) :=
  (if (hPh S) = (3 : Int32) then
  (if zoob a1 80 then none else
    (if ((mVa S) a1.toNatClampNeg) = 0 then
    some ((0 : Int32), S)
    else
    (if zoob a1 80 then none else
      (if a2 < (((mSz S) a1.toNatClampNeg) - (1 : Int32)) then
      some ((0 : Int32), S)
      else
      some ((1 : Int32), S)))))
  else
  (if zoob a1 80 then none else
    (if ((mVa S) a1.toNatClampNeg) = 0 then
    (if zoob a1 80 then none else
      (if a2 = ((mSz S) a1.toNatClampNeg) then
      some ((1 : Int32), S)
      else
      some ((0 : Int32), S)))
    else
    some ((0 : Int32), S))))

set_option maxRecDepth 100000 in
set_option maxHeartbeats 4000000 in
theorem k_H_takesSoMany (l : Launch) (z : zE) (A : Nat → Nat) (Rr : va_W) (n : Nat) (S : ZC) (a1 : Int32) (a2 : Int32) (r0 : Int32) (S' : ZC) (h : fx_H_takesSoMany n S a1 a2 = some (r0, S')) : zC z l y_H_takesSoMany w_H_takesSoMany rm_H_takesSoMany [.ref (A 3), .int a1, .int a2] (cw z A S ++ Rr) (some (.int r0)) (cw z A S' ++ Rr) := by
  refine zz_of (by decide) (Nat.le_of_ble_eq_true rfl) ?_
  intro p e s m args below meth c A0 ls hM hr hlocks hA hP hD hl
  have hM : zM z p s m args c b_H_takesSoMany 3 R_H := hM
  obtain ⟨hx, hb, hml, hown, hts, hK, hN⟩ := id hM
  have hS : va_S A0 s.heap s.heap [] := va_S.rf
  have hl : lv_has ls 3 [(0, .ref (A 3)), (1, .int a1), (2, .int a2)] := hl
  unfold fx_H_takesSoMany at h
  refine lv_aload_n hx hb d_H_takesSoMany_0 rfl (lv_at hl 0 rfl) ?_
  refine va_get (D := z.1) (ci := 3) (v := .int (hPh S)) (C := R_H) (T := F_H) (N := 8) hx hb hts i_H hown hK hP 3 rfl rfl 7 (by decide) (hts _ wq_103) (fun _ h9 => h9) rfl d_H_takesSoMany_1 ?_
  refine lv_iconst (v := 3) hx hb d_H_takesSoMany_4 (by decide) ?_
  refine lv_icmp_ne (tgt := 41) hx hb d_H_takesSoMany_5 (by decide) (fun c_1 => ?_) (fun c_1 => ?_)
  · replace h := zz_f c_1 h
    refine lv_aload_n hx hb d_H_takesSoMany_41 rfl (lv_at hl 0 rfl) ?_
    refine va_get (D := z.1) (ci := 3) (v := .ref (A 2)) (C := R_H) (T := F_H) (N := 8) hx hb hts i_H hown hK hP 3 rfl rfl 1 (by decide) (hts _ wq_97) (fun _ h9 => h9) rfl d_H_takesSoMany_42 ?_
    refine va_getN (D := z.1) (ci := 2) (v := .ref (A 14)) (C := R_M) (T := F_M) (N := 6) hx hb hts i_M hown hK hP 2 rfl rfl 4 (by decide) (zz_nf hN 5 rfl) (fun _ h9 => h9) rfl d_H_takesSoMany_45 ?_
    refine lv_iload_n hx hb d_H_takesSoMany_48 rfl (lv_at hl 1 rfl) ?_
    obtain ⟨c_2, h⟩ := zz_oob h
    refine va_zald hx hb hK hP 14 1 rfl rfl c_2 d_H_takesSoMany_49 ?_
    refine lv_if_ne (tgt := 70) hx hb d_H_takesSoMany_50 (by decide) (fun c_3 => ?_) (fun c_3 => ?_)
    · replace h := zz_f c_3 h
      refine lv_iconst (v := 0) hx hb d_H_takesSoMany_70 (by decide) ?_
      exact zz_zret (fun S => cw z A S ++ Rr) hx hb hr hlocks hP hD hS rfl h d_H_takesSoMany_71
    · replace h := zz_t c_3 h
      refine lv_iload_n hx hb d_H_takesSoMany_53 rfl (lv_at hl 2 rfl) ?_
      refine lv_aload_n hx hb d_H_takesSoMany_54 rfl (lv_at hl 0 rfl) ?_
      refine va_get (D := z.1) (ci := 3) (v := .ref (A 2)) (C := R_H) (T := F_H) (N := 8) hx hb hts i_H hown hK hP 3 rfl rfl 1 (by decide) (hts _ wq_97) (fun _ h9 => h9) rfl d_H_takesSoMany_55 ?_
      refine va_getN (D := z.1) (ci := 2) (v := .ref (A 12)) (C := R_M) (T := F_M) (N := 6) hx hb hts i_M hown hK hP 2 rfl rfl 2 (by decide) (zz_nf hN 6 rfl) (fun _ h9 => h9) rfl d_H_takesSoMany_58 ?_
      refine lv_iload_n hx hb d_H_takesSoMany_61 rfl (lv_at hl 1 rfl) ?_
      obtain ⟨c_4, h⟩ := zz_oob h
      refine va_iald hx hb hK hP 12 0 rfl rfl c_4 d_H_takesSoMany_62 ?_
      refine lv_icmp_ne (tgt := 70) hx hb d_H_takesSoMany_63 (by decide) (fun c_5 => ?_) (fun c_5 => ?_)
      · replace h := zz_f c_5 h
        refine lv_iconst (v := 0) hx hb d_H_takesSoMany_70 (by decide) ?_
        exact zz_zret (fun S => cw z A S ++ Rr) hx hb hr hlocks hP hD hS rfl h d_H_takesSoMany_71
      · replace h := zz_t c_5 h
        refine lv_iconst (v := 1) hx hb d_H_takesSoMany_66 (by decide) ?_
        refine lv_goto (tgt := 71) hx hb d_H_takesSoMany_67 (by decide) ?_
        exact zz_zret (fun S => cw z A S ++ Rr) hx hb hr hlocks hP hD hS rfl h d_H_takesSoMany_71
  · replace h := zz_t c_1 h
    refine lv_aload_n hx hb d_H_takesSoMany_8 rfl (lv_at hl 0 rfl) ?_
    refine va_get (D := z.1) (ci := 3) (v := .ref (A 2)) (C := R_H) (T := F_H) (N := 8) hx hb hts i_H hown hK hP 3 rfl rfl 1 (by decide) (hts _ wq_97) (fun _ h9 => h9) rfl d_H_takesSoMany_9 ?_
    refine va_getN (D := z.1) (ci := 2) (v := .ref (A 14)) (C := R_M) (T := F_M) (N := 6) hx hb hts i_M hown hK hP 2 rfl rfl 4 (by decide) (zz_nf hN 5 rfl) (fun _ h9 => h9) rfl d_H_takesSoMany_12 ?_
    refine lv_iload_n hx hb d_H_takesSoMany_15 rfl (lv_at hl 1 rfl) ?_
    obtain ⟨c_6, h⟩ := zz_oob h
    refine va_zald hx hb hK hP 14 1 rfl rfl c_6 d_H_takesSoMany_16 ?_
    refine lv_if_eq (tgt := 39) hx hb d_H_takesSoMany_17 (by decide) (fun c_7 => ?_) (fun c_7 => ?_)
    · replace h := zz_t c_7 h
      refine lv_iconst (v := 0) hx hb d_H_takesSoMany_39 (by decide) ?_
      exact zz_zret (fun S => cw z A S ++ Rr) hx hb hr hlocks hP hD hS rfl h d_H_takesSoMany_40
    · replace h := zz_f c_7 h
      refine lv_iload_n hx hb d_H_takesSoMany_20 rfl (lv_at hl 2 rfl) ?_
      refine lv_aload_n hx hb d_H_takesSoMany_21 rfl (lv_at hl 0 rfl) ?_
      refine va_get (D := z.1) (ci := 3) (v := .ref (A 2)) (C := R_H) (T := F_H) (N := 8) hx hb hts i_H hown hK hP 3 rfl rfl 1 (by decide) (hts _ wq_97) (fun _ h9 => h9) rfl d_H_takesSoMany_22 ?_
      refine va_getN (D := z.1) (ci := 2) (v := .ref (A 12)) (C := R_M) (T := F_M) (N := 6) hx hb hts i_M hown hK hP 2 rfl rfl 2 (by decide) (zz_nf hN 6 rfl) (fun _ h9 => h9) rfl d_H_takesSoMany_25 ?_
      refine lv_iload_n hx hb d_H_takesSoMany_28 rfl (lv_at hl 1 rfl) ?_
      obtain ⟨c_8, h⟩ := zz_oob h
      refine va_iald hx hb hK hP 12 0 rfl rfl c_8 d_H_takesSoMany_29 ?_
      refine lv_iconst (v := 1) hx hb d_H_takesSoMany_30 (by decide) ?_
      refine lv_isub hx hb d_H_takesSoMany_31 ?_
      refine lv_icmp_lt (tgt := 39) hx hb d_H_takesSoMany_32 (by decide) (fun c_9 => ?_) (fun c_9 => ?_)
      · replace h := zz_t c_9 h
        refine lv_iconst (v := 0) hx hb d_H_takesSoMany_39 (by decide) ?_
        exact zz_zret (fun S => cw z A S ++ Rr) hx hb hr hlocks hP hD hS rfl h d_H_takesSoMany_40
      · replace h := zz_f c_9 h
        refine lv_iconst (v := 1) hx hb d_H_takesSoMany_35 (by decide) ?_
        refine lv_goto (tgt := 40) hx hb d_H_takesSoMany_36 (by decide) ?_
        exact zz_zret (fun S => cw z A S ++ Rr) hx hb hr hlocks hP hD hS rfl h d_H_takesSoMany_40

