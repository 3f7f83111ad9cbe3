abbrev b_X_type : ByteArray := prog_1_method_2_code
abbrev y_X_type : MethodName := ⟨"MemberChooser", "type", "(I)I"⟩
abbrev w_X_type : List Cond := Cond.code y_X_type b_X_type 2 (some .int) :: zTb
theorem d_X_type_0 : decode b_X_type 0 = .ok (.iload_n 1, 1) := by decide +kernel
theorem d_X_type_1 : decode b_X_type 1 = .ok (.iconst (-1), 1) := by decide +kernel
theorem d_X_type_2 : decode b_X_type 2 = .ok (.if_icmp .eq 24, 3) := by decide +kernel
theorem d_X_type_5 : decode b_X_type 5 = .ok (.aload_n 0, 1) := by decide +kernel
theorem d_X_type_6 : decode b_X_type 6 = .ok (.getfield 10, 3) := by decide +kernel
theorem d_X_type_9 : decode b_X_type 9 = .ok (.iload_n 1, 1) := by decide +kernel
theorem d_X_type_10 : decode b_X_type 10 = .ok (.invokevirtual 46, 3) := by decide +kernel
theorem d_X_type_13 : decode b_X_type 13 = .ok (.ifCond .ne 13, 3) := by decide +kernel
theorem d_X_type_16 : decode b_X_type 16 = .ok (.new 50, 3) := by decide +kernel
theorem d_X_type_19 : decode b_X_type 19 = .ok (.dup, 1) := by decide +kernel
theorem d_X_type_20 : decode b_X_type 20 = .ok (.ldc 52, 2) := by decide +kernel
theorem d_X_type_22 : decode b_X_type 22 = .ok (.invokespecial 54, 3) := by decide +kernel
theorem d_X_type_25 : decode b_X_type 25 = .ok (.athrow, 1) := by decide +kernel
theorem d_X_type_26 : decode b_X_type 26 = .ok (.aload_n 0, 1) := by decide +kernel
theorem d_X_type_27 : decode b_X_type 27 = .ok (.getfield 10, 3) := by decide +kernel
theorem d_X_type_30 : decode b_X_type 30 = .ok (.invokevirtual 57, 3) := by decide +kernel
theorem d_X_type_33 : decode b_X_type 33 = .ok (.ifCond .eq 13, 3) := by decide +kernel
theorem d_X_type_36 : decode b_X_type 36 = .ok (.new 61, 3) := by decide +kernel
theorem d_X_type_39 : decode b_X_type 39 = .ok (.dup, 1) := by decide +kernel
theorem d_X_type_40 : decode b_X_type 40 = .ok (.ldc 63, 2) := by decide +kernel
theorem d_X_type_42 : decode b_X_type 42 = .ok (.invokespecial 65, 3) := by decide +kernel
theorem d_X_type_45 : decode b_X_type 45 = .ok (.athrow, 1) := by decide +kernel
theorem d_X_type_46 : decode b_X_type 46 = .ok (.aload_n 0, 1) := by decide +kernel
theorem d_X_type_47 : decode b_X_type 47 = .ok (.getfield 10, 3) := by decide +kernel
theorem d_X_type_50 : decode b_X_type 50 = .ok (.iconst 0, 1) := by decide +kernel
theorem d_X_type_51 : decode b_X_type 51 = .ok (.iload_n 1, 1) := by decide +kernel
theorem d_X_type_52 : decode b_X_type 52 = .ok (.invokevirtual 66, 3) := by decide +kernel
theorem d_X_type_55 : decode b_X_type 55 = .ok (.ireturn, 1) := by decide +kernel
abbrev rm_X_type : Room := { frames := 6, cells := 1, slots := 6, locals := 90 }
def jx_X_type_26 (n : Nat) (v1 : Int32) (S : ZC) : Option ((Int32 ⊕ Nat) × ZC) :=
  zbind (fx_T_isFull n S) (fun r_4 S_4 =>
    (if r_4 = 0 then
    zbind (fx_T_add n S_4 (0 : Int32) v1) (fun r_6 S_6 =>
      some (.inl r_6, S_6))
    else
    some (.inr 2, S_4)))

def fx_X_type (n : Nat) (S : ZC) (a1 : Int32) : Option ((Int32 ⊕ Nat) × ZC) :=
  (if a1 = (-1 : Int32) then
  jx_X_type_26 n a1 S
  else
  zbind (fx_T_isToldClass n S a1) (fun r_2 S_2 =>
    (if r_2 = 0 then
    some (.inr 1, S_2)
    else
    jx_X_type_26 n a1 S_2)))

set_option maxRecDepth 100000 in
set_option maxHeartbeats 4000000 in
theorem k_X_type (l : Launch) (hl0 : l.stackTraces = false) (z : zE) (A : Nat → Nat) (Rr : va_W) (n : Nat) (S : ZC) (a1 : Int32) (r0 : Int32 ⊕ Nat) (S' : ZC) (h : fx_X_type n S a1 = some (r0, S')) : zX z l y_X_type w_X_type rm_X_type [.ref (A 0), .int a1] (cw z A S ++ Rr) (zEx r0) (cw z A S' ++ Rr) := by
  refine zz_ofX (by decide) (Nat.le_of_ble_eq_true rfl) ?_
  intro p e s m args below meth c A0 ls hM hSt hTh hno hr hlocks hA hP hD hl
  have hM : zM z p s m args c b_X_type 2 R_X := hM
  obtain ⟨hx, hb, hml, hown, hts, hK, hN⟩ := id hM
  have hS : va_S A0 s.heap s.heap [] := va_S.rf
  have hl : lv_has ls 2 [(0, .ref (A 0)), (1, .int a1)] := hl
  have J26 : ∀ (v1 : Int32) (S : ZC), jx_X_type_26 n v1 S = some (r0, S') → ∀ (H : Heap) (locs : List Loc) (ls : Array Slot), va_P z.1 vwCl (cw z A S ++ Rr) H → va_D A0 (cw z A S ++ Rr) → va_S A0 s.heap H locs → lv_has ls 2 [(0, .ref (A 0)), (1, .int v1)] → W p l e rm_X_type s m args below meth c H locs 0 0 (zXM z below s A0 (zEx r0) (cw z A S' ++ Rr)) (F0 m 26 ls []) := by
    intro v1 S h H locs ls hP hD hS hl
    unfold jx_X_type_26 at h
    refine lv_aload_n hx hb d_X_type_26 rfl (lv_at hl 0 rfl) ?_
    refine va_get (D := z.1) (ci := 0) (v := .ref (A 17)) (C := R_X) (T := F_X) (N := 6) hx hb hts i_X hown hK hP 0 rfl rfl 0 (by decide) (hts _ wq_149) (fun _ h9 => h9) rfl d_X_type_27 ?_
    obtain ⟨r_4, S_4, e_4, h⟩ := zz_bind h
    refine zz_goI (zz_runV (As := []) (rest := []) (k_T_isFull l z A Rr n _ _ _ e_4) ⟨hx, hb, hml, hown, hts⟩ (cwV 0 hts (zz_gV wq_359 wq_360 wq_361 wq_2 wq_362) rfl rfl rfl (by decide +kernel) ⟨Nat.le_of_ble_eq_true rfl, Nat.le_of_ble_eq_true rfl⟩) hK hN hP hD (va_recv hK hP (ci := 1) (q0 := 17) rfl rfl) rfl hl.1 rfl (Nat.le_of_ble_eq_true rfl) d_X_type_30 ⟨Nat.le_of_ble_eq_true rfl, Nat.le_of_ble_eq_true rfl⟩) hD hS hA (fun H locs hP hD hS => ?_)
    refine lv_if_eq (tgt := 46) hx hb d_X_type_33 (by decide) (fun c_5 => ?_) (fun c_5 => ?_)
    · replace h := zz_t c_5 h
      refine lv_aload_n hx hb d_X_type_46 rfl (lv_at hl 0 rfl) ?_
      refine va_get (D := z.1) (ci := 0) (v := .ref (A 17)) (C := R_X) (T := F_X) (N := 6) hx hb hts i_X hown hK hP 0 rfl rfl 0 (by decide) (hts _ wq_149) (fun _ h9 => h9) rfl d_X_type_47 ?_
      refine lv_iconst (v := 0) hx hb d_X_type_50 (by decide) ?_
      refine lv_iload_n hx hb d_X_type_51 rfl (lv_at hl 1 rfl) ?_
      obtain ⟨r_6, S_6, e_6, h⟩ := zz_bind h
      refine zz_goI (zz_runV (As := [.int (0 : Int32), .int v1]) (rest := []) (k_T_add l z A Rr n _ _ _ _ _ e_6) ⟨hx, hb, hml, hown, hts⟩ (cwV 2 hts (zz_gV wq_379 wq_380 wq_381 wq_2 wq_382) rfl rfl rfl (by decide +kernel) ⟨Nat.le_of_ble_eq_true rfl, Nat.le_of_ble_eq_true rfl⟩) hK hN hP hD (va_recv hK hP (ci := 1) (q0 := 17) rfl rfl) rfl hl.1 rfl (Nat.le_of_ble_eq_true rfl) d_X_type_52 ⟨Nat.le_of_ble_eq_true rfl, Nat.le_of_ble_eq_true rfl⟩) hD hS hA (fun H locs hP hD hS => ?_)
      cases h
      exact zz_xret (fun S => cw z A S ++ Rr) hx hb hr hlocks hP hD hS (Nat.le_of_ble_eq_true rfl) (Nat.le_of_ble_eq_true rfl) d_X_type_55
    · replace h := zz_f c_5 h
      cases h
      exact zz_throw (k := 1) (rest := []) hx hb hl0 hown hts hSt hTh hno (by decide +kernel) wq_363 wq_11 wq_364 ox_65 rfl hP hD hS (hl.1.trans hml.symm) hlocks d_X_type_36 d_X_type_39 d_X_type_40 d_X_type_42 d_X_type_45 (Nat.le_of_ble_eq_true rfl) (Nat.le_of_ble_eq_true rfl) (Nat.le_of_ble_eq_true rfl) (Nat.le_of_ble_eq_true rfl) (Nat.le_of_ble_eq_true rfl) (Nat.le_of_ble_eq_true rfl)
  unfold fx_X_type at h
  refine lv_iload_n hx hb d_X_type_0 rfl (lv_at hl 1 rfl) ?_
  refine lv_iconst (v := -1) hx hb d_X_type_1 (by decide) ?_
  refine lv_icmp_eq (tgt := 26) hx hb d_X_type_2 (by decide) (fun c_1 => ?_) (fun c_1 => ?_)
  · replace h := zz_t c_1 h
    exact J26 _ _ h _ _ _ hP hD hS hl
  · replace h := zz_f c_1 h
    refine lv_aload_n hx hb d_X_type_5 rfl (lv_at hl 0 rfl) ?_
    refine va_get (D := z.1) (ci := 0) (v := .ref (A 17)) (C := R_X) (T := F_X) (N := 6) hx hb hts i_X hown hK hP 0 rfl rfl 0 (by decide) (hts _ wq_149) (fun _ h9 => h9) rfl d_X_type_6 ?_
    refine lv_iload_n hx hb d_X_type_9 rfl (lv_at hl 1 rfl) ?_
    obtain ⟨r_2, S_2, e_2, h⟩ := zz_bind h
    refine zz_goI (zz_runV (As := [.int a1]) (rest := []) (k_T_isToldClass l z A Rr n _ _ _ _ e_2) ⟨hx, hb, hml, hown, hts⟩ (cwV 1 hts (zz_gV wq_286 wq_287 wq_288 wq_2 wq_289) rfl rfl rfl (by decide +kernel) ⟨Nat.le_of_ble_eq_true rfl, Nat.le_of_ble_eq_true rfl⟩) hK hN hP hD (va_recv hK hP (ci := 1) (q0 := 17) rfl rfl) rfl hl.1 rfl (Nat.le_of_ble_eq_true rfl) d_X_type_10 ⟨Nat.le_of_ble_eq_true rfl, Nat.le_of_ble_eq_true rfl⟩) hD hS hA (fun H locs hP hD hS => ?_)
    refine lv_if_ne (tgt := 26) hx hb d_X_type_13 (by decide) (fun c_3 => ?_) (fun c_3 => ?_)
    · replace h := zz_f c_3 h
      exact J26 _ _ h _ _ _ hP hD hS hl
    · replace h := zz_t c_3 h
      cases h
      exact zz_throw (k := 0) (rest := []) hx hb hl0 hown hts hSt hTh hno (by decide +kernel) wq_290 wq_10 wq_291 ox_54 rfl hP hD hS (hl.1.trans hml.symm) hlocks d_X_type_16 d_X_type_19 d_X_type_20 d_X_type_22 d_X_type_25 (Nat.le_of_ble_eq_true rfl) (Nat.le_of_ble_eq_true rfl) (Nat.le_of_ble_eq_true rfl) (Nat.le_of_ble_eq_true rfl) (Nat.le_of_ble_eq_true rfl) (Nat.le_of_ble_eq_true rfl)

abbrev b_X_face : ByteArray := prog_1_method_3_code
abbrev y_X_face : MethodName := ⟨"MemberChooser", "face", "()I"⟩
abbrev w_X_face : List Cond := Cond.code y_X_face b_X_face 1 (some .int) :: zTb
theorem d_X_face_0 : decode b_X_face 0 = .ok (.aload_n 0, 1) := by decide +kernel
theorem d_X_face_1 : decode b_X_face 1 = .ok (.getfield 10, 3) := by decide +kernel
theorem d_X_face_4 : decode b_X_face 4 = .ok (.invokevirtual 57, 3) := by decide +kernel
theorem d_X_face_7 : decode b_X_face 7 = .ok (.ifCond .eq 13, 3) := by decide +kernel
theorem d_X_face_10 : decode b_X_face 10 = .ok (.new 61, 3) := by decide +kernel
theorem d_X_face_13 : decode b_X_face 13 = .ok (.dup, 1) := by decide +kernel
theorem d_X_face_14 : decode b_X_face 14 = .ok (.ldc 63, 2) := by decide +kernel
theorem d_X_face_16 : decode b_X_face 16 = .ok (.invokespecial 65, 3) := by decide +kernel
theorem d_X_face_19 : decode b_X_face 19 = .ok (.athrow, 1) := by decide +kernel
theorem d_X_face_20 : decode b_X_face 20 = .ok (.aload_n 0, 1) := by decide +kernel
theorem d_X_face_21 : decode b_X_face 21 = .ok (.getfield 10, 3) := by decide +kernel
theorem d_X_face_24 : decode b_X_face 24 = .ok (.iconst 1, 1) := by decide +kernel
theorem d_X_face_25 : decode b_X_face 25 = .ok (.iconst (-1), 1) := by decide +kernel
theorem d_X_face_26 : decode b_X_face 26 = .ok (.invokevirtual 66, 3) := by decide +kernel
theorem d_X_face_29 : decode b_X_face 29 = .ok (.ireturn, 1) := by decide +kernel
abbrev rm_X_face : Room := { frames := 6, cells := 1, slots := 6, locals := 90 }
def fx_X_face (n : Nat) (S : ZC)  : Option ((Int32 ⊕ Nat) × ZC) :=
  zbind (fx_T_isFull n S) (fun r_1 S_1 =>
  (if r_1 = 0 then
  zbind (fx_T_add n S_1 (1 : Int32) (-1 : Int32)) (fun r_3 S_3 =>
    some (.inl r_3, S_3))
  else
  some (.inr 2, S_1)))

set_option maxRecDepth 100000 in
set_option maxHeartbeats 4000000 in
theorem k_X_face (l : Launch) (hl0 : l.stackTraces = false) (z : zE) (A : Nat → Nat) (Rr : va_W) (n : Nat) (S : ZC)  (r0 : Int32 ⊕ Nat) (S' : ZC) (h : fx_X_face n S  = some (r0, S')) : zX z l y_X_face w_X_face rm_X_face [.ref (A 0)] (cw z A S ++ Rr) (zEx r0) (cw z A S' ++ Rr) := by
  refine zz_ofX (by decide) (Nat.le_of_ble_eq_true rfl) ?_
  intro p e s m args below meth c A0 ls hM hSt hTh hno hr hlocks hA hP hD hl
  have hM : zM z p s m args c b_X_face 1 R_X := hM
  obtain ⟨hx, hb, hml, hown, hts, hK, hN⟩ := id hM
  have hS : va_S A0 s.heap s.heap [] := va_S.rf
  have hl : lv_has ls 1 [(0, .ref (A 0))] := hl
  unfold fx_X_face at h
  refine lv_aload_n hx hb d_X_face_0 rfl (lv_at hl 0 rfl) ?_
  refine va_get (D := z.1) (ci := 0) (v := .ref (A 17)) (C := R_X) (T := F_X) (N := 6) hx hb hts i_X hown hK hP 0 rfl rfl 0 (by decide) (hts _ wq_149) (fun _ h9 => h9) rfl d_X_face_1 ?_
  obtain ⟨r_1, S_1, e_1, h⟩ := zz_bind h
  refine zz_goI (zz_runV (As := []) (rest := []) (k_T_isFull l z A Rr n _ _ _ e_1) ⟨hx, hb, hml, hown, hts⟩ (cwV 0 hts (zz_gV wq_359 wq_360 wq_361 wq_2 wq_362) rfl rfl rfl (by decide +kernel) ⟨Nat.le_of_ble_eq_true rfl, Nat.le_of_ble_eq_true rfl⟩) hK hN hP hD (va_recv hK hP (ci := 1) (q0 := 17) rfl rfl) rfl hl.1 rfl (Nat.le_of_ble_eq_true rfl) d_X_face_4 ⟨Nat.le_of_ble_eq_true rfl, Nat.le_of_ble_eq_true rfl⟩) hD hS hA (fun H locs hP hD hS => ?_)
  refine lv_if_eq (tgt := 20) hx hb d_X_face_7 (by decide) (fun c_2 => ?_) (fun c_2 => ?_)
  · replace h := zz_t c_2 h
    refine lv_aload_n hx hb d_X_face_20 rfl (lv_at hl 0 rfl) ?_
    refine va_get (D := z.1) (ci := 0) (v := .ref (A 17)) (C := R_X) (T := F_X) (N := 6) hx hb hts i_X hown hK hP 0 rfl rfl 0 (by decide) (hts _ wq_149) (fun _ h9 => h9) rfl d_X_face_21 ?_
    refine lv_iconst (v := 1) hx hb d_X_face_24 (by decide) ?_
    refine lv_iconst (v := -1) hx hb d_X_face_25 (by decide) ?_
    obtain ⟨r_3, S_3, e_3, h⟩ := zz_bind h
    refine zz_goI (zz_runV (As := [.int (1 : Int32), .int (-1 : Int32)]) (rest := []) (k_T_add l z A Rr n _ _ _ _ _ e_3) ⟨hx, hb, hml, hown, hts⟩ (cwV 2 hts (zz_gV wq_379 wq_380 wq_381 wq_2 wq_382) rfl rfl rfl (by decide +kernel) ⟨Nat.le_of_ble_eq_true rfl, Nat.le_of_ble_eq_true rfl⟩) hK hN hP hD (va_recv hK hP (ci := 1) (q0 := 17) rfl rfl) rfl hl.1 rfl (Nat.le_of_ble_eq_true rfl) d_X_face_26 ⟨Nat.le_of_ble_eq_true rfl, Nat.le_of_ble_eq_true rfl⟩) hD hS hA (fun H locs hP hD hS => ?_)
    cases h
    exact zz_xret (fun S => cw z A S ++ Rr) hx hb hr hlocks hP hD hS (Nat.le_of_ble_eq_true rfl) (Nat.le_of_ble_eq_true rfl) d_X_face_29
  · replace h := zz_f c_2 h
    cases h
    exact zz_throw (k := 1) (rest := []) hx hb hl0 hown hts hSt hTh hno (by decide +kernel) wq_363 wq_11 wq_364 ox_65 rfl hP hD hS (hl.1.trans hml.symm) hlocks d_X_face_10 d_X_face_13 d_X_face_14 d_X_face_16 d_X_face_19 (Nat.le_of_ble_eq_true rfl) (Nat.le_of_ble_eq_true rfl) (Nat.le_of_ble_eq_true rfl) (Nat.le_of_ble_eq_true rfl) (Nat.le_of_ble_eq_true rfl) (Nat.le_of_ble_eq_true rfl)

abbrev b_X_member : ByteArray := prog_1_method_5_code
abbrev y_X_member : MethodName := ⟨"MemberChooser", "member", "(IIIJZ)I"⟩
abbrev w_X_member : List Cond := Cond.code y_X_member b_X_member 9 (some .int) :: zTb
theorem d_X_member_0 : decode b_X_member 0 = .ok (.aload_n 0, 1) := by decide +kernel
theorem d_X_member_1 : decode b_X_member 1 = .ok (.getfield 10, 3) := by decide +kernel
theorem d_X_member_4 : decode b_X_member 4 = .ok (.iload_n 1, 1) := by decide +kernel
theorem d_X_member_5 : decode b_X_member 5 = .ok (.invokevirtual 77, 3) := by decide +kernel
theorem d_X_member_8 : decode b_X_member 8 = .ok (.ifCond .eq 10, 3) := by decide +kernel
theorem d_X_member_11 : decode b_X_member 11 = .ok (.iload_n 2, 1) := by decide +kernel
theorem d_X_member_12 : decode b_X_member 12 = .ok (.invokestatic 80, 3) := by decide +kernel
theorem d_X_member_15 : decode b_X_member 15 = .ok (.ifCond .ne 13, 3) := by decide +kernel
theorem d_X_member_18 : decode b_X_member 18 = .ok (.new 50, 3) := by decide +kernel
theorem d_X_member_21 : decode b_X_member 21 = .ok (.dup, 1) := by decide +kernel
theorem d_X_member_22 : decode b_X_member 22 = .ok (.ldc 83, 2) := by decide +kernel
theorem d_X_member_24 : decode b_X_member 24 = .ok (.invokespecial 54, 3) := by decide +kernel
theorem d_X_member_27 : decode b_X_member 27 = .ok (.athrow, 1) := by decide +kernel
theorem d_X_member_28 : decode b_X_member 28 = .ok (.aload_n 0, 1) := by decide +kernel
theorem d_X_member_29 : decode b_X_member 29 = .ok (.iload_n 3, 1) := by decide +kernel
theorem d_X_member_30 : decode b_X_member 30 = .ok (.lload 4, 2) := by decide +kernel
theorem d_X_member_32 : decode b_X_member 32 = .ok (.invokevirtual 85, 3) := by decide +kernel
theorem d_X_member_35 : decode b_X_member 35 = .ok (.ifCond .eq 12, 3) := by decide +kernel
theorem d_X_member_38 : decode b_X_member 38 = .ok (.iload 6, 2) := by decide +kernel
theorem d_X_member_40 : decode b_X_member 40 = .ok (.ifCond .eq 17, 3) := by decide +kernel
theorem d_X_member_43 : decode b_X_member 43 = .ok (.iload_n 3, 1) := by decide +kernel
theorem d_X_member_44 : decode b_X_member 44 = .ok (.ifCond .ne 13, 3) := by decide +kernel
theorem d_X_member_47 : decode b_X_member 47 = .ok (.new 50, 3) := by decide +kernel
theorem d_X_member_50 : decode b_X_member 50 = .ok (.dup, 1) := by decide +kernel
theorem d_X_member_51 : decode b_X_member 51 = .ok (.ldc 89, 2) := by decide +kernel
theorem d_X_member_53 : decode b_X_member 53 = .ok (.invokespecial 54, 3) := by decide +kernel
theorem d_X_member_56 : decode b_X_member 56 = .ok (.athrow, 1) := by decide +kernel
theorem d_X_member_57 : decode b_X_member 57 = .ok (.lload 4, 2) := by decide +kernel
theorem d_X_member_59 : decode b_X_member 59 = .ok (.iload_n 3, 1) := by decide +kernel
theorem d_X_member_60 : decode b_X_member 60 = .ok (.invokestatic 91, 3) := by decide +kernel
theorem d_X_member_63 : decode b_X_member 63 = .ok (.lstore 7, 2) := by decide +kernel
theorem d_X_member_65 : decode b_X_member 65 = .ok (.aload_n 0, 1) := by decide +kernel
theorem d_X_member_66 : decode b_X_member 66 = .ok (.getfield 19, 3) := by decide +kernel
theorem d_X_member_69 : decode b_X_member 69 = .ok (.invokevirtual 95, 3) := by decide +kernel
theorem d_X_member_72 : decode b_X_member 72 = .ok (.ifCond .ne 18, 3) := by decide +kernel
theorem d_X_member_75 : decode b_X_member 75 = .ok (.aload_n 0, 1) := by decide +kernel
theorem d_X_member_76 : decode b_X_member 76 = .ok (.getfield 19, 3) := by decide +kernel
theorem d_X_member_79 : decode b_X_member 79 = .ok (.iload_n 1, 1) := by decide +kernel
theorem d_X_member_80 : decode b_X_member 80 = .ok (.iload_n 2, 1) := by decide +kernel
theorem d_X_member_81 : decode b_X_member 81 = .ok (.iload_n 3, 1) := by decide +kernel
theorem d_X_member_82 : decode b_X_member 82 = .ok (.lload 7, 2) := by decide +kernel
theorem d_X_member_84 : decode b_X_member 84 = .ok (.invokevirtual 96, 3) := by decide +kernel
theorem d_X_member_87 : decode b_X_member 87 = .ok (.ifCond .eq 13, 3) := by decide +kernel
theorem d_X_member_90 : decode b_X_member 90 = .ok (.new 61, 3) := by decide +kernel
theorem d_X_member_93 : decode b_X_member 93 = .ok (.dup, 1) := by decide +kernel
theorem d_X_member_94 : decode b_X_member 94 = .ok (.ldc 99, 2) := by decide +kernel
theorem d_X_member_96 : decode b_X_member 96 = .ok (.invokespecial 65, 3) := by decide +kernel
theorem d_X_member_99 : decode b_X_member 99 = .ok (.athrow, 1) := by decide +kernel
theorem d_X_member_100 : decode b_X_member 100 = .ok (.aload_n 0, 1) := by decide +kernel
theorem d_X_member_101 : decode b_X_member 101 = .ok (.getfield 35, 3) := by decide +kernel
theorem d_X_member_104 : decode b_X_member 104 = .ok (.iload_n 2, 1) := by decide +kernel
theorem d_X_member_105 : decode b_X_member 105 = .ok (.invokevirtual 101, 3) := by decide +kernel
theorem d_X_member_108 : decode b_X_member 108 = .ok (.aload_n 0, 1) := by decide +kernel
theorem d_X_member_109 : decode b_X_member 109 = .ok (.getfield 19, 3) := by decide +kernel
theorem d_X_member_112 : decode b_X_member 112 = .ok (.iload_n 1, 1) := by decide +kernel
theorem d_X_member_113 : decode b_X_member 113 = .ok (.iload_n 2, 1) := by decide +kernel
theorem d_X_member_114 : decode b_X_member 114 = .ok (.iload_n 3, 1) := by decide +kernel
theorem d_X_member_115 : decode b_X_member 115 = .ok (.lload 7, 2) := by decide +kernel
theorem d_X_member_117 : decode b_X_member 117 = .ok (.iload 6, 2) := by decide +kernel
theorem d_X_member_119 : decode b_X_member 119 = .ok (.invokevirtual 105, 3) := by decide +kernel
theorem d_X_member_122 : decode b_X_member 122 = .ok (.ireturn, 1) := by decide +kernel
abbrev rm_X_member : Room := { frames := 6, cells := 1, slots := 6, locals := 90 }
def jx_X_member_57 (n : Nat) (v1 : Int32) (v2 : Int32) (v3 : Int32) (v4 : Int64) (v6 : Int32) (S : ZC) : Option ((Int32 ⊕ Nat) × ZC) :=
  zbind1 (fx_X_lowestBytes n v4 v3) (fun r_9 =>
    zbind (fx_M_isFull n S) (fun r_10 S_10 =>
    (if r_10 = 0 then
    zbind (fx_M_isTold n S_10 v1 v2 v3 r_9) (fun r_12 S_12 =>
      (if r_12 = 0 then
      zbind1 (fx_K_letGoName n S_12 v2) (fun S_14 =>
        zbind (fx_M_add n S_14 v1 v2 v3 r_9 v6) (fun r_15 S_15 =>
        some (.inl r_15, S_15)))
      else
      some (.inr 2, S_12)))
    else
    some (.inr 2, S_10))))

def fx_X_member (n : Nat) (S : ZC) (a1 : Int32) (a2 : Int32) (a3 : Int32) (a4 : Int64) (a6 : Int32) : Option ((Int32 ⊕ Nat) × ZC) :=
  zbind (fx_T_isTold n S a1) (fun r_1 S_1 =>
  (if r_1 = 0 then
  some (.inr 1, S_1)
  else
  zbind1 (fx_X_isName n a2) (fun r_3 =>
    (if r_3 = 0 then
    some (.inr 1, S_1)
    else
    zbind (fx_X_areParameters n S_1 a3 a4) (fun r_5 S_5 =>
      (if r_5 = 0 then
      some (.inr 1, S_5)
      else
      (if a6 = 0 then
        jx_X_member_57 n a1 a2 a3 a4 a6 S_5
        else
        (if a3 = 0 then
          some (.inr 1, S_5)
          else
          jx_X_member_57 n a1 a2 a3 a4 a6 S_5))))))))

set_option maxRecDepth 100000 in
set_option maxHeartbeats 4000000 in
theorem k_X_member (l : Launch) (hl0 : l.stackTraces = false) (z : zE) (A : Nat → Nat) (Rr : va_W) (n : Nat) (S : ZC) (a1 : Int32) (a2 : Int32) (a3 : Int32) (a4 : Int64) (a6 : Int32) (r0 : Int32 ⊕ Nat) (S' : ZC) (h : fx_X_member n S a1 a2 a3 a4 a6 = some (r0, S')) : zX z l y_X_member w_X_member rm_X_member [.ref (A 0), .int a1, .int a2, .int a3, .long a4, .int a6] (cw z A S ++ Rr) (zEx r0) (cw z A S' ++ Rr) := by
  refine zz_ofX (by decide) (Nat.le_of_ble_eq_true rfl) ?_
  intro p e s m args below meth c A0 ls hM hSt hTh hno hr hlocks hA hP hD hl
  have hM : zM z p s m args c b_X_member 9 R_X := hM
  obtain ⟨hx, hb, hml, hown, hts, hK, hN⟩ := id hM
  have hS : va_S A0 s.heap s.heap [] := va_S.rf
  have hl : lv_has ls 9 [(0, .ref (A 0)), (1, .int a1), (2, .int a2), (3, .int a3), (4, .long a4), (6, .int a6)] := hl
  have J57 : ∀ (v1 : Int32) (v2 : Int32) (v3 : Int32) (v4 : Int64) (v6 : Int32) (S : ZC), jx_X_member_57 n v1 v2 v3 v4 v6 S = some (r0, S') → ∀ (H : Heap) (locs : List Loc) (ls : Array Slot), va_P z.1 vwCl (cw z A S ++ Rr) H → va_D A0 (cw z A S ++ Rr) → va_S A0 s.heap H locs → lv_has ls 9 [(0, .ref (A 0)), (1, .int v1), (2, .int v2), (3, .int v3), (4, .long v4), (6, .int v6)] → W p l e rm_X_member s m args below meth c H locs 0 0 (zXM z below s A0 (zEx r0) (cw z A S' ++ Rr)) (F0 m 57 ls []) := by
    intro v1 v2 v3 v4 v6 S h H locs ls hP hD hS hl
    unfold jx_X_member_57 at h
    refine lv_lload hx hb d_X_member_57 (lv_at hl 4 rfl) ?_
    refine lv_iload_n hx hb d_X_member_59 rfl (lv_at hl 3 rfl) ?_
    obtain ⟨r_9, e_9, h⟩ := zz_bind1 h
    refine zz_goL (zz_runS (As := [.long v4, .int v3]) (rest := []) (k_X_lowestBytes l z _ n _ _ _ e_9) ⟨hx, hb, hml, hown, hts⟩ (va_cwS 2 hts (zz_gS wq_409 wq_410 wq_1 wq_411) rfl rfl rfl (by decide +kernel) ⟨Nat.le_of_ble_eq_true rfl, Nat.le_of_ble_eq_true rfl⟩) hK hN hP hD rfl hl.1 rfl (Nat.le_of_ble_eq_true rfl) d_X_member_60 ⟨Nat.le_of_ble_eq_true rfl, Nat.le_of_ble_eq_true rfl⟩) hD hS hA (fun H locs hP hD hS => ?_)
    refine lv_lstore (lv' := [(7, .long r_9), (0, .ref (A 0)), (1, .int v1), (2, .int v2), (3, .int v3), (4, .long v4), (6, .int v6)]) hx hb d_X_member_63 hl (by decide) rfl (fun ls hl => ?_)
    refine lv_aload_n hx hb d_X_member_65 rfl (lv_at hl 1 rfl) ?_
    refine va_get (D := z.1) (ci := 0) (v := .ref (A 11)) (C := R_X) (T := F_X) (N := 6) hx hb hts i_X hown hK hP 0 rfl rfl 1 (by decide) (hts _ wq_150) (fun _ h9 => h9) rfl d_X_member_66 ?_
    obtain ⟨r_10, S_10, e_10, h⟩ := zz_bind h
    refine zz_goI (zz_runV (As := []) (rest := []) (k_M_isFull l z A Rr n _ _ _ e_10) ⟨hx, hb, hml, hown, hts⟩ (cwV 0 hts (zz_gV wq_412 wq_413 wq_414 wq_3 wq_415) rfl rfl rfl (by decide +kernel) ⟨Nat.le_of_ble_eq_true rfl, Nat.le_of_ble_eq_true rfl⟩) hK hN hP hD (va_recv hK hP (ci := 2) (q0 := 11) rfl rfl) rfl hl.1 rfl (Nat.le_of_ble_eq_true rfl) d_X_member_69 ⟨Nat.le_of_ble_eq_true rfl, Nat.le_of_ble_eq_true rfl⟩) hD hS hA (fun H locs hP hD hS => ?_)
    refine lv_if_ne (tgt := 90) hx hb d_X_member_72 (by decide) (fun c_11 => ?_) (fun c_11 => ?_)
    · replace h := zz_f c_11 h
      cases h
      exact zz_throw (k := 4) (rest := []) hx hb hl0 hown hts hSt hTh hno (by decide +kernel) wq_363 wq_11 wq_364 ox_65 rfl hP hD hS (hl.1.trans hml.symm) hlocks d_X_member_90 d_X_member_93 d_X_member_94 d_X_member_96 d_X_member_99 (Nat.le_of_ble_eq_true rfl) (Nat.le_of_ble_eq_true rfl) (Nat.le_of_ble_eq_true rfl) (Nat.le_of_ble_eq_true rfl) (Nat.le_of_ble_eq_true rfl) (Nat.le_of_ble_eq_true rfl)
    · replace h := zz_t c_11 h
      refine lv_aload_n hx hb d_X_member_75 rfl (lv_at hl 1 rfl) ?_
      refine va_get (D := z.1) (ci := 0) (v := .ref (A 11)) (C := R_X) (T := F_X) (N := 6) hx hb hts i_X hown hK hP 0 rfl rfl 1 (by decide) (hts _ wq_150) (fun _ h9 => h9) rfl d_X_member_76 ?_
      refine lv_iload_n hx hb d_X_member_79 rfl (lv_at hl 2 rfl) ?_
      refine lv_iload_n hx hb d_X_member_80 rfl (lv_at hl 3 rfl) ?_
      refine lv_iload_n hx hb d_X_member_81 rfl (lv_at hl 4 rfl) ?_
      refine lv_lload hx hb d_X_member_82 (lv_at hl 0 rfl) ?_
      obtain ⟨r_12, S_12, e_12, h⟩ := zz_bind h
      refine zz_goI (zz_runV (As := [.int v1, .int v2, .int v3, .long r_9]) (rest := []) (k_M_isTold l z A Rr n _ _ _ _ _ _ _ e_12) ⟨hx, hb, hml, hown, hts⟩ (cwV 4 hts (zz_gV wq_416 wq_417 wq_418 wq_3 wq_419) rfl rfl rfl (by decide +kernel) ⟨Nat.le_of_ble_eq_true rfl, Nat.le_of_ble_eq_true rfl⟩) hK hN hP hD (va_recv hK hP (ci := 2) (q0 := 11) rfl rfl) rfl hl.1 rfl (Nat.le_of_ble_eq_true rfl) d_X_member_84 ⟨Nat.le_of_ble_eq_true rfl, Nat.le_of_ble_eq_true rfl⟩) hD hS hA (fun H locs hP hD hS => ?_)
      refine lv_if_eq (tgt := 100) hx hb d_X_member_87 (by decide) (fun c_13 => ?_) (fun c_13 => ?_)
      · replace h := zz_t c_13 h
        refine lv_aload_n hx hb d_X_member_100 rfl (lv_at hl 1 rfl) ?_
        refine va_get (D := z.1) (ci := 0) (v := .ref (A 1)) (C := R_X) (T := F_X) (N := 6) hx hb hts i_X hown hK hP 0 rfl rfl 3 (by decide) (hts _ wq_152) (fun _ h9 => h9) rfl d_X_member_101 ?_
        refine lv_iload_n hx hb d_X_member_104 rfl (lv_at hl 3 rfl) ?_
        obtain ⟨S_14, e_14, h⟩ := zz_bind1 h
        refine zz_goV (zz_runV (As := [.int v2]) (rest := []) (k_K_letGoName l z A Rr n _ _ _ e_14) ⟨hx, hb, hml, hown, hts⟩ (cwV 1 hts (zz_gV wq_422 wq_423 wq_424 wq_5 wq_425) rfl rfl rfl (by decide +kernel) ⟨Nat.le_of_ble_eq_true rfl, Nat.le_of_ble_eq_true rfl⟩) hK hN hP hD (va_recv hK hP (ci := 4) (q0 := 1) rfl rfl) rfl hl.1 rfl (Nat.le_of_ble_eq_true rfl) d_X_member_105 ⟨Nat.le_of_ble_eq_true rfl, Nat.le_of_ble_eq_true rfl⟩) hD hS hA (fun H locs hP hD hS => ?_)
        refine lv_aload_n hx hb d_X_member_108 rfl (lv_at hl 1 rfl) ?_
        refine va_get (D := z.1) (ci := 0) (v := .ref (A 11)) (C := R_X) (T := F_X) (N := 6) hx hb hts i_X hown hK hP 0 rfl rfl 1 (by decide) (hts _ wq_150) (fun _ h9 => h9) rfl d_X_member_109 ?_
        refine lv_iload_n hx hb d_X_member_112 rfl (lv_at hl 2 rfl) ?_
        refine lv_iload_n hx hb d_X_member_113 rfl (lv_at hl 3 rfl) ?_
        refine lv_iload_n hx hb d_X_member_114 rfl (lv_at hl 4 rfl) ?_
        refine lv_lload hx hb d_X_member_115 (lv_at hl 0 rfl) ?_
        refine lv_iload hx hb d_X_member_117 (lv_at hl 6 rfl) ?_
        obtain ⟨r_15, S_15, e_15, h⟩ := zz_bind h
        refine zz_goI (zz_runV (As := [.int v1, .int v2, .int v3, .long r_9, .int v6]) (rest := []) (k_M_add l z A Rr n _ _ _ _ _ _ _ _ e_15) ⟨hx, hb, hml, hown, hts⟩ (cwV 5 hts (zz_gV wq_430 wq_431 wq_432 wq_3 wq_433) rfl rfl rfl (by decide +kernel) ⟨Nat.le_of_ble_eq_true rfl, Nat.le_of_ble_eq_true rfl⟩) hK hN hP hD (va_recv hK hP (ci := 2) (q0 := 11) rfl rfl) rfl hl.1 rfl (Nat.le_of_ble_eq_true rfl) d_X_member_119 ⟨Nat.le_of_ble_eq_true rfl, Nat.le_of_ble_eq_true rfl⟩) hD hS hA (fun H locs hP hD hS => ?_)
        cases h
        exact zz_xret (fun S => cw z A S ++ Rr) hx hb hr hlocks hP hD hS (Nat.le_of_ble_eq_true rfl) (Nat.le_of_ble_eq_true rfl) d_X_member_122
      · replace h := zz_f c_13 h
        cases h
        exact zz_throw (k := 4) (rest := []) hx hb hl0 hown hts hSt hTh hno (by decide +kernel) wq_363 wq_11 wq_364 ox_65 rfl hP hD hS (hl.1.trans hml.symm) hlocks d_X_member_90 d_X_member_93 d_X_member_94 d_X_member_96 d_X_member_99 (Nat.le_of_ble_eq_true rfl) (Nat.le_of_ble_eq_true rfl) (Nat.le_of_ble_eq_true rfl) (Nat.le_of_ble_eq_true rfl) (Nat.le_of_ble_eq_true rfl) (Nat.le_of_ble_eq_true rfl)
  unfold fx_X_member at h
  refine lv_aload_n hx hb d_X_member_0 rfl (lv_at hl 0 rfl) ?_
  refine va_get (D := z.1) (ci := 0) (v := .ref (A 17)) (C := R_X) (T := F_X) (N := 6) hx hb hts i_X hown hK hP 0 rfl rfl 0 (by decide) (hts _ wq_149) (fun _ h9 => h9) rfl d_X_member_1 ?_
  refine lv_iload_n hx hb d_X_member_4 rfl (lv_at hl 1 rfl) ?_
  obtain ⟨r_1, S_1, e_1, h⟩ := zz_bind h
  refine zz_goI (zz_runV (As := [.int a1]) (rest := []) (k_T_isTold l z A Rr n _ _ _ _ e_1) ⟨hx, hb, hml, hown, hts⟩ (cwV 1 hts (zz_gV wq_397 wq_177 wq_178 wq_2 wq_179) rfl rfl rfl (by decide +kernel) ⟨Nat.le_of_ble_eq_true rfl, Nat.le_of_ble_eq_true rfl⟩) hK hN hP hD (va_recv hK hP (ci := 1) (q0 := 17) rfl rfl) rfl hl.1 rfl (Nat.le_of_ble_eq_true rfl) d_X_member_5 ⟨Nat.le_of_ble_eq_true rfl, Nat.le_of_ble_eq_true rfl⟩) hD hS hA (fun H locs hP hD hS => ?_)
  refine lv_if_eq (tgt := 18) hx hb d_X_member_8 (by decide) (fun c_2 => ?_) (fun c_2 => ?_)
  · replace h := zz_t c_2 h
    cases h
    exact zz_throw (k := 2) (rest := []) hx hb hl0 hown hts hSt hTh hno (by decide +kernel) wq_290 wq_10 wq_291 ox_54 rfl hP hD hS (hl.1.trans hml.symm) hlocks d_X_member_18 d_X_member_21 d_X_member_22 d_X_member_24 d_X_member_27 (Nat.le_of_ble_eq_true rfl) (Nat.le_of_ble_eq_true rfl) (Nat.le_of_ble_eq_true rfl) (Nat.le_of_ble_eq_true rfl) (Nat.le_of_ble_eq_true rfl) (Nat.le_of_ble_eq_true rfl)
  · replace h := zz_f c_2 h
    refine lv_iload_n hx hb d_X_member_11 rfl (lv_at hl 2 rfl) ?_
    obtain ⟨r_3, e_3, h⟩ := zz_bind1 h
    refine zz_goI (zz_runS (As := [.int a2]) (rest := []) (k_X_isName l z _ n _ _ e_3) ⟨hx, hb, hml, hown, hts⟩ (va_cwS 1 hts (zz_gS wq_398 wq_399 wq_1 wq_400) rfl rfl rfl (by decide +kernel) ⟨Nat.le_of_ble_eq_true rfl, Nat.le_of_ble_eq_true rfl⟩) hK hN hP hD rfl hl.1 rfl (Nat.le_of_ble_eq_true rfl) d_X_member_12 ⟨Nat.le_of_ble_eq_true rfl, Nat.le_of_ble_eq_true rfl⟩) hD hS hA (fun H locs hP hD hS => ?_)
    refine lv_if_ne (tgt := 28) hx hb d_X_member_15 (by decide) (fun c_4 => ?_) (fun c_4 => ?_)
    · replace h := zz_f c_4 h
      refine lv_aload_n hx hb d_X_member_28 rfl (lv_at hl 0 rfl) ?_
      refine lv_iload_n hx hb d_X_member_29 rfl (lv_at hl 3 rfl) ?_
      refine lv_lload hx hb d_X_member_30 (lv_at hl 4 rfl) ?_
      obtain ⟨r_5, S_5, e_5, h⟩ := zz_bind h
      refine zz_goI (zz_runV (As := [.int a3, .long a4]) (rest := []) (k_X_areParameters l z A Rr n _ _ _ _ _ e_5) ⟨hx, hb, hml, hown, hts⟩ (cwV 2 hts (zz_gV wq_402 wq_404 wp_6 wq_1 wq_405) rfl rfl rfl (by decide +kernel) ⟨Nat.le_of_ble_eq_true rfl, Nat.le_of_ble_eq_true rfl⟩) hK hN hP hD (va_recv hK hP (ci := 0) (q0 := 0) rfl rfl) rfl hl.1 rfl (Nat.le_of_ble_eq_true rfl) d_X_member_32 ⟨Nat.le_of_ble_eq_true rfl, Nat.le_of_ble_eq_true rfl⟩) hD hS hA (fun H locs hP hD hS => ?_)
      refine lv_if_eq (tgt := 47) hx hb d_X_member_35 (by decide) (fun c_6 => ?_) (fun c_6 => ?_)
      · replace h := zz_t c_6 h
        cases h
        exact zz_throw (k := 3) (rest := []) hx hb hl0 hown hts hSt hTh hno (by decide +kernel) wq_290 wq_10 wq_291 ox_54 rfl hP hD hS (hl.1.trans hml.symm) hlocks d_X_member_47 d_X_member_50 d_X_member_51 d_X_member_53 d_X_member_56 (Nat.le_of_ble_eq_true rfl) (Nat.le_of_ble_eq_true rfl) (Nat.le_of_ble_eq_true rfl) (Nat.le_of_ble_eq_true rfl) (Nat.le_of_ble_eq_true rfl) (Nat.le_of_ble_eq_true rfl)
      · replace h := zz_f c_6 h
        refine lv_iload hx hb d_X_member_38 (lv_at hl 5 rfl) ?_
        refine lv_if_eq (tgt := 57) hx hb d_X_member_40 (by decide) (fun c_7 => ?_) (fun c_7 => ?_)
        · replace h := zz_t c_7 h
          exact J57 _ _ _ _ _ _ h _ _ _ hP hD hS hl
        · replace h := zz_f c_7 h
          refine lv_iload_n hx hb d_X_member_43 rfl (lv_at hl 3 rfl) ?_
          refine lv_if_ne (tgt := 57) hx hb d_X_member_44 (by decide) (fun c_8 => ?_) (fun c_8 => ?_)
          · replace h := zz_f c_8 h
            exact J57 _ _ _ _ _ _ h _ _ _ hP hD hS hl
          · replace h := zz_t c_8 h
            cases h
            exact zz_throw (k := 3) (rest := []) hx hb hl0 hown hts hSt hTh hno (by decide +kernel) wq_290 wq_10 wq_291 ox_54 rfl hP hD hS (hl.1.trans hml.symm) hlocks d_X_member_47 d_X_member_50 d_X_member_51 d_X_member_53 d_X_member_56 (Nat.le_of_ble_eq_true rfl) (Nat.le_of_ble_eq_true rfl) (Nat.le_of_ble_eq_true rfl) (Nat.le_of_ble_eq_true rfl) (Nat.le_of_ble_eq_true rfl) (Nat.le_of_ble_eq_true rfl)
    · replace h := zz_t c_4 h
      cases h
      exact zz_throw (k := 2) (rest := []) hx hb hl0 hown hts hSt hTh hno (by decide +kernel) wq_290 wq_10 wq_291 ox_54 rfl hP hD hS (hl.1.trans hml.symm) hlocks d_X_member_18 d_X_member_21 d_X_member_22 d_X_member_24 d_X_member_27 (Nat.le_of_ble_eq_true rfl) (Nat.le_of_ble_eq_true rfl) (Nat.le_of_ble_eq_true rfl) (Nat.le_of_ble_eq_true rfl) (Nat.le_of_ble_eq_true rfl) (Nat.le_of_ble_eq_true rfl)

abbrev b_X_call : ByteArray := prog_1_method_8_code
abbrev y_X_call : MethodName := ⟨"MemberChooser", "call", "(IIIJ)I"⟩
abbrev w_X_call : List Cond := Cond.code y_X_call b_X_call 10 (some .int) :: zTb
theorem d_X_call_0 : decode b_X_call 0 = .ok (.aload_n 0, 1) := by decide +kernel
theorem d_X_call_1 : decode b_X_call 1 = .ok (.getfield 10, 3) := by decide +kernel
theorem d_X_call_4 : decode b_X_call 4 = .ok (.iload_n 1, 1) := by decide +kernel
theorem d_X_call_5 : decode b_X_call 5 = .ok (.invokevirtual 77, 3) := by decide +kernel
theorem d_X_call_8 : decode b_X_call 8 = .ok (.ifCond .eq 20, 3) := by decide +kernel
theorem d_X_call_11 : decode b_X_call 11 = .ok (.iload_n 2, 1) := by decide +kernel
theorem d_X_call_12 : decode b_X_call 12 = .ok (.invokestatic 80, 3) := by decide +kernel
theorem d_X_call_15 : decode b_X_call 15 = .ok (.ifCond .eq 13, 3) := by decide +kernel
theorem d_X_call_18 : decode b_X_call 18 = .ok (.aload_n 0, 1) := by decide +kernel
theorem d_X_call_19 : decode b_X_call 19 = .ok (.iload_n 3, 1) := by decide +kernel
theorem d_X_call_20 : decode b_X_call 20 = .ok (.lload 4, 2) := by decide +kernel
theorem d_X_call_22 : decode b_X_call 22 = .ok (.invokevirtual 115, 3) := by decide +kernel
theorem d_X_call_25 : decode b_X_call 25 = .ok (.ifCond .ne 13, 3) := by decide +kernel
theorem d_X_call_28 : decode b_X_call 28 = .ok (.new 50, 3) := by decide +kernel
theorem d_X_call_31 : decode b_X_call 31 = .ok (.dup, 1) := by decide +kernel
theorem d_X_call_32 : decode b_X_call 32 = .ok (.ldc 118, 2) := by decide +kernel
theorem d_X_call_34 : decode b_X_call 34 = .ok (.invokespecial 54, 3) := by decide +kernel
theorem d_X_call_37 : decode b_X_call 37 = .ok (.athrow, 1) := by decide +kernel
theorem d_X_call_38 : decode b_X_call 38 = .ok (.lload 4, 2) := by decide +kernel
theorem d_X_call_40 : decode b_X_call 40 = .ok (.iload_n 3, 1) := by decide +kernel
theorem d_X_call_41 : decode b_X_call 41 = .ok (.invokestatic 91, 3) := by decide +kernel
theorem d_X_call_44 : decode b_X_call 44 = .ok (.lstore 6, 2) := by decide +kernel
theorem d_X_call_46 : decode b_X_call 46 = .ok (.aload_n 0, 1) := by decide +kernel
theorem d_X_call_47 : decode b_X_call 47 = .ok (.getfield 35, 3) := by decide +kernel
theorem d_X_call_50 : decode b_X_call 50 = .ok (.iload_n 1, 1) := by decide +kernel
theorem d_X_call_51 : decode b_X_call 51 = .ok (.iload_n 2, 1) := by decide +kernel
theorem d_X_call_52 : decode b_X_call 52 = .ok (.iload_n 3, 1) := by decide +kernel
theorem d_X_call_53 : decode b_X_call 53 = .ok (.lload 6, 2) := by decide +kernel
theorem d_X_call_55 : decode b_X_call 55 = .ok (.invokevirtual 120, 3) := by decide +kernel
theorem d_X_call_58 : decode b_X_call 58 = .ok (.istore 8, 2) := by decide +kernel
theorem d_X_call_60 : decode b_X_call 60 = .ok (.iload 8, 2) := by decide +kernel
theorem d_X_call_62 : decode b_X_call 62 = .ok (.iconst (-1), 1) := by decide +kernel
theorem d_X_call_63 : decode b_X_call 63 = .ok (.if_icmp .ne 42, 3) := by decide +kernel
theorem d_X_call_66 : decode b_X_call 66 = .ok (.aload_n 0, 1) := by decide +kernel
theorem d_X_call_67 : decode b_X_call 67 = .ok (.getfield 35, 3) := by decide +kernel
theorem d_X_call_70 : decode b_X_call 70 = .ok (.iload_n 1, 1) := by decide +kernel
theorem d_X_call_71 : decode b_X_call 71 = .ok (.iload_n 2, 1) := by decide +kernel
theorem d_X_call_72 : decode b_X_call 72 = .ok (.iload_n 3, 1) := by decide +kernel
theorem d_X_call_73 : decode b_X_call 73 = .ok (.lload 6, 2) := by decide +kernel
theorem d_X_call_75 : decode b_X_call 75 = .ok (.aload_n 0, 1) := by decide +kernel
theorem d_X_call_76 : decode b_X_call 76 = .ok (.getfield 28, 3) := by decide +kernel
theorem d_X_call_79 : decode b_X_call 79 = .ok (.iload_n 1, 1) := by decide +kernel
theorem d_X_call_80 : decode b_X_call 80 = .ok (.iload_n 2, 1) := by decide +kernel
theorem d_X_call_81 : decode b_X_call 81 = .ok (.iload_n 3, 1) := by decide +kernel
theorem d_X_call_82 : decode b_X_call 82 = .ok (.lload 6, 2) := by decide +kernel
theorem d_X_call_84 : decode b_X_call 84 = .ok (.invokevirtual 124, 3) := by decide +kernel
theorem d_X_call_87 : decode b_X_call 87 = .ok (.invokevirtual 127, 3) := by decide +kernel
theorem d_X_call_90 : decode b_X_call 90 = .ok (.istore 8, 2) := by decide +kernel
theorem d_X_call_92 : decode b_X_call 92 = .ok (.aload_n 0, 1) := by decide +kernel
theorem d_X_call_93 : decode b_X_call 93 = .ok (.dup, 1) := by decide +kernel
theorem d_X_call_94 : decode b_X_call 94 = .ok (.getfield 39, 3) := by decide +kernel
theorem d_X_call_97 : decode b_X_call 97 = .ok (.iconst 1, 1) := by decide +kernel
theorem d_X_call_98 : decode b_X_call 98 = .ok (.iadd, 1) := by decide +kernel
theorem d_X_call_99 : decode b_X_call 99 = .ok (.putfield 39, 3) := by decide +kernel
theorem d_X_call_102 : decode b_X_call 102 = .ok (.goto 13, 3) := by decide +kernel
theorem d_X_call_105 : decode b_X_call 105 = .ok (.aload_n 0, 1) := by decide +kernel
theorem d_X_call_106 : decode b_X_call 106 = .ok (.dup, 1) := by decide +kernel
theorem d_X_call_107 : decode b_X_call 107 = .ok (.getfield 43, 3) := by decide +kernel
theorem d_X_call_110 : decode b_X_call 110 = .ok (.iconst 1, 1) := by decide +kernel
theorem d_X_call_111 : decode b_X_call 111 = .ok (.iadd, 1) := by decide +kernel
theorem d_X_call_112 : decode b_X_call 112 = .ok (.putfield 43, 3) := by decide +kernel
theorem d_X_call_115 : decode b_X_call 115 = .ok (.aload_n 0, 1) := by decide +kernel
theorem d_X_call_116 : decode b_X_call 116 = .ok (.getfield 35, 3) := by decide +kernel
theorem d_X_call_119 : decode b_X_call 119 = .ok (.getfield 131, 3) := by decide +kernel
theorem d_X_call_122 : decode b_X_call 122 = .ok (.iload 8, 2) := by decide +kernel
theorem d_X_call_124 : decode b_X_call 124 = .ok (.iaload, 1) := by decide +kernel
theorem d_X_call_125 : decode b_X_call 125 = .ok (.istore 9, 2) := by decide +kernel
theorem d_X_call_127 : decode b_X_call 127 = .ok (.iload 9, 2) := by decide +kernel
theorem d_X_call_129 : decode b_X_call 129 = .ok (.bipush (-2), 2) := by decide +kernel
theorem d_X_call_131 : decode b_X_call 131 = .ok (.if_icmp .ne 13, 3) := by decide +kernel
theorem d_X_call_134 : decode b_X_call 134 = .ok (.new 135, 3) := by decide +kernel
theorem d_X_call_137 : decode b_X_call 137 = .ok (.dup, 1) := by decide +kernel
theorem d_X_call_138 : decode b_X_call 138 = .ok (.ldc 137, 2) := by decide +kernel
theorem d_X_call_140 : decode b_X_call 140 = .ok (.invokespecial 139, 3) := by decide +kernel
theorem d_X_call_143 : decode b_X_call 143 = .ok (.athrow, 1) := by decide +kernel
theorem d_X_call_144 : decode b_X_call 144 = .ok (.iload 9, 2) := by decide +kernel
theorem d_X_call_146 : decode b_X_call 146 = .ok (.bipush (-3), 2) := by decide +kernel
theorem d_X_call_148 : decode b_X_call 148 = .ok (.if_icmp .ne 13, 3) := by decide +kernel
theorem d_X_call_151 : decode b_X_call 151 = .ok (.new 140, 3) := by decide +kernel
theorem d_X_call_154 : decode b_X_call 154 = .ok (.dup, 1) := by decide +kernel
theorem d_X_call_155 : decode b_X_call 155 = .ok (.ldc 142, 2) := by decide +kernel
theorem d_X_call_157 : decode b_X_call 157 = .ok (.invokespecial 144, 3) := by decide +kernel
theorem d_X_call_160 : decode b_X_call 160 = .ok (.athrow, 1) := by decide +kernel
theorem d_X_call_161 : decode b_X_call 161 = .ok (.iload 9, 2) := by decide +kernel
theorem d_X_call_163 : decode b_X_call 163 = .ok (.ireturn, 1) := by decide +kernel
abbrev rm_X_call : Room := { frames := 31, cells := 1, slots := 6, locals := 828 }
def jx_X_call_115 (n : Nat) (v8 : Int32) (S : ZC) : Option ((Int32 ⊕ Nat) × ZC) :=
  (if zoob v8 100 then none else
    (if ((kOu S) v8.toNatClampNeg) = (-2 : Int32) then
    some (.inr 3, S)
    else
    (if ((kOu S) v8.toNatClampNeg) = (-3 : Int32) then
      some (.inr 4, S)
      else
      some (.inl ((kOu S) v8.toNatClampNeg), S))))

def fx_X_call (n : Nat) (S : ZC) (a1 : Int32) (a2 : Int32) (a3 : Int32) (a4 : Int64) : Option ((Int32 ⊕ Nat) × ZC) :=
  zbind (fx_T_isTold n S a1) (fun r_1 S_1 =>
  (if r_1 = 0 then
  some (.inr 1, S_1)
  else
  zbind1 (fx_X_isName n a2) (fun r_3 =>
    (if r_3 = 0 then
    some (.inr 1, S_1)
    else
    zbind (fx_X_areValues n S_1 a3 a4) (fun r_5 S_5 =>
      (if r_5 = 0 then
      some (.inr 1, S_5)
      else
      zbind1 (fx_X_lowestBytes n a4 a3) (fun r_7 =>
        zbind (fx_K_find n S_5 a1 a2 a3 r_7) (fun r_8 S_8 =>
        (if r_8 = (-1 : Int32) then
        zbind (fx_H_choose n S_8 a1 a2 a3 r_7) (fun r_11 S_11 =>
          zbind (fx_K_keep n S_11 a1 a2 a3 r_7 r_11) (fun r_12 S_12 =>
          zlet (xWk' S_12 ((xWk S_12) + (1 : Int32))) (fun S_13 =>
          jx_X_call_115 n r_12 S_13)))
        else
        zlet (xFk' S_8 ((xFk S_8) + (1 : Int32))) (fun S_10 =>
          jx_X_call_115 n r_8 S_10))))))))))

set_option maxRecDepth 100000 in
set_option maxHeartbeats 4000000 in
theorem k_X_call (l : Launch) (hl0 : l.stackTraces = false) (z : zE) (A : Nat → Nat) (Rr : va_W) (n : Nat) (S : ZC) (a1 : Int32) (a2 : Int32) (a3 : Int32) (a4 : Int64) (r0 : Int32 ⊕ Nat) (S' : ZC) (h : fx_X_call n S a1 a2 a3 a4 = some (r0, S')) : zX z l y_X_call w_X_call rm_X_call [.ref (A 0), .int a1, .int a2, .int a3, .long a4] (cw z A S ++ Rr) (zEx r0) (cw z A S' ++ Rr) := by
  refine zz_ofX (by decide) (Nat.le_of_ble_eq_true rfl) ?_
  intro p e s m args below meth c A0 ls hM hSt hTh hno hr hlocks hA hP hD hl
  have hM : zM z p s m args c b_X_call 10 R_X := hM
  obtain ⟨hx, hb, hml, hown, hts, hK, hN⟩ := id hM
  have hS : va_S A0 s.heap s.heap [] := va_S.rf
  have hl : lv_has ls 10 [(0, .ref (A 0)), (1, .int a1), (2, .int a2), (3, .int a3), (4, .long a4)] := hl
  have J115 : ∀ (v8 : Int32) (S : ZC), jx_X_call_115 n v8 S = some (r0, S') → ∀ (H : Heap) (locs : List Loc) (ls : Array Slot), va_P z.1 vwCl (cw z A S ++ Rr) H → va_D A0 (cw z A S ++ Rr) → va_S A0 s.heap H locs → lv_has ls 10 [(0, .ref (A 0)), (8, .int v8)] → W p l e rm_X_call s m args below meth c H locs 0 0 (zXM z below s A0 (zEx r0) (cw z A S' ++ Rr)) (F0 m 115 ls []) := by
    intro v8 S h H locs ls hP hD hS hl
    unfold jx_X_call_115 at h
    refine lv_aload_n hx hb d_X_call_115 rfl (lv_at hl 0 rfl) ?_
    refine va_get (D := z.1) (ci := 0) (v := .ref (A 1)) (C := R_X) (T := F_X) (N := 6) hx hb hts i_X hown hK hP 0 rfl rfl 3 (by decide) (hts _ wq_152) (fun _ h9 => h9) rfl d_X_call_116 ?_
    refine va_getN (D := z.1) (ci := 4) (v := .ref (A 6)) (C := R_K) (T := F_K) (N := 6) hx hb hts i_K hown hK hP 1 rfl rfl 4 (by decide) (zz_nf hN 0 rfl) (fun _ h9 => h9) rfl d_X_call_119 ?_
    refine lv_iload hx hb d_X_call_122 (lv_at hl 1 rfl) ?_
    obtain ⟨c_14, h⟩ := zz_oob h
    refine va_iald hx hb hK hP 6 0 rfl rfl c_14 d_X_call_124 ?_
    refine lv_istore (lv' := [(9, .int ((kOu S) v8.toNatClampNeg)), (0, .ref (A 0)), (8, .int v8)]) hx hb d_X_call_125 hl (by decide) rfl (fun ls hl => ?_)
    refine lv_iload hx hb d_X_call_127 (lv_at hl 0 rfl) ?_
    refine lv_bipush (v := -2) hx hb d_X_call_129 (by decide) ?_
    refine lv_icmp_ne (tgt := 144) hx hb d_X_call_131 (by decide) (fun c_15 => ?_) (fun c_15 => ?_)
    · replace h := zz_f c_15 h
      refine lv_iload hx hb d_X_call_144 (lv_at hl 0 rfl) ?_
      refine lv_bipush (v := -3) hx hb d_X_call_146 (by decide) ?_
      refine lv_icmp_ne (tgt := 161) hx hb d_X_call_148 (by decide) (fun c_16 => ?_) (fun c_16 => ?_)
      · replace h := zz_f c_16 h
        refine lv_iload hx hb d_X_call_161 (lv_at hl 0 rfl) ?_
        cases h
        exact zz_xret (fun S => cw z A S ++ Rr) hx hb hr hlocks hP hD hS (Nat.le_of_ble_eq_true rfl) (Nat.le_of_ble_eq_true rfl) d_X_call_163
      · replace h := zz_t c_16 h
        cases h
        exact zz_throw (k := 7) (rest := []) hx hb hl0 hown hts hSt hTh hno (by decide +kernel) wq_529 wq_14 wq_530 ox_144 rfl hP hD hS (hl.1.trans hml.symm) hlocks d_X_call_151 d_X_call_154 d_X_call_155 d_X_call_157 d_X_call_160 (Nat.le_of_ble_eq_true rfl) (Nat.le_of_ble_eq_true rfl) (Nat.le_of_ble_eq_true rfl) (Nat.le_of_ble_eq_true rfl) (Nat.le_of_ble_eq_true rfl) (Nat.le_of_ble_eq_true rfl)
    · replace h := zz_t c_15 h
      cases h
      exact zz_throw (k := 6) (rest := []) hx hb hl0 hown hts hSt hTh hno (by decide +kernel) wq_513 wq_13 wq_514 ox_139 rfl hP hD hS (hl.1.trans hml.symm) hlocks d_X_call_134 d_X_call_137 d_X_call_138 d_X_call_140 d_X_call_143 (Nat.le_of_ble_eq_true rfl) (Nat.le_of_ble_eq_true rfl) (Nat.le_of_ble_eq_true rfl) (Nat.le_of_ble_eq_true rfl) (Nat.le_of_ble_eq_true rfl) (Nat.le_of_ble_eq_true rfl)
  unfold fx_X_call at h
  refine lv_aload_n hx hb d_X_call_0 rfl (lv_at hl 0 rfl) ?_
  refine va_get (D := z.1) (ci := 0) (v := .ref (A 17)) (C := R_X) (T := F_X) (N := 6) hx hb hts i_X hown hK hP 0 rfl rfl 0 (by decide) (hts _ wq_149) (fun _ h9 => h9) rfl d_X_call_1 ?_
  refine lv_iload_n hx hb d_X_call_4 rfl (lv_at hl 1 rfl) ?_
  obtain ⟨r_1, S_1, e_1, h⟩ := zz_bind h
  refine zz_goI (zz_runV (As := [.int a1]) (rest := []) (k_T_isTold l z A Rr n _ _ _ _ e_1) ⟨hx, hb, hml, hown, hts⟩ (cwV 1 hts (zz_gV wq_397 wq_177 wq_178 wq_2 wq_179) rfl rfl rfl (by decide +kernel) ⟨Nat.le_of_ble_eq_true rfl, Nat.le_of_ble_eq_true rfl⟩) hK hN hP hD (va_recv hK hP (ci := 1) (q0 := 17) rfl rfl) rfl hl.1 rfl (Nat.le_of_ble_eq_true rfl) d_X_call_5 ⟨Nat.le_of_ble_eq_true rfl, Nat.le_of_ble_eq_true rfl⟩) hD hS hA (fun H locs hP hD hS => ?_)
  refine lv_if_eq (tgt := 28) hx hb d_X_call_8 (by decide) (fun c_2 => ?_) (fun c_2 => ?_)
  · replace h := zz_t c_2 h
    cases h
    exact zz_throw (k := 5) (rest := []) hx hb hl0 hown hts hSt hTh hno (by decide +kernel) wq_290 wq_10 wq_291 ox_54 rfl hP hD hS (hl.1.trans hml.symm) hlocks d_X_call_28 d_X_call_31 d_X_call_32 d_X_call_34 d_X_call_37 (Nat.le_of_ble_eq_true rfl) (Nat.le_of_ble_eq_true rfl) (Nat.le_of_ble_eq_true rfl) (Nat.le_of_ble_eq_true rfl) (Nat.le_of_ble_eq_true rfl) (Nat.le_of_ble_eq_true rfl)
  · replace h := zz_f c_2 h
    refine lv_iload_n hx hb d_X_call_11 rfl (lv_at hl 2 rfl) ?_
    obtain ⟨r_3, e_3, h⟩ := zz_bind1 h
    refine zz_goI (zz_runS (As := [.int a2]) (rest := []) (k_X_isName l z _ n _ _ e_3) ⟨hx, hb, hml, hown, hts⟩ (va_cwS 1 hts (zz_gS wq_398 wq_399 wq_1 wq_400) rfl rfl rfl (by decide +kernel) ⟨Nat.le_of_ble_eq_true rfl, Nat.le_of_ble_eq_true rfl⟩) hK hN hP hD rfl hl.1 rfl (Nat.le_of_ble_eq_true rfl) d_X_call_12 ⟨Nat.le_of_ble_eq_true rfl, Nat.le_of_ble_eq_true rfl⟩) hD hS hA (fun H locs hP hD hS => ?_)
    refine lv_if_eq (tgt := 28) hx hb d_X_call_15 (by decide) (fun c_4 => ?_) (fun c_4 => ?_)
    · replace h := zz_t c_4 h
      cases h
      exact zz_throw (k := 5) (rest := []) hx hb hl0 hown hts hSt hTh hno (by decide +kernel) wq_290 wq_10 wq_291 ox_54 rfl hP hD hS (hl.1.trans hml.symm) hlocks d_X_call_28 d_X_call_31 d_X_call_32 d_X_call_34 d_X_call_37 (Nat.le_of_ble_eq_true rfl) (Nat.le_of_ble_eq_true rfl) (Nat.le_of_ble_eq_true rfl) (Nat.le_of_ble_eq_true rfl) (Nat.le_of_ble_eq_true rfl) (Nat.le_of_ble_eq_true rfl)
    · replace h := zz_f c_4 h
      refine lv_aload_n hx hb d_X_call_18 rfl (lv_at hl 0 rfl) ?_
      refine lv_iload_n hx hb d_X_call_19 rfl (lv_at hl 3 rfl) ?_
      refine lv_lload hx hb d_X_call_20 (lv_at hl 4 rfl) ?_
      obtain ⟨r_5, S_5, e_5, h⟩ := zz_bind h
      refine zz_goI (zz_runV (As := [.int a3, .long a4]) (rest := []) (k_X_areValues l z A Rr n _ _ _ _ _ e_5) ⟨hx, hb, hml, hown, hts⟩ (cwV 2 hts (zz_gV wq_443 wq_445 wp_8 wq_1 wq_446) rfl rfl rfl (by decide +kernel) ⟨Nat.le_of_ble_eq_true rfl, Nat.le_of_ble_eq_true rfl⟩) hK hN hP hD (va_recv hK hP (ci := 0) (q0 := 0) rfl rfl) rfl hl.1 rfl (Nat.le_of_ble_eq_true rfl) d_X_call_22 ⟨Nat.le_of_ble_eq_true rfl, Nat.le_of_ble_eq_true rfl⟩) hD hS hA (fun H locs hP hD hS => ?_)
      refine lv_if_ne (tgt := 38) hx hb d_X_call_25 (by decide) (fun c_6 => ?_) (fun c_6 => ?_)
      · replace h := zz_f c_6 h
        refine lv_lload hx hb d_X_call_38 (lv_at hl 4 rfl) ?_
        refine lv_iload_n hx hb d_X_call_40 rfl (lv_at hl 3 rfl) ?_
        obtain ⟨r_7, e_7, h⟩ := zz_bind1 h
        refine zz_goL (zz_runS (As := [.long a4, .int a3]) (rest := []) (k_X_lowestBytes l z _ n _ _ _ e_7) ⟨hx, hb, hml, hown, hts⟩ (va_cwS 2 hts (zz_gS wq_409 wq_410 wq_1 wq_411) rfl rfl rfl (by decide +kernel) ⟨Nat.le_of_ble_eq_true rfl, Nat.le_of_ble_eq_true rfl⟩) hK hN hP hD rfl hl.1 rfl (Nat.le_of_ble_eq_true rfl) d_X_call_41 ⟨Nat.le_of_ble_eq_true rfl, Nat.le_of_ble_eq_true rfl⟩) hD hS hA (fun H locs hP hD hS => ?_)
        refine lv_lstore (lv' := [(6, .long r_7), (0, .ref (A 0)), (1, .int a1), (2, .int a2), (3, .int a3), (4, .long a4)]) hx hb d_X_call_44 hl (by decide) rfl (fun ls hl => ?_)
        refine lv_aload_n hx hb d_X_call_46 rfl (lv_at hl 1 rfl) ?_
        refine va_get (D := z.1) (ci := 0) (v := .ref (A 1)) (C := R_X) (T := F_X) (N := 6) hx hb hts i_X hown hK hP 0 rfl rfl 3 (by decide) (hts _ wq_152) (fun _ h9 => h9) rfl d_X_call_47 ?_
        refine lv_iload_n hx hb d_X_call_50 rfl (lv_at hl 2 rfl) ?_
        refine lv_iload_n hx hb d_X_call_51 rfl (lv_at hl 3 rfl) ?_
        refine lv_iload_n hx hb d_X_call_52 rfl (lv_at hl 4 rfl) ?_
        refine lv_lload hx hb d_X_call_53 (lv_at hl 0 rfl) ?_
        obtain ⟨r_8, S_8, e_8, h⟩ := zz_bind h
        refine zz_goI (zz_runV (As := [.int a1, .int a2, .int a3, .long r_7]) (rest := []) (k_K_find l z A Rr n _ _ _ _ _ _ _ e_8) ⟨hx, hb, hml, hown, hts⟩ (cwV 4 hts (zz_gV wq_453 wq_454 wq_455 wq_5 wq_456) rfl rfl rfl (by decide +kernel) ⟨Nat.le_of_ble_eq_true rfl, Nat.le_of_ble_eq_true rfl⟩) hK hN hP hD (va_recv hK hP (ci := 4) (q0 := 1) rfl rfl) rfl hl.1 rfl (Nat.le_of_ble_eq_true rfl) d_X_call_55 ⟨Nat.le_of_ble_eq_true rfl, Nat.le_of_ble_eq_true rfl⟩) hD hS hA (fun H locs hP hD hS => ?_)
        refine lv_istore (lv' := [(8, .int r_8), (6, .long r_7), (0, .ref (A 0)), (1, .int a1), (2, .int a2), (3, .int a3), (4, .long a4)]) hx hb d_X_call_58 hl (by decide) rfl (fun ls hl => ?_)
        refine lv_iload hx hb d_X_call_60 (lv_at hl 0 rfl) ?_
        refine lv_iconst (v := -1) hx hb d_X_call_62 (by decide) ?_
        refine lv_icmp_ne (tgt := 105) hx hb d_X_call_63 (by decide) (fun c_9 => ?_) (fun c_9 => ?_)
        · replace h := zz_f c_9 h
          refine lv_aload_n hx hb d_X_call_105 rfl (lv_at hl 2 rfl) ?_
          refine lv_dup hx hb d_X_call_106 rfl ?_
          refine va_get (D := z.1) (ci := 0) (v := .int (xFk S_8)) (C := R_X) (T := F_X) (N := 6) hx hb hts i_X hown hK hP 0 rfl rfl 5 (by decide) (hts _ wq_154) (fun _ h9 => h9) rfl d_X_call_107 ?_
          refine lv_iconst (v := 1) hx hb d_X_call_110 (by decide) ?_
          refine lv_iadd hx hb d_X_call_111 ?_
          obtain ⟨S_10, e_10, h⟩ := zz_let h
          refine va_put (D := z.1) (ci := 0) (v := .int ((xFk S_8) + (1 : Int32))) (ty := .int) (C := R_X) (T := F_X) (N := 6) hx hb hts i_X ty_X ty_X_ok n_X hown hK hP hD hS 0 rfl rfl 5 (by decide) (hts _ wq_154) (fun _ h9 => h9) rfl (by decide +kernel) rfl rfl (Nat.le_of_ble_eq_true rfl) d_X_call_112 (fun H locs hP hD hS => ?_)
          have hP : va_P z.1 vwCl (cw z A S_10 ++ Rr) H := by rw [e_10]; exact hP
          have hD : va_D A0 (cw z A S_10 ++ Rr) := by rw [e_10]; exact hD
          exact J115 _ _ h _ _ _ hP hD hS (lv_sub hl [2, 0] rfl)
        · replace h := zz_t c_9 h
          refine lv_aload_n hx hb d_X_call_66 rfl (lv_at hl 2 rfl) ?_
          refine va_get (D := z.1) (ci := 0) (v := .ref (A 1)) (C := R_X) (T := F_X) (N := 6) hx hb hts i_X hown hK hP 0 rfl rfl 3 (by decide) (hts _ wq_152) (fun _ h9 => h9) rfl d_X_call_67 ?_
          refine lv_iload_n hx hb d_X_call_70 rfl (lv_at hl 3 rfl) ?_
          refine lv_iload_n hx hb d_X_call_71 rfl (lv_at hl 4 rfl) ?_
          refine lv_iload_n hx hb d_X_call_72 rfl (lv_at hl 5 rfl) ?_
          refine lv_lload hx hb d_X_call_73 (lv_at hl 1 rfl) ?_
          refine lv_aload_n hx hb d_X_call_75 rfl (lv_at hl 2 rfl) ?_
          refine va_get (D := z.1) (ci := 0) (v := .ref (A 7)) (C := R_X) (T := F_X) (N := 6) hx hb hts i_X hown hK hP 0 rfl rfl 2 (by decide) (hts _ wq_151) (fun _ h9 => h9) rfl d_X_call_76 ?_
          refine lv_iload_n hx hb d_X_call_79 rfl (lv_at hl 3 rfl) ?_
          refine lv_iload_n hx hb d_X_call_80 rfl (lv_at hl 4 rfl) ?_
          refine lv_iload_n hx hb d_X_call_81 rfl (lv_at hl 5 rfl) ?_
          refine lv_lload hx hb d_X_call_82 (lv_at hl 1 rfl) ?_
          obtain ⟨r_11, S_11, e_11, h⟩ := zz_bind h
          refine zz_goI (zz_runV (As := [.int a1, .int a2, .int a3, .long r_7]) (rest := [.long r_7, .int a3, .int a2, .int a1, .ref (A 1)]) (k_H_choose l z A Rr n _ _ _ _ _ _ _ e_11) ⟨hx, hb, hml, hown, hts⟩ (cwV 4 hts (zz_gV wq_457 wq_458 wq_459 wq_4 wq_460) rfl rfl rfl (by decide +kernel) ⟨Nat.le_of_ble_eq_true rfl, Nat.le_of_ble_eq_true rfl⟩) hK hN hP hD (va_recv hK hP (ci := 3) (q0 := 7) rfl rfl) rfl hl.1 rfl (Nat.le_of_ble_eq_true rfl) d_X_call_84 ⟨Nat.le_of_ble_eq_true rfl, Nat.le_of_ble_eq_true rfl⟩) hD hS hA (fun H locs hP hD hS => ?_)
          obtain ⟨r_12, S_12, e_12, h⟩ := zz_bind h
          refine zz_goI (zz_runV (As := [.int a1, .int a2, .int a3, .long r_7, .int r_11]) (rest := []) (k_K_keep l z A Rr n _ _ _ _ _ _ _ _ e_12) ⟨hx, hb, hml, hown, hts⟩ (cwV 5 hts (zz_gV wq_505 wq_506 wq_507 wq_5 wq_508) rfl rfl rfl (by decide +kernel) ⟨Nat.le_of_ble_eq_true rfl, Nat.le_of_ble_eq_true rfl⟩) hK hN hP hD (va_recv hK hP (ci := 4) (q0 := 1) rfl rfl) rfl hl.1 rfl (Nat.le_of_ble_eq_true rfl) d_X_call_87 ⟨Nat.le_of_ble_eq_true rfl, Nat.le_of_ble_eq_true rfl⟩) hD hS hA (fun H locs hP hD hS => ?_)
          refine lv_istore (lv' := [(8, .int r_12), (6, .long r_7), (0, .ref (A 0)), (1, .int a1), (2, .int a2), (3, .int a3), (4, .long a4)]) hx hb d_X_call_90 hl (by decide) rfl (fun ls hl => ?_)
          refine lv_aload_n hx hb d_X_call_92 rfl (lv_at hl 2 rfl) ?_
          refine lv_dup hx hb d_X_call_93 rfl ?_
          refine va_get (D := z.1) (ci := 0) (v := .int (xWk S_12)) (C := R_X) (T := F_X) (N := 6) hx hb hts i_X hown hK hP 0 rfl rfl 4 (by decide) (hts _ wq_153) (fun _ h9 => h9) rfl d_X_call_94 ?_
          refine lv_iconst (v := 1) hx hb d_X_call_97 (by decide) ?_
          refine lv_iadd hx hb d_X_call_98 ?_
          obtain ⟨S_13, e_13, h⟩ := zz_let h
          refine va_put (D := z.1) (ci := 0) (v := .int ((xWk S_12) + (1 : Int32))) (ty := .int) (C := R_X) (T := F_X) (N := 6) hx hb hts i_X ty_X ty_X_ok n_X hown hK hP hD hS 0 rfl rfl 4 (by decide) (hts _ wq_153) (fun _ h9 => h9) rfl (by decide +kernel) rfl rfl (Nat.le_of_ble_eq_true rfl) d_X_call_99 (fun H locs hP hD hS => ?_)
          have hP : va_P z.1 vwCl (cw z A S_13 ++ Rr) H := by rw [e_13]; exact hP
          have hD : va_D A0 (cw z A S_13 ++ Rr) := by rw [e_13]; exact hD
          refine lv_goto (tgt := 115) hx hb d_X_call_102 (by decide) ?_
          exact J115 _ _ h _ _ _ hP hD hS (lv_sub hl [2, 0] rfl)
      · replace h := zz_t c_6 h
        cases h
        exact zz_throw (k := 5) (rest := []) hx hb hl0 hown hts hSt hTh hno (by decide +kernel) wq_290 wq_10 wq_291 ox_54 rfl hP hD hS (hl.1.trans hml.symm) hlocks d_X_call_28 d_X_call_31 d_X_call_32 d_X_call_34 d_X_call_37 (Nat.le_of_ble_eq_true rfl) (Nat.le_of_ble_eq_true rfl) (Nat.le_of_ble_eq_true rfl) (Nat.le_of_ble_eq_true rfl) (Nat.le_of_ble_eq_true rfl) (Nat.le_of_ble_eq_true rfl)

