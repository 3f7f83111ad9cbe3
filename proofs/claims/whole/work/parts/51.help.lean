abbrev b_L_type : ByteArray := method_3_code
abbrev y_L_type : MethodName := ⟨"MemberChooserLaw", "type", "(LMemberChooser;I[J)I"⟩
abbrev w_L_type : List Cond := Cond.codeWith y_L_type b_L_type 4 (some .int) [(0, 9, 12, 13), (0, 9, 15, 15)] :: zTb
theorem d_L_type_0 : decode b_L_type 0 = .ok (.aload_n 2, 1) := by decide +kernel
theorem d_L_type_1 : decode b_L_type 1 = .ok (.iconst 0, 1) := by decide +kernel
theorem d_L_type_2 : decode b_L_type 2 = .ok (.aload_n 0, 1) := by decide +kernel
theorem d_L_type_3 : decode b_L_type 3 = .ok (.iload_n 1, 1) := by decide +kernel
theorem d_L_type_4 : decode b_L_type 4 = .ok (.invokevirtual 7, 3) := by decide +kernel
theorem d_L_type_7 : decode b_L_type 7 = .ok (.i2l, 1) := by decide +kernel
theorem d_L_type_8 : decode b_L_type 8 = .ok (.lastore, 1) := by decide +kernel
theorem d_L_type_9 : decode b_L_type 9 = .ok (.goto 9, 3) := by decide +kernel
theorem d_L_type_12 : decode b_L_type 12 = .ok (.astore_n 3, 1) := by decide +kernel
theorem d_L_type_13 : decode b_L_type 13 = .ok (.iconst 1, 1) := by decide +kernel
theorem d_L_type_14 : decode b_L_type 14 = .ok (.ireturn, 1) := by decide +kernel
theorem d_L_type_15 : decode b_L_type 15 = .ok (.astore_n 3, 1) := by decide +kernel
theorem d_L_type_16 : decode b_L_type 16 = .ok (.iconst 2, 1) := by decide +kernel
theorem d_L_type_17 : decode b_L_type 17 = .ok (.ireturn, 1) := by decide +kernel
theorem d_L_type_18 : decode b_L_type 18 = .ok (.iconst 0, 1) := by decide +kernel
theorem d_L_type_19 : decode b_L_type 19 = .ok (.ireturn, 1) := by decide +kernel
def fx_L_type (n : Nat) (S : ZC) (f : Nat → Int64) (a1 : Int32) : Option (Int32 × ZC × (Nat → Int64)) := zbind (fx_X_type n S a1) (fun r S1 => zcase r (fun v => some ((0 : Int32), S1, vp_updL f 0 v.toInt64)) (fun E => if E = 1 then some ((1 : Int32), S1, f) else if E = 2 then some ((2 : Int32), S1, f) else none))
abbrev rm_L_type : Room := { frames := 7, cells := 1, slots := 6, locals := 111 }
set_option maxRecDepth 100000 in
set_option maxHeartbeats 4000000 in
theorem k_L_type (l : Launch) (hl0 : l.stackTraces = false) (z : zE) (A : Nat → Nat) (o : Nat) (Rr : va_W) (n : Nat) (S : ZC) (f : Nat → Int64) (a1 : Int32) (k : Int32) (S' : ZC) (f' : Nat → Int64) (h : fx_L_type n S f a1 = some (k, S', f')) : zK z l y_L_type w_L_type rm_L_type [.ref (A 0), .int a1, .ref o] (cw z A S ++ ([(o, .inl (zL z, 1, .inr (.inl f)))] ++ Rr)) (some (.int k)) (cw z A S' ++ ([(o, .inl (zL z, 1, .inr (.inl f')))] ++ Rr)) 1 6 := by
  refine zz_ofW (by decide) (Nat.le_of_ble_eq_true rfl) ?_
  intro p e s m args below meth c A0 ls hM hSt hTh hT hr hlocks hA hP hD hl
  have hM : zM z p s m args c b_L_type 4 R_L := hM
  obtain ⟨hx, hb, hml, hown, hts, hK, hN⟩ := id hM
  have hS : va_S A0 s.heap s.heap [] := va_S.rf
  have hl : lv_has ls 4 [(0, .ref (A 0)), (1, .int a1), (2, .ref o)] := hl
  obtain ⟨x0, t0, et0, ex0, hT0⟩ := zz_tab hT
  obtain ⟨x1, t1, et1, ex1, hT1⟩ := zz_tab hT0
  have et2 := zz_tab0 hT1
  have et : c.exceptionTable.toList = [x0, x1] := by rw [et0, et1, et2]
  obtain ⟨xa0, xb0, xc0, xd0⟩ : x0.startPc = 0 ∧ x0.endPc = 9 ∧ x0.handlerPc = 12 ∧ x0.catchType = 13 := by simpa using ex0
  obtain ⟨xa1, xb1, xc1, xd1⟩ : x1.startPc = 0 ∧ x1.endPc = 9 ∧ x1.handlerPc = 15 ∧ x1.catchType = 15 := by simpa using ex1
  refine lv_aload_n hx hb d_L_type_0 rfl (lv_at hl 2 rfl) ?_
  refine lv_iconst (v := 0) hx hb d_L_type_1 (by decide) ?_
  refine lv_aload_n hx hb d_L_type_2 rfl (lv_at hl 0 rfl) ?_
  refine lv_iload_n hx hb d_L_type_3 rfl (lv_at hl 1 rfl) ?_
  unfold fx_L_type at h
  obtain ⟨r, S1, e1, h⟩ := zz_bind h
  have kk := k_X_type l hl0 z A ([(o, .inl (zL z, 1, .inr (.inl f)))] ++ Rr) n _ _ _ _ e1
  cases r with
  | inl v =>
    have h : some ((0 : Int32), S1, vp_updL f 0 v.toInt64) = some (k, S', f') := h
    cases h
    refine zz_goN (zz_runVK (As := [.int a1]) (rest := [.int 0, .ref o]) (zX.met (x := .int v) kk) ⟨hx, hb, hml, hown, hts⟩ (cwV 1 hts (zz_gV wq_282 wq_283 wq_284 wq_1 wq_285) rfl rfl rfl (by decide +kernel) ⟨Nat.le_of_ble_eq_true rfl, Nat.le_of_ble_eq_true rfl⟩) (zz_preX hK hN hSt hTh hP hD hS hA rfl) (va_recv hK hP (ci := 0) (q0 := 0) rfl rfl) rfl hl.1 rfl (Nat.le_of_ble_eq_true rfl) d_L_type_4 ⟨Nat.le_of_ble_eq_true rfl, Nat.le_of_ble_eq_true rfl⟩) hD hS hA (fun H locs hP hD hS => ?_)
    refine lv_i2l (v := v.toInt64) hx hb d_L_type_7 rfl ?_
    have hP := zz_s3P hP
    have hD := zz_s3D hD
    refine va_last hx hb hK hP hD hS 0 2 rfl rfl (show ¬ ((0 : Int32) < 0 ∨ 1 ≤ (0 : Int32).toNatClampNeg) by decide) d_L_type_8 (fun H locs hP hD hS => ?_)
    have hP : va_P z.1 vwCl ([(o, .inl (zL z, 1, .inr (.inl (vp_updL f 0 v.toInt64))))] ++ (cw z A S' ++ Rr)) H := hP
    have hD : va_D A0 ([(o, .inl (zL z, 1, .inr (.inl (vp_updL f 0 v.toInt64))))] ++ (cw z A S' ++ Rr)) := hD
    have hP := zz_s3P hP
    have hD := zz_s3D hD
    refine lv_goto (tgt := 18) hx hb d_L_type_9 (by decide) ?_
    refine lv_iconst (v := 0) hx hb d_L_type_18 (by decide) ?_
    exact zz_iretK hx hb hr hlocks hP hD hS (Nat.le_of_ble_eq_true rfl) (Nat.le_of_ble_eq_true rfl) d_L_type_19
  | inr E =>
    have h : (if E = 1 then some ((1 : Int32), S1, f) else if E = 2 then some ((2 : Int32), S1, f) else none) = some (k, S', f') := h
    by_cases c0 : E = 1
    · replace h := zz_t c0 h
      subst c0
      cases h
      refine zz_callT (E := eIA) (hpc := 12) (As := [.int a1]) (rest := [.int 0, .ref o]) kk ⟨hx, hb, hml, hown, hts⟩ (cwV 1 hts (zz_gV wq_282 wq_283 wq_284 wq_1 wq_285) rfl rfl rfl (by decide +kernel) ⟨Nat.le_of_ble_eq_true rfl, Nat.le_of_ble_eq_true rfl⟩) (zz_preX hK hN hSt hTh hP hD hS hA rfl) (va_recv hK hP (ci := 0) (q0 := 0) rfl rfl) rfl hl.1 rfl (Nat.le_of_ble_eq_true rfl) d_L_type_4 ⟨Nat.le_of_ble_eq_true rfl, Nat.le_of_ble_eq_true rfl⟩ hD hS hA [] x0 [x1] (by rw [et]; rfl) xc0 (fun r hr9 => absurd hr9 List.not_mem_nil) (by unfold covers; rw [xa0, xb0]; decide) (by rw [xd0]; decide) (by rw [xd0]; exact hts _ wq_280) (hSt.2.2 0 _ rfl) (fun H locs q hP hD hS => ?_)
      refine lv_astore_n (lv' := [(3, .ref q), (0, .ref (A 0)), (1, .int a1), (2, .ref o)]) hx hb d_L_type_12 rfl hl (by decide) rfl (fun ls hl => ?_)
      refine lv_iconst (v := 1) hx hb d_L_type_13 (by decide) ?_
      exact zz_iretK hx hb hr hlocks hP hD hS (Nat.le_of_ble_eq_true rfl) (Nat.le_of_ble_eq_true rfl) d_L_type_14
    replace h := zz_f c0 h
    by_cases c1 : E = 2
    · replace h := zz_t c1 h
      subst c1
      cases h
      refine zz_callT (E := eIS) (hpc := 15) (As := [.int a1]) (rest := [.int 0, .ref o]) kk ⟨hx, hb, hml, hown, hts⟩ (cwV 1 hts (zz_gV wq_282 wq_283 wq_284 wq_1 wq_285) rfl rfl rfl (by decide +kernel) ⟨Nat.le_of_ble_eq_true rfl, Nat.le_of_ble_eq_true rfl⟩) (zz_preX hK hN hSt hTh hP hD hS hA rfl) (va_recv hK hP (ci := 0) (q0 := 0) rfl rfl) rfl hl.1 rfl (Nat.le_of_ble_eq_true rfl) d_L_type_4 ⟨Nat.le_of_ble_eq_true rfl, Nat.le_of_ble_eq_true rfl⟩ hD hS hA [x0] x1 [] (by rw [et]; rfl) xc1 (fun r hr9 => by rw [List.mem_singleton.mp hr9]; exact ⟨by rw [xd0]; decide, eIA, by rw [xd0]; exact hts _ wq_280, hSt.2.1 0 _ rfl⟩) (by unfold covers; rw [xa1, xb1]; decide) (by rw [xd1]; decide) (by rw [xd1]; exact hts _ wq_281) (hSt.2.2 1 _ rfl) (fun H locs q hP hD hS => ?_)
      refine lv_astore_n (lv' := [(3, .ref q), (0, .ref (A 0)), (1, .int a1), (2, .ref o)]) hx hb d_L_type_15 rfl hl (by decide) rfl (fun ls hl => ?_)
      refine lv_iconst (v := 2) hx hb d_L_type_16 (by decide) ?_
      exact zz_iretK hx hb hr hlocks hP hD hS (Nat.le_of_ble_eq_true rfl) (Nat.le_of_ble_eq_true rfl) d_L_type_17
    replace h := zz_f c1 h
    cases h

abbrev b_L_face : ByteArray := method_4_code
abbrev y_L_face : MethodName := ⟨"MemberChooserLaw", "face", "(LMemberChooser;[J)I"⟩
abbrev w_L_face : List Cond := Cond.codeWith y_L_face b_L_face 3 (some .int) [(0, 8, 11, 15)] :: zTb
theorem d_L_face_0 : decode b_L_face 0 = .ok (.aload_n 1, 1) := by decide +kernel
theorem d_L_face_1 : decode b_L_face 1 = .ok (.iconst 0, 1) := by decide +kernel
theorem d_L_face_2 : decode b_L_face 2 = .ok (.aload_n 0, 1) := by decide +kernel
theorem d_L_face_3 : decode b_L_face 3 = .ok (.invokevirtual 17, 3) := by decide +kernel
theorem d_L_face_6 : decode b_L_face 6 = .ok (.i2l, 1) := by decide +kernel
theorem d_L_face_7 : decode b_L_face 7 = .ok (.lastore, 1) := by decide +kernel
theorem d_L_face_8 : decode b_L_face 8 = .ok (.goto 6, 3) := by decide +kernel
theorem d_L_face_11 : decode b_L_face 11 = .ok (.astore_n 2, 1) := by decide +kernel
theorem d_L_face_12 : decode b_L_face 12 = .ok (.iconst 1, 1) := by decide +kernel
theorem d_L_face_13 : decode b_L_face 13 = .ok (.ireturn, 1) := by decide +kernel
theorem d_L_face_14 : decode b_L_face 14 = .ok (.iconst 0, 1) := by decide +kernel
theorem d_L_face_15 : decode b_L_face 15 = .ok (.ireturn, 1) := by decide +kernel
def fx_L_face (n : Nat) (S : ZC) (f : Nat → Int64)  : Option (Int32 × ZC × (Nat → Int64)) := zbind (fx_X_face n S ) (fun r S1 => zcase r (fun v => some ((0 : Int32), S1, vp_updL f 0 v.toInt64)) (fun E => if E = 2 then some ((1 : Int32), S1, f) else none))
abbrev rm_L_face : Room := { frames := 7, cells := 1, slots := 6, locals := 110 }
set_option maxRecDepth 100000 in
set_option maxHeartbeats 4000000 in
theorem k_L_face (l : Launch) (hl0 : l.stackTraces = false) (z : zE) (A : Nat → Nat) (o : Nat) (Rr : va_W) (n : Nat) (S : ZC) (f : Nat → Int64)  (k : Int32) (S' : ZC) (f' : Nat → Int64) (h : fx_L_face n S f  = some (k, S', f')) : zK z l y_L_face w_L_face rm_L_face [.ref (A 0), .ref o] (cw z A S ++ ([(o, .inl (zL z, 1, .inr (.inl f)))] ++ Rr)) (some (.int k)) (cw z A S' ++ ([(o, .inl (zL z, 1, .inr (.inl f')))] ++ Rr)) 1 6 := by
  refine zz_ofW (by decide) (Nat.le_of_ble_eq_true rfl) ?_
  intro p e s m args below meth c A0 ls hM hSt hTh hT hr hlocks hA hP hD hl
  have hM : zM z p s m args c b_L_face 3 R_L := hM
  obtain ⟨hx, hb, hml, hown, hts, hK, hN⟩ := id hM
  have hS : va_S A0 s.heap s.heap [] := va_S.rf
  have hl : lv_has ls 3 [(0, .ref (A 0)), (1, .ref o)] := hl
  obtain ⟨x0, t0, et0, ex0, hT0⟩ := zz_tab hT
  have et1 := zz_tab0 hT0
  have et : c.exceptionTable.toList = [x0] := by rw [et0, et1]
  obtain ⟨xa0, xb0, xc0, xd0⟩ : x0.startPc = 0 ∧ x0.endPc = 8 ∧ x0.handlerPc = 11 ∧ x0.catchType = 15 := by simpa using ex0
  refine lv_aload_n hx hb d_L_face_0 rfl (lv_at hl 1 rfl) ?_
  refine lv_iconst (v := 0) hx hb d_L_face_1 (by decide) ?_
  refine lv_aload_n hx hb d_L_face_2 rfl (lv_at hl 0 rfl) ?_
  unfold fx_L_face at h
  obtain ⟨r, S1, e1, h⟩ := zz_bind h
  have kk := k_X_face l hl0 z A ([(o, .inl (zL z, 1, .inr (.inl f)))] ++ Rr) n _ _ _ e1
  cases r with
  | inl v =>
    have h : some ((0 : Int32), S1, vp_updL f 0 v.toInt64) = some (k, S', f') := h
    cases h
    refine zz_goN (zz_runVK (As := []) (rest := [.int 0, .ref o]) (zX.met (x := .int v) kk) ⟨hx, hb, hml, hown, hts⟩ (cwV 0 hts (zz_gV wq_386 wq_387 wq_388 wq_1 wq_389) rfl rfl rfl (by decide +kernel) ⟨Nat.le_of_ble_eq_true rfl, Nat.le_of_ble_eq_true rfl⟩) (zz_preX hK hN hSt hTh hP hD hS hA rfl) (va_recv hK hP (ci := 0) (q0 := 0) rfl rfl) rfl hl.1 rfl (Nat.le_of_ble_eq_true rfl) d_L_face_3 ⟨Nat.le_of_ble_eq_true rfl, Nat.le_of_ble_eq_true rfl⟩) hD hS hA (fun H locs hP hD hS => ?_)
    refine lv_i2l (v := v.toInt64) hx hb d_L_face_6 rfl ?_
    have hP := zz_s3P hP
    have hD := zz_s3D hD
    refine va_last hx hb hK hP hD hS 0 2 rfl rfl (show ¬ ((0 : Int32) < 0 ∨ 1 ≤ (0 : Int32).toNatClampNeg) by decide) d_L_face_7 (fun H locs hP hD hS => ?_)
    have hP : va_P z.1 vwCl ([(o, .inl (zL z, 1, .inr (.inl (vp_updL f 0 v.toInt64))))] ++ (cw z A S' ++ Rr)) H := hP
    have hD : va_D A0 ([(o, .inl (zL z, 1, .inr (.inl (vp_updL f 0 v.toInt64))))] ++ (cw z A S' ++ Rr)) := hD
    have hP := zz_s3P hP
    have hD := zz_s3D hD
    refine lv_goto (tgt := 14) hx hb d_L_face_8 (by decide) ?_
    refine lv_iconst (v := 0) hx hb d_L_face_14 (by decide) ?_
    exact zz_iretK hx hb hr hlocks hP hD hS (Nat.le_of_ble_eq_true rfl) (Nat.le_of_ble_eq_true rfl) d_L_face_15
  | inr E =>
    have h : (if E = 2 then some ((1 : Int32), S1, f) else none) = some (k, S', f') := h
    by_cases c0 : E = 2
    · replace h := zz_t c0 h
      subst c0
      cases h
      refine zz_callT (E := eIS) (hpc := 11) (As := []) (rest := [.int 0, .ref o]) kk ⟨hx, hb, hml, hown, hts⟩ (cwV 0 hts (zz_gV wq_386 wq_387 wq_388 wq_1 wq_389) rfl rfl rfl (by decide +kernel) ⟨Nat.le_of_ble_eq_true rfl, Nat.le_of_ble_eq_true rfl⟩) (zz_preX hK hN hSt hTh hP hD hS hA rfl) (va_recv hK hP (ci := 0) (q0 := 0) rfl rfl) rfl hl.1 rfl (Nat.le_of_ble_eq_true rfl) d_L_face_3 ⟨Nat.le_of_ble_eq_true rfl, Nat.le_of_ble_eq_true rfl⟩ hD hS hA [] x0 [] (by rw [et]; rfl) xc0 (fun r hr9 => absurd hr9 List.not_mem_nil) (by unfold covers; rw [xa0, xb0]; decide) (by rw [xd0]; decide) (by rw [xd0]; exact hts _ wq_281) (hSt.2.2 1 _ rfl) (fun H locs q hP hD hS => ?_)
      refine lv_astore_n (lv' := [(2, .ref q), (0, .ref (A 0)), (1, .ref o)]) hx hb d_L_face_11 rfl hl (by decide) rfl (fun ls hl => ?_)
      refine lv_iconst (v := 1) hx hb d_L_face_12 (by decide) ?_
      exact zz_iretK hx hb hr hlocks hP hD hS (Nat.le_of_ble_eq_true rfl) (Nat.le_of_ble_eq_true rfl) d_L_face_13
    replace h := zz_f c0 h
    cases h

abbrev b_L_member : ByteArray := method_5_code
abbrev y_L_member : MethodName := ⟨"MemberChooserLaw", "member", "(LMemberChooser;IIIJZ[J)I"⟩
abbrev w_L_member : List Cond := Cond.codeWith y_L_member b_L_member 9 (some .int) [(0, 16, 19, 13), (0, 16, 23, 15)] :: zTb
theorem d_L_member_0 : decode b_L_member 0 = .ok (.aload 7, 2) := by decide +kernel
theorem d_L_member_2 : decode b_L_member 2 = .ok (.iconst 0, 1) := by decide +kernel
theorem d_L_member_3 : decode b_L_member 3 = .ok (.aload_n 0, 1) := by decide +kernel
theorem d_L_member_4 : decode b_L_member 4 = .ok (.iload_n 1, 1) := by decide +kernel
theorem d_L_member_5 : decode b_L_member 5 = .ok (.iload_n 2, 1) := by decide +kernel
theorem d_L_member_6 : decode b_L_member 6 = .ok (.iload_n 3, 1) := by decide +kernel
theorem d_L_member_7 : decode b_L_member 7 = .ok (.lload 4, 2) := by decide +kernel
theorem d_L_member_9 : decode b_L_member 9 = .ok (.iload 6, 2) := by decide +kernel
theorem d_L_member_11 : decode b_L_member 11 = .ok (.invokevirtual 21, 3) := by decide +kernel
theorem d_L_member_14 : decode b_L_member 14 = .ok (.i2l, 1) := by decide +kernel
theorem d_L_member_15 : decode b_L_member 15 = .ok (.lastore, 1) := by decide +kernel
theorem d_L_member_16 : decode b_L_member 16 = .ok (.goto 11, 3) := by decide +kernel
theorem d_L_member_19 : decode b_L_member 19 = .ok (.astore 8, 2) := by decide +kernel
theorem d_L_member_21 : decode b_L_member 21 = .ok (.iconst 1, 1) := by decide +kernel
theorem d_L_member_22 : decode b_L_member 22 = .ok (.ireturn, 1) := by decide +kernel
theorem d_L_member_23 : decode b_L_member 23 = .ok (.astore 8, 2) := by decide +kernel
theorem d_L_member_25 : decode b_L_member 25 = .ok (.iconst 2, 1) := by decide +kernel
theorem d_L_member_26 : decode b_L_member 26 = .ok (.ireturn, 1) := by decide +kernel
theorem d_L_member_27 : decode b_L_member 27 = .ok (.iconst 0, 1) := by decide +kernel
theorem d_L_member_28 : decode b_L_member 28 = .ok (.ireturn, 1) := by decide +kernel
def fx_L_member (n : Nat) (S : ZC) (f : Nat → Int64) (a1 : Int32) (a2 : Int32) (a3 : Int32) (a4 : Int64) (a6 : Int32) : Option (Int32 × ZC × (Nat → Int64)) := zbind (fx_X_member n S a1 a2 a3 a4 a6) (fun r S1 => zcase r (fun v => some ((0 : Int32), S1, vp_updL f 0 v.toInt64)) (fun E => if E = 1 then some ((1 : Int32), S1, f) else if E = 2 then some ((2 : Int32), S1, f) else none))
abbrev rm_L_member : Room := { frames := 7, cells := 1, slots := 6, locals := 118 }
set_option maxRecDepth 100000 in
set_option maxHeartbeats 4000000 in
theorem k_L_member (l : Launch) (hl0 : l.stackTraces = false) (z : zE) (A : Nat → Nat) (o : Nat) (Rr : va_W) (n : Nat) (S : ZC) (f : Nat → Int64) (a1 : Int32) (a2 : Int32) (a3 : Int32) (a4 : Int64) (a6 : Int32) (k : Int32) (S' : ZC) (f' : Nat → Int64) (h : fx_L_member n S f a1 a2 a3 a4 a6 = some (k, S', f')) : zK z l y_L_member w_L_member rm_L_member [.ref (A 0), .int a1, .int a2, .int a3, .long a4, .int a6, .ref o] (cw z A S ++ ([(o, .inl (zL z, 1, .inr (.inl f)))] ++ Rr)) (some (.int k)) (cw z A S' ++ ([(o, .inl (zL z, 1, .inr (.inl f')))] ++ Rr)) 1 6 := by
  refine zz_ofW (by decide) (Nat.le_of_ble_eq_true rfl) ?_
  intro p e s m args below meth c A0 ls hM hSt hTh hT hr hlocks hA hP hD hl
  have hM : zM z p s m args c b_L_member 9 R_L := hM
  obtain ⟨hx, hb, hml, hown, hts, hK, hN⟩ := id hM
  have hS : va_S A0 s.heap s.heap [] := va_S.rf
  have hl : lv_has ls 9 [(0, .ref (A 0)), (1, .int a1), (2, .int a2), (3, .int a3), (4, .long a4), (6, .int a6), (7, .ref o)] := hl
  obtain ⟨x0, t0, et0, ex0, hT0⟩ := zz_tab hT
  obtain ⟨x1, t1, et1, ex1, hT1⟩ := zz_tab hT0
  have et2 := zz_tab0 hT1
  have et : c.exceptionTable.toList = [x0, x1] := by rw [et0, et1, et2]
  obtain ⟨xa0, xb0, xc0, xd0⟩ : x0.startPc = 0 ∧ x0.endPc = 16 ∧ x0.handlerPc = 19 ∧ x0.catchType = 13 := by simpa using ex0
  obtain ⟨xa1, xb1, xc1, xd1⟩ : x1.startPc = 0 ∧ x1.endPc = 16 ∧ x1.handlerPc = 23 ∧ x1.catchType = 15 := by simpa using ex1
  refine lv_aload hx hb d_L_member_0 (lv_at hl 6 rfl) ?_
  refine lv_iconst (v := 0) hx hb d_L_member_2 (by decide) ?_
  refine lv_aload_n hx hb d_L_member_3 rfl (lv_at hl 0 rfl) ?_
  refine lv_iload_n hx hb d_L_member_4 rfl (lv_at hl 1 rfl) ?_
  refine lv_iload_n hx hb d_L_member_5 rfl (lv_at hl 2 rfl) ?_
  refine lv_iload_n hx hb d_L_member_6 rfl (lv_at hl 3 rfl) ?_
  refine lv_lload hx hb d_L_member_7 (lv_at hl 4 rfl) ?_
  refine lv_iload hx hb d_L_member_9 (lv_at hl 5 rfl) ?_
  unfold fx_L_member at h
  obtain ⟨r, S1, e1, h⟩ := zz_bind h
  have kk := k_X_member l hl0 z A ([(o, .inl (zL z, 1, .inr (.inl f)))] ++ Rr) n _ _ _ _ _ _ _ _ e1
  cases r with
  | inl v =>
    have h : some ((0 : Int32), S1, vp_updL f 0 v.toInt64) = some (k, S', f') := h
    cases h
    refine zz_goN (zz_runVK (As := [.int a1, .int a2, .int a3, .long a4, .int a6]) (rest := [.int 0, .ref o]) (zX.met (x := .int v) kk) ⟨hx, hb, hml, hown, hts⟩ (cwV 5 hts (zz_gV wq_393 wq_394 wq_395 wq_1 wq_396) rfl rfl rfl (by decide +kernel) ⟨Nat.le_of_ble_eq_true rfl, Nat.le_of_ble_eq_true rfl⟩) (zz_preX hK hN hSt hTh hP hD hS hA rfl) (va_recv hK hP (ci := 0) (q0 := 0) rfl rfl) rfl hl.1 rfl (Nat.le_of_ble_eq_true rfl) d_L_member_11 ⟨Nat.le_of_ble_eq_true rfl, Nat.le_of_ble_eq_true rfl⟩) hD hS hA (fun H locs hP hD hS => ?_)
    refine lv_i2l (v := v.toInt64) hx hb d_L_member_14 rfl ?_
    have hP := zz_s3P hP
    have hD := zz_s3D hD
    refine va_last hx hb hK hP hD hS 0 2 rfl rfl (show ¬ ((0 : Int32) < 0 ∨ 1 ≤ (0 : Int32).toNatClampNeg) by decide) d_L_member_15 (fun H locs hP hD hS => ?_)
    have hP : va_P z.1 vwCl ([(o, .inl (zL z, 1, .inr (.inl (vp_updL f 0 v.toInt64))))] ++ (cw z A S' ++ Rr)) H := hP
    have hD : va_D A0 ([(o, .inl (zL z, 1, .inr (.inl (vp_updL f 0 v.toInt64))))] ++ (cw z A S' ++ Rr)) := hD
    have hP := zz_s3P hP
    have hD := zz_s3D hD
    refine lv_goto (tgt := 27) hx hb d_L_member_16 (by decide) ?_
    refine lv_iconst (v := 0) hx hb d_L_member_27 (by decide) ?_
    exact zz_iretK hx hb hr hlocks hP hD hS (Nat.le_of_ble_eq_true rfl) (Nat.le_of_ble_eq_true rfl) d_L_member_28
  | inr E =>
    have h : (if E = 1 then some ((1 : Int32), S1, f) else if E = 2 then some ((2 : Int32), S1, f) else none) = some (k, S', f') := h
    by_cases c0 : E = 1
    · replace h := zz_t c0 h
      subst c0
      cases h
      refine zz_callT (E := eIA) (hpc := 19) (As := [.int a1, .int a2, .int a3, .long a4, .int a6]) (rest := [.int 0, .ref o]) kk ⟨hx, hb, hml, hown, hts⟩ (cwV 5 hts (zz_gV wq_393 wq_394 wq_395 wq_1 wq_396) rfl rfl rfl (by decide +kernel) ⟨Nat.le_of_ble_eq_true rfl, Nat.le_of_ble_eq_true rfl⟩) (zz_preX hK hN hSt hTh hP hD hS hA rfl) (va_recv hK hP (ci := 0) (q0 := 0) rfl rfl) rfl hl.1 rfl (Nat.le_of_ble_eq_true rfl) d_L_member_11 ⟨Nat.le_of_ble_eq_true rfl, Nat.le_of_ble_eq_true rfl⟩ hD hS hA [] x0 [x1] (by rw [et]; rfl) xc0 (fun r hr9 => absurd hr9 List.not_mem_nil) (by unfold covers; rw [xa0, xb0]; decide) (by rw [xd0]; decide) (by rw [xd0]; exact hts _ wq_280) (hSt.2.2 0 _ rfl) (fun H locs q hP hD hS => ?_)
      refine lv_astore (lv' := [(8, .ref q), (0, .ref (A 0)), (1, .int a1), (2, .int a2), (3, .int a3), (4, .long a4), (6, .int a6), (7, .ref o)]) hx hb d_L_member_19 hl (by decide) rfl (fun ls hl => ?_)
      refine lv_iconst (v := 1) hx hb d_L_member_21 (by decide) ?_
      exact zz_iretK hx hb hr hlocks hP hD hS (Nat.le_of_ble_eq_true rfl) (Nat.le_of_ble_eq_true rfl) d_L_member_22
    replace h := zz_f c0 h
    by_cases c1 : E = 2
    · replace h := zz_t c1 h
      subst c1
      cases h
      refine zz_callT (E := eIS) (hpc := 23) (As := [.int a1, .int a2, .int a3, .long a4, .int a6]) (rest := [.int 0, .ref o]) kk ⟨hx, hb, hml, hown, hts⟩ (cwV 5 hts (zz_gV wq_393 wq_394 wq_395 wq_1 wq_396) rfl rfl rfl (by decide +kernel) ⟨Nat.le_of_ble_eq_true rfl, Nat.le_of_ble_eq_true rfl⟩) (zz_preX hK hN hSt hTh hP hD hS hA rfl) (va_recv hK hP (ci := 0) (q0 := 0) rfl rfl) rfl hl.1 rfl (Nat.le_of_ble_eq_true rfl) d_L_member_11 ⟨Nat.le_of_ble_eq_true rfl, Nat.le_of_ble_eq_true rfl⟩ hD hS hA [x0] x1 [] (by rw [et]; rfl) xc1 (fun r hr9 => by rw [List.mem_singleton.mp hr9]; exact ⟨by rw [xd0]; decide, eIA, by rw [xd0]; exact hts _ wq_280, hSt.2.1 0 _ rfl⟩) (by unfold covers; rw [xa1, xb1]; decide) (by rw [xd1]; decide) (by rw [xd1]; exact hts _ wq_281) (hSt.2.2 1 _ rfl) (fun H locs q hP hD hS => ?_)
      refine lv_astore (lv' := [(8, .ref q), (0, .ref (A 0)), (1, .int a1), (2, .int a2), (3, .int a3), (4, .long a4), (6, .int a6), (7, .ref o)]) hx hb d_L_member_23 hl (by decide) rfl (fun ls hl => ?_)
      refine lv_iconst (v := 2) hx hb d_L_member_25 (by decide) ?_
      exact zz_iretK hx hb hr hlocks hP hD hS (Nat.le_of_ble_eq_true rfl) (Nat.le_of_ble_eq_true rfl) d_L_member_26
    replace h := zz_f c1 h
    cases h

abbrev b_L_call : ByteArray := method_6_code
abbrev y_L_call : MethodName := ⟨"MemberChooserLaw", "call", "(LMemberChooser;IIIJ[J)I"⟩
abbrev w_L_call : List Cond := Cond.codeWith y_L_call b_L_call 8 (some .int) [(0, 14, 17, 13), (0, 14, 21, 29), (0, 14, 25, 31)] :: zTb
theorem d_L_call_0 : decode b_L_call 0 = .ok (.aload 6, 2) := by decide +kernel
theorem d_L_call_2 : decode b_L_call 2 = .ok (.iconst 0, 1) := by decide +kernel
theorem d_L_call_3 : decode b_L_call 3 = .ok (.aload_n 0, 1) := by decide +kernel
theorem d_L_call_4 : decode b_L_call 4 = .ok (.iload_n 1, 1) := by decide +kernel
theorem d_L_call_5 : decode b_L_call 5 = .ok (.iload_n 2, 1) := by decide +kernel
theorem d_L_call_6 : decode b_L_call 6 = .ok (.iload_n 3, 1) := by decide +kernel
theorem d_L_call_7 : decode b_L_call 7 = .ok (.lload 4, 2) := by decide +kernel
theorem d_L_call_9 : decode b_L_call 9 = .ok (.invokevirtual 25, 3) := by decide +kernel
theorem d_L_call_12 : decode b_L_call 12 = .ok (.i2l, 1) := by decide +kernel
theorem d_L_call_13 : decode b_L_call 13 = .ok (.lastore, 1) := by decide +kernel
theorem d_L_call_14 : decode b_L_call 14 = .ok (.goto 15, 3) := by decide +kernel
theorem d_L_call_17 : decode b_L_call 17 = .ok (.astore 7, 2) := by decide +kernel
theorem d_L_call_19 : decode b_L_call 19 = .ok (.iconst 1, 1) := by decide +kernel
theorem d_L_call_20 : decode b_L_call 20 = .ok (.ireturn, 1) := by decide +kernel
theorem d_L_call_21 : decode b_L_call 21 = .ok (.astore 7, 2) := by decide +kernel
theorem d_L_call_23 : decode b_L_call 23 = .ok (.iconst 2, 1) := by decide +kernel
theorem d_L_call_24 : decode b_L_call 24 = .ok (.ireturn, 1) := by decide +kernel
theorem d_L_call_25 : decode b_L_call 25 = .ok (.astore 7, 2) := by decide +kernel
theorem d_L_call_27 : decode b_L_call 27 = .ok (.iconst 3, 1) := by decide +kernel
theorem d_L_call_28 : decode b_L_call 28 = .ok (.ireturn, 1) := by decide +kernel
theorem d_L_call_29 : decode b_L_call 29 = .ok (.iconst 0, 1) := by decide +kernel
theorem d_L_call_30 : decode b_L_call 30 = .ok (.ireturn, 1) := by decide +kernel
def fx_L_call (n : Nat) (S : ZC) (f : Nat → Int64) (a1 : Int32) (a2 : Int32) (a3 : Int32) (a4 : Int64) : Option (Int32 × ZC × (Nat → Int64)) := zbind (fx_X_call n S a1 a2 a3 a4) (fun r S1 => zcase r (fun v => some ((0 : Int32), S1, vp_updL f 0 v.toInt64)) (fun E => if E = 1 then some ((1 : Int32), S1, f) else if E = 3 then some ((2 : Int32), S1, f) else if E = 4 then some ((3 : Int32), S1, f) else none))
abbrev rm_L_call : Room := { frames := 32, cells := 1, slots := 6, locals := 857 }
set_option maxRecDepth 100000 in
set_option maxHeartbeats 4000000 in
theorem k_L_call (l : Launch) (hl0 : l.stackTraces = false) (z : zE) (A : Nat → Nat) (o : Nat) (Rr : va_W) (n : Nat) (S : ZC) (f : Nat → Int64) (a1 : Int32) (a2 : Int32) (a3 : Int32) (a4 : Int64) (k : Int32) (S' : ZC) (f' : Nat → Int64) (h : fx_L_call n S f a1 a2 a3 a4 = some (k, S', f')) : zK z l y_L_call w_L_call rm_L_call [.ref (A 0), .int a1, .int a2, .int a3, .long a4, .ref o] (cw z A S ++ ([(o, .inl (zL z, 1, .inr (.inl f)))] ++ Rr)) (some (.int k)) (cw z A S' ++ ([(o, .inl (zL z, 1, .inr (.inl f')))] ++ Rr)) 1 6 := by
  refine zz_ofW (by decide) (Nat.le_of_ble_eq_true rfl) ?_
  intro p e s m args below meth c A0 ls hM hSt hTh hT hr hlocks hA hP hD hl
  have hM : zM z p s m args c b_L_call 8 R_L := hM
  obtain ⟨hx, hb, hml, hown, hts, hK, hN⟩ := id hM
  have hS : va_S A0 s.heap s.heap [] := va_S.rf
  have hl : lv_has ls 8 [(0, .ref (A 0)), (1, .int a1), (2, .int a2), (3, .int a3), (4, .long a4), (6, .ref o)] := hl
  obtain ⟨x0, t0, et0, ex0, hT0⟩ := zz_tab hT
  obtain ⟨x1, t1, et1, ex1, hT1⟩ := zz_tab hT0
  obtain ⟨x2, t2, et2, ex2, hT2⟩ := zz_tab hT1
  have et3 := zz_tab0 hT2
  have et : c.exceptionTable.toList = [x0, x1, x2] := by rw [et0, et1, et2, et3]
  obtain ⟨xa0, xb0, xc0, xd0⟩ : x0.startPc = 0 ∧ x0.endPc = 14 ∧ x0.handlerPc = 17 ∧ x0.catchType = 13 := by simpa using ex0
  obtain ⟨xa1, xb1, xc1, xd1⟩ : x1.startPc = 0 ∧ x1.endPc = 14 ∧ x1.handlerPc = 21 ∧ x1.catchType = 29 := by simpa using ex1
  obtain ⟨xa2, xb2, xc2, xd2⟩ : x2.startPc = 0 ∧ x2.endPc = 14 ∧ x2.handlerPc = 25 ∧ x2.catchType = 31 := by simpa using ex2
  refine lv_aload hx hb d_L_call_0 (lv_at hl 5 rfl) ?_
  refine lv_iconst (v := 0) hx hb d_L_call_2 (by decide) ?_
  refine lv_aload_n hx hb d_L_call_3 rfl (lv_at hl 0 rfl) ?_
  refine lv_iload_n hx hb d_L_call_4 rfl (lv_at hl 1 rfl) ?_
  refine lv_iload_n hx hb d_L_call_5 rfl (lv_at hl 2 rfl) ?_
  refine lv_iload_n hx hb d_L_call_6 rfl (lv_at hl 3 rfl) ?_
  refine lv_lload hx hb d_L_call_7 (lv_at hl 4 rfl) ?_
  unfold fx_L_call at h
  obtain ⟨r, S1, e1, h⟩ := zz_bind h
  have kk := k_X_call l hl0 z A ([(o, .inl (zL z, 1, .inr (.inl f)))] ++ Rr) n _ _ _ _ _ _ _ e1
  cases r with
  | inl v =>
    have h : some ((0 : Int32), S1, vp_updL f 0 v.toInt64) = some (k, S', f') := h
    cases h
    refine zz_goN (zz_runVK (As := [.int a1, .int a2, .int a3, .long a4]) (rest := [.int 0, .ref o]) (zX.met (x := .int v) kk) ⟨hx, hb, hml, hown, hts⟩ (cwV 4 hts (zz_gV wq_439 wq_440 wq_441 wq_1 wq_442) rfl rfl rfl (by decide +kernel) ⟨Nat.le_of_ble_eq_true rfl, Nat.le_of_ble_eq_true rfl⟩) (zz_preX hK hN hSt hTh hP hD hS hA rfl) (va_recv hK hP (ci := 0) (q0 := 0) rfl rfl) rfl hl.1 rfl (Nat.le_of_ble_eq_true rfl) d_L_call_9 ⟨Nat.le_of_ble_eq_true rfl, Nat.le_of_ble_eq_true rfl⟩) hD hS hA (fun H locs hP hD hS => ?_)
    refine lv_i2l (v := v.toInt64) hx hb d_L_call_12 rfl ?_
    have hP := zz_s3P hP
    have hD := zz_s3D hD
    refine va_last hx hb hK hP hD hS 0 2 rfl rfl (show ¬ ((0 : Int32) < 0 ∨ 1 ≤ (0 : Int32).toNatClampNeg) by decide) d_L_call_13 (fun H locs hP hD hS => ?_)
    have hP : va_P z.1 vwCl ([(o, .inl (zL z, 1, .inr (.inl (vp_updL f 0 v.toInt64))))] ++ (cw z A S' ++ Rr)) H := hP
    have hD : va_D A0 ([(o, .inl (zL z, 1, .inr (.inl (vp_updL f 0 v.toInt64))))] ++ (cw z A S' ++ Rr)) := hD
    have hP := zz_s3P hP
    have hD := zz_s3D hD
    refine lv_goto (tgt := 29) hx hb d_L_call_14 (by decide) ?_
    refine lv_iconst (v := 0) hx hb d_L_call_29 (by decide) ?_
    exact zz_iretK hx hb hr hlocks hP hD hS (Nat.le_of_ble_eq_true rfl) (Nat.le_of_ble_eq_true rfl) d_L_call_30
  | inr E =>
    have h : (if E = 1 then some ((1 : Int32), S1, f) else if E = 3 then some ((2 : Int32), S1, f) else if E = 4 then some ((3 : Int32), S1, f) else none) = some (k, S', f') := h
    by_cases c0 : E = 1
    · replace h := zz_t c0 h
      subst c0
      cases h
      refine zz_callT (E := eIA) (hpc := 17) (As := [.int a1, .int a2, .int a3, .long a4]) (rest := [.int 0, .ref o]) kk ⟨hx, hb, hml, hown, hts⟩ (cwV 4 hts (zz_gV wq_439 wq_440 wq_441 wq_1 wq_442) rfl rfl rfl (by decide +kernel) ⟨Nat.le_of_ble_eq_true rfl, Nat.le_of_ble_eq_true rfl⟩) (zz_preX hK hN hSt hTh hP hD hS hA rfl) (va_recv hK hP (ci := 0) (q0 := 0) rfl rfl) rfl hl.1 rfl (Nat.le_of_ble_eq_true rfl) d_L_call_9 ⟨Nat.le_of_ble_eq_true rfl, Nat.le_of_ble_eq_true rfl⟩ hD hS hA [] x0 [x1, x2] (by rw [et]; rfl) xc0 (fun r hr9 => absurd hr9 List.not_mem_nil) (by unfold covers; rw [xa0, xb0]; decide) (by rw [xd0]; decide) (by rw [xd0]; exact hts _ wq_280) (hSt.2.2 0 _ rfl) (fun H locs q hP hD hS => ?_)
      refine lv_astore (lv' := [(7, .ref q), (0, .ref (A 0)), (1, .int a1), (2, .int a2), (3, .int a3), (4, .long a4), (6, .ref o)]) hx hb d_L_call_17 hl (by decide) rfl (fun ls hl => ?_)
      refine lv_iconst (v := 1) hx hb d_L_call_19 (by decide) ?_
      exact zz_iretK hx hb hr hlocks hP hD hS (Nat.le_of_ble_eq_true rfl) (Nat.le_of_ble_eq_true rfl) d_L_call_20
    replace h := zz_f c0 h
    by_cases c1 : E = 3
    · replace h := zz_t c1 h
      subst c1
      cases h
      refine zz_callT (E := eAR) (hpc := 21) (As := [.int a1, .int a2, .int a3, .long a4]) (rest := [.int 0, .ref o]) kk ⟨hx, hb, hml, hown, hts⟩ (cwV 4 hts (zz_gV wq_439 wq_440 wq_441 wq_1 wq_442) rfl rfl rfl (by decide +kernel) ⟨Nat.le_of_ble_eq_true rfl, Nat.le_of_ble_eq_true rfl⟩) (zz_preX hK hN hSt hTh hP hD hS hA rfl) (va_recv hK hP (ci := 0) (q0 := 0) rfl rfl) rfl hl.1 rfl (Nat.le_of_ble_eq_true rfl) d_L_call_9 ⟨Nat.le_of_ble_eq_true rfl, Nat.le_of_ble_eq_true rfl⟩ hD hS hA [x0] x1 [x2] (by rw [et]; rfl) xc1 (fun r hr9 => by rw [List.mem_singleton.mp hr9]; exact ⟨by rw [xd0]; decide, eIA, by rw [xd0]; exact hts _ wq_280, hSt.2.1 1 _ rfl⟩) (by unfold covers; rw [xa1, xb1]; decide) (by rw [xd1]; decide) (by rw [xd1]; exact hts _ wq_437) (hSt.2.2 2 _ rfl) (fun H locs q hP hD hS => ?_)
      refine lv_astore (lv' := [(7, .ref q), (0, .ref (A 0)), (1, .int a1), (2, .int a2), (3, .int a3), (4, .long a4), (6, .ref o)]) hx hb d_L_call_21 hl (by decide) rfl (fun ls hl => ?_)
      refine lv_iconst (v := 2) hx hb d_L_call_23 (by decide) ?_
      exact zz_iretK hx hb hr hlocks hP hD hS (Nat.le_of_ble_eq_true rfl) (Nat.le_of_ble_eq_true rfl) d_L_call_24
    replace h := zz_f c1 h
    by_cases c2 : E = 4
    · replace h := zz_t c2 h
      subst c2
      cases h
      refine zz_callT (E := eNS) (hpc := 25) (As := [.int a1, .int a2, .int a3, .long a4]) (rest := [.int 0, .ref o]) kk ⟨hx, hb, hml, hown, hts⟩ (cwV 4 hts (zz_gV wq_439 wq_440 wq_441 wq_1 wq_442) rfl rfl rfl (by decide +kernel) ⟨Nat.le_of_ble_eq_true rfl, Nat.le_of_ble_eq_true rfl⟩) (zz_preX hK hN hSt hTh hP hD hS hA rfl) (va_recv hK hP (ci := 0) (q0 := 0) rfl rfl) rfl hl.1 rfl (Nat.le_of_ble_eq_true rfl) d_L_call_9 ⟨Nat.le_of_ble_eq_true rfl, Nat.le_of_ble_eq_true rfl⟩ hD hS hA [x0, x1] x2 [] (by rw [et]; rfl) xc2 (fun r hr9 => by rcases List.mem_cons.mp hr9 with e9 | hr9; (rw [e9]; exact ⟨by rw [xd0]; decide, eIA, by rw [xd0]; exact hts _ wq_280, hSt.2.1 2 _ rfl⟩); (rw [List.mem_singleton.mp hr9]; exact ⟨by rw [xd1]; decide, eAR, by rw [xd1]; exact hts _ wq_437, hSt.2.1 3 _ rfl⟩)) (by unfold covers; rw [xa2, xb2]; decide) (by rw [xd2]; decide) (by rw [xd2]; exact hts _ wq_438) (hSt.2.2 3 _ rfl) (fun H locs q hP hD hS => ?_)
      refine lv_astore (lv' := [(7, .ref q), (0, .ref (A 0)), (1, .int a1), (2, .int a2), (3, .int a3), (4, .long a4), (6, .ref o)]) hx hb d_L_call_25 hl (by decide) rfl (fun ls hl => ?_)
      refine lv_iconst (v := 3) hx hb d_L_call_27 (by decide) ?_
      exact zz_iretK hx hb hr hlocks hP hD hS (Nat.le_of_ble_eq_true rfl) (Nat.le_of_ble_eq_true rfl) d_L_call_28
    replace h := zz_f c2 h
    cases h

